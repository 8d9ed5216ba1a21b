def fX6_judge_L62 (k103 : Nat) (X : F4) (fd : Nat → Int32) (kx : Rf → Option (Int32 × Rf × (Nat → Int32))) : Nat → Rf → Int32 → Option (Int32 × Rf × (Nat → Int32))
  | 0, _, _ => none
  | k + 1, B, x3 => if (X k103).2.2 ≤ x3 then (kx B) else (o1 (fX6_at 40 ((X k103).1) x3) (fun x110 => o1 (fX6_isWithin x110 (0 : Int32) (39 : Int32)) (fun x111 => if x111 = 0 then (some (((2 : Int32) + x3), B, fd)) else (o1 (fX1_passHour B (x110 / (10 : Int32)) (x110 - x110 / (10 : Int32) * (10 : Int32))) (fun R112 => fX6_judge_L62 k103 X fd kx k R112 (x3 + (1 : Int32)))))))
def fX6_judge (R : Rf) (B : Rf) (X : F4) (fd : Nat → Int32) (a1 : Int32) : Option (Int32 × Rf × (Nat → Int32)) := sh a1 (fun k103 => o1 (fX2_isMissing (X k103)) (fun x104 => if x104 = 0 then (o1 (fX6_isTooLate R ((X k103).2.2)) (fun x105 => if x105 = 0 then (o1 (fX1_become B R) (fun R106 => fX6_judge_L62 k103 X fd (fun B113 => o1 (fX1_isOpen B113) (fun x114 => if x114 = 0 then (some ((1 : Int32), B113, fd)) else (some ((0 : Int32), B113, fd)))) fu R106 (0 : Int32))) else (o2 (fX6_finding fd (-1000005 : Int32)) (fun x115 fd116 => some (x115, B, fd116))))) else (o2 (fX6_finding fd (-1000006 : Int32)) (fun x117 fd118 => some (x117, B, fd118))))) (o2 (fX6_finding fd (-1000001 : Int32)) (fun x101 fd102 => some (x101, B, fd102)))
theorem q_X6_judge : yX6_judge.cls = RX6 ∧ yX6_judge.cls ≠ "java/lang/invoke/MethodHandle" ∧ yX6_judge.cls ≠ "java/lang/invoke/VarHandle" ∧ (parseMethodDescriptor yX6_judge.desc).map (fun d => d.parameters.length) = some 1 := by decide +kernel
theorem i_X6_judge_X2 : ∀ w ∈ u_ws RX2 TX2 3, w ∈ wsX6_judge := fun _ h => List.mem_cons_of_mem _ (List.mem_append_left _ (List.mem_append_left _ (List.mem_append_right _ (h))))
theorem i_X6_judge_X6 : ∀ w ∈ u_ws RX6 TX6 11, w ∈ wsX6_judge := fun _ h => List.mem_cons_of_mem _ (List.mem_append_left _ (List.mem_append_right _ (h)))
set_option maxHeartbeats 4000000 in
set_option maxRecDepth 100000 in
theorem c_X6_judge (l : Launch) (g : gG) (v0 u0 u1 u2 u3 k0 k1 k2 k3 h0 h1 h2 h3 s0 s1 s2 s3 c0 c1 c2 p0 r0 t0 t1 t2 t3 z0 f0 : Nat) (ea : Nat → Nat) (R : Rf) (N : Rf) (B : Rf) (S : Sv) (C : Ca) (P : Nat → Int32) (Q : Tr) (K : Tk) (X : F4) (fd : Nat → Int32) (tl : Int32) (ik : Int32) (a1 : Int32) {r : Int32} {B' : Rf} {fd' : Nat → Int32} (hf : fX6_judge R B X fd a1 = some (r, B', fd')) : Ct l yX6_judge wsX6_judge (rmm 5 112) g (wV g v0 u0 u1 u2 u3 k0 k1 k2 k3 h0 h1 h2 h3 s0 s1 s2 s3 c0 c1 c2 p0 r0 t0 t1 t2 t3 z0 f0 ea R N B S C P Q K X fd tl ik) (wV g v0 u0 u1 u2 u3 k0 k1 k2 k3 h0 h1 h2 h3 s0 s1 s2 s3 c0 c1 c2 p0 r0 t0 t1 t2 t3 z0 f0 ea R N (B') S C P Q K X (fd') tl ik) [.ref v0, .int a1] (some (.int r)) := by
  refine Ct.mk (by decide) rfl (Nat.le_of_ble_eq_true rfl) ?_
  intro p e s m args below meth c A ls hx hb hr hml hts hown hlocks hA hE hP hD hS hl hAe
  obtain ⟨Qx, hQ⟩ : ∃ Qx : State → Prop, Qx = MQ below (QcG g (wV g v0 u0 u1 u2 u3 k0 k1 k2 k3 h0 h1 h2 h3 s0 s1 s2 s3 c0 c1 c2 p0 r0 t0 t1 t2 t3 z0 f0 ea R N B S C P Q K X fd tl ik) (wV g v0 u0 u1 u2 u3 k0 k1 k2 k3 h0 h1 h2 h3 s0 s1 s2 s3 c0 c1 c2 p0 r0 t0 t1 t2 t3 z0 f0 ea R N (B') S C P Q K X (fd') tl ik) (some (.int r)) s.heap.size) args s 0 0 A := ⟨_, rfl⟩
  rw [← hQ]
  have hown : s.vm.findClass RX6 = some m.cls := hown
  have hl : lv_has ls 5 [(0, .ref v0), (1, .int a1)] := hl
  have w1 := hts (.constant RX6 73 (-1000001)) (List.mem_of_getElem? (i := 1) rfl)
  have w2 := hts (.fieldLink RX6 19 "RainVault" "trial" "LRainVault$Roof;") (List.mem_of_getElem? (i := 4) rfl)
  have w3 := hts (.fieldLink RX6 10 "RainVault" "roof" "LRainVault$Roof;") (List.mem_of_getElem? (i := 5) rfl)
  have w4 := hts (.constant RX6 143 (-1000005)) (List.mem_of_getElem? (i := 3) rfl)
  have w5 := hts (.constant RX6 221 (-1000006)) (List.mem_of_getElem? (i := 2) rfl)
  have L62_0 : ∀ (fd : Nat → Int32) (kx : Rf → Option (Int32 × Rf × (Nat → Int32))) (k : Nat) (B : Rf) (x3 : Int32) (H : Heap) (locs : List Loc) (ls : Array Slot), fX6_judge_L62 0 X fd kx k B x3 = some (r, B', fd') → va_P g.1 vwK (wV g v0 u0 u1 u2 u3 k0 k1 k2 k3 h0 h1 h2 h3 s0 s1 s2 s3 c0 c1 c2 p0 r0 t0 t1 t2 t3 z0 f0 ea R N B S C P Q K X fd tl ik) H → va_D A (wV g v0 u0 u1 u2 u3 k0 k1 k2 k3 h0 h1 h2 h3 s0 s1 s2 s3 c0 c1 c2 p0 r0 t0 t1 t2 t3 z0 f0 ea R N B S C P Q K X fd tl ik) → va_S A s.heap H locs → lv_has ls 5 [(0, .ref v0), (2, .ref (ea 0)), (3, .int x3)] → (∀ (B : Rf) (H : Heap) (locs : List Loc) (ls : Array Slot), kx B = some (r, B', fd') → va_P g.1 vwK (wV g v0 u0 u1 u2 u3 k0 k1 k2 k3 h0 h1 h2 h3 s0 s1 s2 s3 c0 c1 c2 p0 r0 t0 t1 t2 t3 z0 f0 ea R N B S C P Q K X fd tl ik) H → va_D A (wV g v0 u0 u1 u2 u3 k0 k1 k2 k3 h0 h1 h2 h3 s0 s1 s2 s3 c0 c1 c2 p0 r0 t0 t1 t2 t3 z0 f0 ea R N B S C P Q K X fd tl ik) → va_S A s.heap H locs → lv_has ls 5 [(0, .ref v0)] → W p l e (rmm 5 112) s m args below meth c H locs 0 0 Qx (F0 m 118 ls [])) → W p l e (rmm 5 112) s m args below meth c H locs 0 0 Qx (F0 m 62 ls []) := by
    intro fd kx k
    induction k with
    | zero => intro B x3 H locs ls hf; exact nomatch (show (none : Option (Int32 × Rf × (Nat → Int32))) = some _ from hf)
    | succ k ih =>
      intro B x3 H locs ls hf hP hD hS hl hk
      rw [fX6_judge_L62] at hf
      refine lv_iload_n hx hb dX6_judge_62 rfl (lv_at hl 2 rfl) ?_
      refine lv_aload_n hx hb dX6_judge_63 rfl (lv_at hl 1 rfl) ?_
      refine va_getN (D := g.1) (ci := 2) (v := .int ((X 0).2.2)) (C := RX2) (T := TX2) (N := 3) hx hb hts i_X6_judge_X2 hown hE.1 hP 27 rfl rfl 2 (by decide) (va_Nw.use rfl (hE.2.1 _ (List.mem_of_getElem? (i := 20) rfl))) (fun _ h9 => h9) rfl dX6_judge_64 ?_
      refine lv_icmp_ge (tgt := 118) hx hb dX6_judge_67 (by decide) (fun hc => ?_) (fun hc => ?_)
      · have hf := if_t hf hc
        exact hk _ _ _ _  hf hP hD hS (lv_sub hl [0] rfl)
      · have hf := if_f hf hc
        refine lv_aload_n hx hb dX6_judge_70 rfl (lv_at hl 1 rfl) ?_
        refine va_getN (D := g.1) (ci := 2) (v := .ref (ea 4)) (C := RX2) (T := TX2) (N := 3) hx hb hts i_X6_judge_X2 hown hE.1 hP 27 rfl rfl 0 (by decide) (va_Nw.use rfl (hE.2.1 _ (List.mem_of_getElem? (i := 18) rfl))) (fun _ h9 => h9) rfl dX6_judge_71 ?_
        refine lv_iload_n hx hb dX6_judge_74 rfl (lv_at hl 2 rfl) ?_
        obtain ⟨x110, hg, hf⟩ := o1_s hf
        refine Ct.callS (ws' := wV g v0 u0 u1 u2 u3 k0 k1 k2 k3 h0 h1 h2 h3 s0 s1 s2 s3 c0 c1 c2 p0 r0 t0 t1 t2 t3 z0 f0 ea R N B S C P Q K X fd tl ik) (As := [.ref (ea 4), .int x3]) (rest := []) (st1 := [.int x110]) (c_X6_at l g (ea 4) 40 ((X 0).1) x3 hg) (va_cwS 2 hts gX6_judge_X6_at rfl rfl rfl q_X6_at.2 ⟨Nat.le_of_ble_eq_true rfl, Nat.le_of_ble_eq_true rfl⟩) ⟨hx, hb, hml, hown, hts⟩ hE hP hD hS hA [28] rfl rfl rfl rfl rfl hl.1 rfl rfl (Nat.le_of_ble_eq_true rfl) dX6_judge_75 (fun H locs hP hD hS => ?_)
        refine lv_istore (lv' := [(4, .int x110), (0, .ref v0), (2, .ref (ea 0)), (3, .int x3)]) hx hb dX6_judge_78 hl (by decide) rfl (fun ls hl => ?_)
        refine lv_iload hx hb dX6_judge_80 (lv_at hl 0 rfl) ?_
        refine lv_iconst (v := (0 : Int32)) hx hb dX6_judge_82 (by decide) ?_
        refine lv_bipush (v := (39 : Int32)) hx hb dX6_judge_83 (by decide) ?_
        obtain ⟨x111, hg, hf⟩ := o1_s hf
        refine Ct.callS (ws' := wV g v0 u0 u1 u2 u3 k0 k1 k2 k3 h0 h1 h2 h3 s0 s1 s2 s3 c0 c1 c2 p0 r0 t0 t1 t2 t3 z0 f0 ea R N B S C P Q K X fd tl ik) (As := [.int x110, .int (0 : Int32), .int (39 : Int32)]) (rest := []) (st1 := [.int x111]) (c_X6_isWithin l g x110 (0 : Int32) (39 : Int32) hg) (va_cwS 3 hts gX6_judge_X6_isWithin rfl rfl rfl q_X6_isWithin.2 ⟨Nat.le_of_ble_eq_true rfl, Nat.le_of_ble_eq_true rfl⟩) ⟨hx, hb, hml, hown, hts⟩ hE hP hD hS hA [] rfl rfl rfl rfl rfl hl.1 rfl rfl (Nat.le_of_ble_eq_true rfl) dX6_judge_85 (fun H locs hP hD hS => ?_)
        refine lv_if_ne (tgt := 95) hx hb dX6_judge_88 (by decide) (fun hc => ?_) (fun hc => ?_)
        · have hf := if_f hf hc
          refine lv_aload_n hx hb dX6_judge_95 rfl (lv_at hl 1 rfl) ?_
          refine va_get (D := g.1) (ci := 6) (v := .ref h0) (C := RX6) (T := TX6) (N := 11) hx hb hts i_X6_judge_X6 hown hE.1 hP 0 rfl rfl 2 (by decide) w2 (fun _ h9 => h9) rfl dX6_judge_96 ?_
          refine lv_iload hx hb dX6_judge_99 (lv_at hl 0 rfl) ?_
          refine lv_bipush (v := (10 : Int32)) hx hb dX6_judge_101 (by decide) ?_
          refine lv_idiv hx hb dX6_judge_103 (by decide) ?_
          refine lv_iload hx hb dX6_judge_104 (lv_at hl 0 rfl) ?_
          refine lv_bipush (v := (10 : Int32)) hx hb dX6_judge_106 (by decide) ?_
          refine lv_irem hx hb dX6_judge_108 (by decide) ?_
          obtain ⟨R112, hg, hf⟩ := o1_s hf
          refine Ct.callV (ws' := wV g v0 u0 u1 u2 u3 k0 k1 k2 k3 h0 h1 h2 h3 s0 s1 s2 s3 c0 c1 c2 p0 r0 t0 t1 t2 t3 z0 f0 ea R N R112 S C P Q K X fd tl ik) (As := [.int (x110 / (10 : Int32)), .int (x110 - x110 / (10 : Int32) * (10 : Int32))]) (rest := []) (st1 := []) (c_X1_passHour l g h0 h1 h2 h3 B (x110 / (10 : Int32)) (x110 - x110 / (10 : Int32) * (10 : Int32)) hg) (cwV 2 hts gX6_judge_X1_passHour rfl rfl rfl q_X1_passHour ⟨Nat.le_of_ble_eq_true rfl, Nat.le_of_ble_eq_true rfl⟩) ⟨hx, hb, hml, hown, hts⟩ hE hP hD hS hA [9, 10, 11, 12] rfl rfl rfl rfl 1 9 rfl rfl rfl rfl hl.1 rfl rfl (Nat.le_of_ble_eq_true rfl) dX6_judge_109 (fun H locs hP hD hS => ?_)
          refine lv_iinc (v := (x3 + (1 : Int32))) (lv' := [(3, .int (x3 + (1 : Int32))), (4, .int x110), (0, .ref v0), (2, .ref (ea 0))]) hx hb dX6_judge_112 hl (k := 3) rfl rfl (by decide) rfl (fun ls hl => ?_)
          refine lv_goto (tgt := 62) hx hb dX6_judge_115 (by decide) ?_
          exact ih _ _ _ _ _  hf hP hD hS (lv_sub hl [2, 3, 0] rfl) hk
        · have hf := if_t hf hc
          refine lv_iconst (v := (2 : Int32)) hx hb dX6_judge_91 (by decide) ?_
          refine lv_iload_n hx hb dX6_judge_92 rfl (lv_at hl 3 rfl) ?_
          refine lv_iadd hx hb dX6_judge_93 ?_
          obtain ⟨rfl, rfl, rfl⟩ := some_p3 hf
          rw [hQ]; exact Ct.iret hx hb hr hlocks hAe hP hD hS dX6_judge_94
  have L62_1 : ∀ (fd : Nat → Int32) (kx : Rf → Option (Int32 × Rf × (Nat → Int32))) (k : Nat) (B : Rf) (x3 : Int32) (H : Heap) (locs : List Loc) (ls : Array Slot), fX6_judge_L62 1 X fd kx k B x3 = some (r, B', fd') → va_P g.1 vwK (wV g v0 u0 u1 u2 u3 k0 k1 k2 k3 h0 h1 h2 h3 s0 s1 s2 s3 c0 c1 c2 p0 r0 t0 t1 t2 t3 z0 f0 ea R N B S C P Q K X fd tl ik) H → va_D A (wV g v0 u0 u1 u2 u3 k0 k1 k2 k3 h0 h1 h2 h3 s0 s1 s2 s3 c0 c1 c2 p0 r0 t0 t1 t2 t3 z0 f0 ea R N B S C P Q K X fd tl ik) → va_S A s.heap H locs → lv_has ls 5 [(0, .ref v0), (2, .ref (ea 1)), (3, .int x3)] → (∀ (B : Rf) (H : Heap) (locs : List Loc) (ls : Array Slot), kx B = some (r, B', fd') → va_P g.1 vwK (wV g v0 u0 u1 u2 u3 k0 k1 k2 k3 h0 h1 h2 h3 s0 s1 s2 s3 c0 c1 c2 p0 r0 t0 t1 t2 t3 z0 f0 ea R N B S C P Q K X fd tl ik) H → va_D A (wV g v0 u0 u1 u2 u3 k0 k1 k2 k3 h0 h1 h2 h3 s0 s1 s2 s3 c0 c1 c2 p0 r0 t0 t1 t2 t3 z0 f0 ea R N B S C P Q K X fd tl ik) → va_S A s.heap H locs → lv_has ls 5 [(0, .ref v0)] → W p l e (rmm 5 112) s m args below meth c H locs 0 0 Qx (F0 m 118 ls [])) → W p l e (rmm 5 112) s m args below meth c H locs 0 0 Qx (F0 m 62 ls []) := by
    intro fd kx k
    induction k with
    | zero => intro B x3 H locs ls hf; exact nomatch (show (none : Option (Int32 × Rf × (Nat → Int32))) = some _ from hf)
    | succ k ih =>
      intro B x3 H locs ls hf hP hD hS hl hk
      rw [fX6_judge_L62] at hf
      refine lv_iload_n hx hb dX6_judge_62 rfl (lv_at hl 2 rfl) ?_
      refine lv_aload_n hx hb dX6_judge_63 rfl (lv_at hl 1 rfl) ?_
      refine va_getN (D := g.1) (ci := 2) (v := .int ((X 1).2.2)) (C := RX2) (T := TX2) (N := 3) hx hb hts i_X6_judge_X2 hown hE.1 hP 29 rfl rfl 2 (by decide) (va_Nw.use rfl (hE.2.1 _ (List.mem_of_getElem? (i := 20) rfl))) (fun _ h9 => h9) rfl dX6_judge_64 ?_
      refine lv_icmp_ge (tgt := 118) hx hb dX6_judge_67 (by decide) (fun hc => ?_) (fun hc => ?_)
      · have hf := if_t hf hc
        exact hk _ _ _ _  hf hP hD hS (lv_sub hl [0] rfl)
      · have hf := if_f hf hc
        refine lv_aload_n hx hb dX6_judge_70 rfl (lv_at hl 1 rfl) ?_
        refine va_getN (D := g.1) (ci := 2) (v := .ref (ea 5)) (C := RX2) (T := TX2) (N := 3) hx hb hts i_X6_judge_X2 hown hE.1 hP 29 rfl rfl 0 (by decide) (va_Nw.use rfl (hE.2.1 _ (List.mem_of_getElem? (i := 18) rfl))) (fun _ h9 => h9) rfl dX6_judge_71 ?_
        refine lv_iload_n hx hb dX6_judge_74 rfl (lv_at hl 2 rfl) ?_
        obtain ⟨x110, hg, hf⟩ := o1_s hf
        refine Ct.callS (ws' := wV g v0 u0 u1 u2 u3 k0 k1 k2 k3 h0 h1 h2 h3 s0 s1 s2 s3 c0 c1 c2 p0 r0 t0 t1 t2 t3 z0 f0 ea R N B S C P Q K X fd tl ik) (As := [.ref (ea 5), .int x3]) (rest := []) (st1 := [.int x110]) (c_X6_at l g (ea 5) 40 ((X 1).1) x3 hg) (va_cwS 2 hts gX6_judge_X6_at rfl rfl rfl q_X6_at.2 ⟨Nat.le_of_ble_eq_true rfl, Nat.le_of_ble_eq_true rfl⟩) ⟨hx, hb, hml, hown, hts⟩ hE hP hD hS hA [30] rfl rfl rfl rfl rfl hl.1 rfl rfl (Nat.le_of_ble_eq_true rfl) dX6_judge_75 (fun H locs hP hD hS => ?_)
        refine lv_istore (lv' := [(4, .int x110), (0, .ref v0), (2, .ref (ea 1)), (3, .int x3)]) hx hb dX6_judge_78 hl (by decide) rfl (fun ls hl => ?_)
        refine lv_iload hx hb dX6_judge_80 (lv_at hl 0 rfl) ?_
        refine lv_iconst (v := (0 : Int32)) hx hb dX6_judge_82 (by decide) ?_
        refine lv_bipush (v := (39 : Int32)) hx hb dX6_judge_83 (by decide) ?_
        obtain ⟨x111, hg, hf⟩ := o1_s hf
        refine Ct.callS (ws' := wV g v0 u0 u1 u2 u3 k0 k1 k2 k3 h0 h1 h2 h3 s0 s1 s2 s3 c0 c1 c2 p0 r0 t0 t1 t2 t3 z0 f0 ea R N B S C P Q K X fd tl ik) (As := [.int x110, .int (0 : Int32), .int (39 : Int32)]) (rest := []) (st1 := [.int x111]) (c_X6_isWithin l g x110 (0 : Int32) (39 : Int32) hg) (va_cwS 3 hts gX6_judge_X6_isWithin rfl rfl rfl q_X6_isWithin.2 ⟨Nat.le_of_ble_eq_true rfl, Nat.le_of_ble_eq_true rfl⟩) ⟨hx, hb, hml, hown, hts⟩ hE hP hD hS hA [] rfl rfl rfl rfl rfl hl.1 rfl rfl (Nat.le_of_ble_eq_true rfl) dX6_judge_85 (fun H locs hP hD hS => ?_)
        refine lv_if_ne (tgt := 95) hx hb dX6_judge_88 (by decide) (fun hc => ?_) (fun hc => ?_)
        · have hf := if_f hf hc
          refine lv_aload_n hx hb dX6_judge_95 rfl (lv_at hl 1 rfl) ?_
          refine va_get (D := g.1) (ci := 6) (v := .ref h0) (C := RX6) (T := TX6) (N := 11) hx hb hts i_X6_judge_X6 hown hE.1 hP 0 rfl rfl 2 (by decide) w2 (fun _ h9 => h9) rfl dX6_judge_96 ?_
          refine lv_iload hx hb dX6_judge_99 (lv_at hl 0 rfl) ?_
          refine lv_bipush (v := (10 : Int32)) hx hb dX6_judge_101 (by decide) ?_
          refine lv_idiv hx hb dX6_judge_103 (by decide) ?_
          refine lv_iload hx hb dX6_judge_104 (lv_at hl 0 rfl) ?_
          refine lv_bipush (v := (10 : Int32)) hx hb dX6_judge_106 (by decide) ?_
          refine lv_irem hx hb dX6_judge_108 (by decide) ?_
          obtain ⟨R112, hg, hf⟩ := o1_s hf
          refine Ct.callV (ws' := wV g v0 u0 u1 u2 u3 k0 k1 k2 k3 h0 h1 h2 h3 s0 s1 s2 s3 c0 c1 c2 p0 r0 t0 t1 t2 t3 z0 f0 ea R N R112 S C P Q K X fd tl ik) (As := [.int (x110 / (10 : Int32)), .int (x110 - x110 / (10 : Int32) * (10 : Int32))]) (rest := []) (st1 := []) (c_X1_passHour l g h0 h1 h2 h3 B (x110 / (10 : Int32)) (x110 - x110 / (10 : Int32) * (10 : Int32)) hg) (cwV 2 hts gX6_judge_X1_passHour rfl rfl rfl q_X1_passHour ⟨Nat.le_of_ble_eq_true rfl, Nat.le_of_ble_eq_true rfl⟩) ⟨hx, hb, hml, hown, hts⟩ hE hP hD hS hA [9, 10, 11, 12] rfl rfl rfl rfl 1 9 rfl rfl rfl rfl hl.1 rfl rfl (Nat.le_of_ble_eq_true rfl) dX6_judge_109 (fun H locs hP hD hS => ?_)
          refine lv_iinc (v := (x3 + (1 : Int32))) (lv' := [(3, .int (x3 + (1 : Int32))), (4, .int x110), (0, .ref v0), (2, .ref (ea 1))]) hx hb dX6_judge_112 hl (k := 3) rfl rfl (by decide) rfl (fun ls hl => ?_)
          refine lv_goto (tgt := 62) hx hb dX6_judge_115 (by decide) ?_
          exact ih _ _ _ _ _  hf hP hD hS (lv_sub hl [2, 3, 0] rfl) hk
        · have hf := if_t hf hc
          refine lv_iconst (v := (2 : Int32)) hx hb dX6_judge_91 (by decide) ?_
          refine lv_iload_n hx hb dX6_judge_92 rfl (lv_at hl 3 rfl) ?_
          refine lv_iadd hx hb dX6_judge_93 ?_
          obtain ⟨rfl, rfl, rfl⟩ := some_p3 hf
          rw [hQ]; exact Ct.iret hx hb hr hlocks hAe hP hD hS dX6_judge_94
  have L62_2 : ∀ (fd : Nat → Int32) (kx : Rf → Option (Int32 × Rf × (Nat → Int32))) (k : Nat) (B : Rf) (x3 : Int32) (H : Heap) (locs : List Loc) (ls : Array Slot), fX6_judge_L62 2 X fd kx k B x3 = some (r, B', fd') → va_P g.1 vwK (wV g v0 u0 u1 u2 u3 k0 k1 k2 k3 h0 h1 h2 h3 s0 s1 s2 s3 c0 c1 c2 p0 r0 t0 t1 t2 t3 z0 f0 ea R N B S C P Q K X fd tl ik) H → va_D A (wV g v0 u0 u1 u2 u3 k0 k1 k2 k3 h0 h1 h2 h3 s0 s1 s2 s3 c0 c1 c2 p0 r0 t0 t1 t2 t3 z0 f0 ea R N B S C P Q K X fd tl ik) → va_S A s.heap H locs → lv_has ls 5 [(0, .ref v0), (2, .ref (ea 2)), (3, .int x3)] → (∀ (B : Rf) (H : Heap) (locs : List Loc) (ls : Array Slot), kx B = some (r, B', fd') → va_P g.1 vwK (wV g v0 u0 u1 u2 u3 k0 k1 k2 k3 h0 h1 h2 h3 s0 s1 s2 s3 c0 c1 c2 p0 r0 t0 t1 t2 t3 z0 f0 ea R N B S C P Q K X fd tl ik) H → va_D A (wV g v0 u0 u1 u2 u3 k0 k1 k2 k3 h0 h1 h2 h3 s0 s1 s2 s3 c0 c1 c2 p0 r0 t0 t1 t2 t3 z0 f0 ea R N B S C P Q K X fd tl ik) → va_S A s.heap H locs → lv_has ls 5 [(0, .ref v0)] → W p l e (rmm 5 112) s m args below meth c H locs 0 0 Qx (F0 m 118 ls [])) → W p l e (rmm 5 112) s m args below meth c H locs 0 0 Qx (F0 m 62 ls []) := by
    intro fd kx k
    induction k with
    | zero => intro B x3 H locs ls hf; exact nomatch (show (none : Option (Int32 × Rf × (Nat → Int32))) = some _ from hf)
    | succ k ih =>
      intro B x3 H locs ls hf hP hD hS hl hk
      rw [fX6_judge_L62] at hf
      refine lv_iload_n hx hb dX6_judge_62 rfl (lv_at hl 2 rfl) ?_
      refine lv_aload_n hx hb dX6_judge_63 rfl (lv_at hl 1 rfl) ?_
      refine va_getN (D := g.1) (ci := 2) (v := .int ((X 2).2.2)) (C := RX2) (T := TX2) (N := 3) hx hb hts i_X6_judge_X2 hown hE.1 hP 31 rfl rfl 2 (by decide) (va_Nw.use rfl (hE.2.1 _ (List.mem_of_getElem? (i := 20) rfl))) (fun _ h9 => h9) rfl dX6_judge_64 ?_
      refine lv_icmp_ge (tgt := 118) hx hb dX6_judge_67 (by decide) (fun hc => ?_) (fun hc => ?_)
      · have hf := if_t hf hc
        exact hk _ _ _ _  hf hP hD hS (lv_sub hl [0] rfl)
      · have hf := if_f hf hc
        refine lv_aload_n hx hb dX6_judge_70 rfl (lv_at hl 1 rfl) ?_
        refine va_getN (D := g.1) (ci := 2) (v := .ref (ea 6)) (C := RX2) (T := TX2) (N := 3) hx hb hts i_X6_judge_X2 hown hE.1 hP 31 rfl rfl 0 (by decide) (va_Nw.use rfl (hE.2.1 _ (List.mem_of_getElem? (i := 18) rfl))) (fun _ h9 => h9) rfl dX6_judge_71 ?_
        refine lv_iload_n hx hb dX6_judge_74 rfl (lv_at hl 2 rfl) ?_
        obtain ⟨x110, hg, hf⟩ := o1_s hf
        refine Ct.callS (ws' := wV g v0 u0 u1 u2 u3 k0 k1 k2 k3 h0 h1 h2 h3 s0 s1 s2 s3 c0 c1 c2 p0 r0 t0 t1 t2 t3 z0 f0 ea R N B S C P Q K X fd tl ik) (As := [.ref (ea 6), .int x3]) (rest := []) (st1 := [.int x110]) (c_X6_at l g (ea 6) 40 ((X 2).1) x3 hg) (va_cwS 2 hts gX6_judge_X6_at rfl rfl rfl q_X6_at.2 ⟨Nat.le_of_ble_eq_true rfl, Nat.le_of_ble_eq_true rfl⟩) ⟨hx, hb, hml, hown, hts⟩ hE hP hD hS hA [32] rfl rfl rfl rfl rfl hl.1 rfl rfl (Nat.le_of_ble_eq_true rfl) dX6_judge_75 (fun H locs hP hD hS => ?_)
        refine lv_istore (lv' := [(4, .int x110), (0, .ref v0), (2, .ref (ea 2)), (3, .int x3)]) hx hb dX6_judge_78 hl (by decide) rfl (fun ls hl => ?_)
        refine lv_iload hx hb dX6_judge_80 (lv_at hl 0 rfl) ?_
        refine lv_iconst (v := (0 : Int32)) hx hb dX6_judge_82 (by decide) ?_
        refine lv_bipush (v := (39 : Int32)) hx hb dX6_judge_83 (by decide) ?_
        obtain ⟨x111, hg, hf⟩ := o1_s hf
        refine Ct.callS (ws' := wV g v0 u0 u1 u2 u3 k0 k1 k2 k3 h0 h1 h2 h3 s0 s1 s2 s3 c0 c1 c2 p0 r0 t0 t1 t2 t3 z0 f0 ea R N B S C P Q K X fd tl ik) (As := [.int x110, .int (0 : Int32), .int (39 : Int32)]) (rest := []) (st1 := [.int x111]) (c_X6_isWithin l g x110 (0 : Int32) (39 : Int32) hg) (va_cwS 3 hts gX6_judge_X6_isWithin rfl rfl rfl q_X6_isWithin.2 ⟨Nat.le_of_ble_eq_true rfl, Nat.le_of_ble_eq_true rfl⟩) ⟨hx, hb, hml, hown, hts⟩ hE hP hD hS hA [] rfl rfl rfl rfl rfl hl.1 rfl rfl (Nat.le_of_ble_eq_true rfl) dX6_judge_85 (fun H locs hP hD hS => ?_)
        refine lv_if_ne (tgt := 95) hx hb dX6_judge_88 (by decide) (fun hc => ?_) (fun hc => ?_)
        · have hf := if_f hf hc
          refine lv_aload_n hx hb dX6_judge_95 rfl (lv_at hl 1 rfl) ?_
          refine va_get (D := g.1) (ci := 6) (v := .ref h0) (C := RX6) (T := TX6) (N := 11) hx hb hts i_X6_judge_X6 hown hE.1 hP 0 rfl rfl 2 (by decide) w2 (fun _ h9 => h9) rfl dX6_judge_96 ?_
          refine lv_iload hx hb dX6_judge_99 (lv_at hl 0 rfl) ?_
          refine lv_bipush (v := (10 : Int32)) hx hb dX6_judge_101 (by decide) ?_
          refine lv_idiv hx hb dX6_judge_103 (by decide) ?_
          refine lv_iload hx hb dX6_judge_104 (lv_at hl 0 rfl) ?_
          refine lv_bipush (v := (10 : Int32)) hx hb dX6_judge_106 (by decide) ?_
          refine lv_irem hx hb dX6_judge_108 (by decide) ?_
          obtain ⟨R112, hg, hf⟩ := o1_s hf
          refine Ct.callV (ws' := wV g v0 u0 u1 u2 u3 k0 k1 k2 k3 h0 h1 h2 h3 s0 s1 s2 s3 c0 c1 c2 p0 r0 t0 t1 t2 t3 z0 f0 ea R N R112 S C P Q K X fd tl ik) (As := [.int (x110 / (10 : Int32)), .int (x110 - x110 / (10 : Int32) * (10 : Int32))]) (rest := []) (st1 := []) (c_X1_passHour l g h0 h1 h2 h3 B (x110 / (10 : Int32)) (x110 - x110 / (10 : Int32) * (10 : Int32)) hg) (cwV 2 hts gX6_judge_X1_passHour rfl rfl rfl q_X1_passHour ⟨Nat.le_of_ble_eq_true rfl, Nat.le_of_ble_eq_true rfl⟩) ⟨hx, hb, hml, hown, hts⟩ hE hP hD hS hA [9, 10, 11, 12] rfl rfl rfl rfl 1 9 rfl rfl rfl rfl hl.1 rfl rfl (Nat.le_of_ble_eq_true rfl) dX6_judge_109 (fun H locs hP hD hS => ?_)
          refine lv_iinc (v := (x3 + (1 : Int32))) (lv' := [(3, .int (x3 + (1 : Int32))), (4, .int x110), (0, .ref v0), (2, .ref (ea 2))]) hx hb dX6_judge_112 hl (k := 3) rfl rfl (by decide) rfl (fun ls hl => ?_)
          refine lv_goto (tgt := 62) hx hb dX6_judge_115 (by decide) ?_
          exact ih _ _ _ _ _  hf hP hD hS (lv_sub hl [2, 3, 0] rfl) hk
        · have hf := if_t hf hc
          refine lv_iconst (v := (2 : Int32)) hx hb dX6_judge_91 (by decide) ?_
          refine lv_iload_n hx hb dX6_judge_92 rfl (lv_at hl 3 rfl) ?_
          refine lv_iadd hx hb dX6_judge_93 ?_
          obtain ⟨rfl, rfl, rfl⟩ := some_p3 hf
          rw [hQ]; exact Ct.iret hx hb hr hlocks hAe hP hD hS dX6_judge_94
  have L62_3 : ∀ (fd : Nat → Int32) (kx : Rf → Option (Int32 × Rf × (Nat → Int32))) (k : Nat) (B : Rf) (x3 : Int32) (H : Heap) (locs : List Loc) (ls : Array Slot), fX6_judge_L62 3 X fd kx k B x3 = some (r, B', fd') → va_P g.1 vwK (wV g v0 u0 u1 u2 u3 k0 k1 k2 k3 h0 h1 h2 h3 s0 s1 s2 s3 c0 c1 c2 p0 r0 t0 t1 t2 t3 z0 f0 ea R N B S C P Q K X fd tl ik) H → va_D A (wV g v0 u0 u1 u2 u3 k0 k1 k2 k3 h0 h1 h2 h3 s0 s1 s2 s3 c0 c1 c2 p0 r0 t0 t1 t2 t3 z0 f0 ea R N B S C P Q K X fd tl ik) → va_S A s.heap H locs → lv_has ls 5 [(0, .ref v0), (2, .ref (ea 3)), (3, .int x3)] → (∀ (B : Rf) (H : Heap) (locs : List Loc) (ls : Array Slot), kx B = some (r, B', fd') → va_P g.1 vwK (wV g v0 u0 u1 u2 u3 k0 k1 k2 k3 h0 h1 h2 h3 s0 s1 s2 s3 c0 c1 c2 p0 r0 t0 t1 t2 t3 z0 f0 ea R N B S C P Q K X fd tl ik) H → va_D A (wV g v0 u0 u1 u2 u3 k0 k1 k2 k3 h0 h1 h2 h3 s0 s1 s2 s3 c0 c1 c2 p0 r0 t0 t1 t2 t3 z0 f0 ea R N B S C P Q K X fd tl ik) → va_S A s.heap H locs → lv_has ls 5 [(0, .ref v0)] → W p l e (rmm 5 112) s m args below meth c H locs 0 0 Qx (F0 m 118 ls [])) → W p l e (rmm 5 112) s m args below meth c H locs 0 0 Qx (F0 m 62 ls []) := by
    intro fd kx k
    induction k with
    | zero => intro B x3 H locs ls hf; exact nomatch (show (none : Option (Int32 × Rf × (Nat → Int32))) = some _ from hf)
    | succ k ih =>
      intro B x3 H locs ls hf hP hD hS hl hk
      rw [fX6_judge_L62] at hf
      refine lv_iload_n hx hb dX6_judge_62 rfl (lv_at hl 2 rfl) ?_
      refine lv_aload_n hx hb dX6_judge_63 rfl (lv_at hl 1 rfl) ?_
      refine va_getN (D := g.1) (ci := 2) (v := .int ((X 3).2.2)) (C := RX2) (T := TX2) (N := 3) hx hb hts i_X6_judge_X2 hown hE.1 hP 33 rfl rfl 2 (by decide) (va_Nw.use rfl (hE.2.1 _ (List.mem_of_getElem? (i := 20) rfl))) (fun _ h9 => h9) rfl dX6_judge_64 ?_
      refine lv_icmp_ge (tgt := 118) hx hb dX6_judge_67 (by decide) (fun hc => ?_) (fun hc => ?_)
      · have hf := if_t hf hc
        exact hk _ _ _ _  hf hP hD hS (lv_sub hl [0] rfl)
      · have hf := if_f hf hc
        refine lv_aload_n hx hb dX6_judge_70 rfl (lv_at hl 1 rfl) ?_
        refine va_getN (D := g.1) (ci := 2) (v := .ref (ea 7)) (C := RX2) (T := TX2) (N := 3) hx hb hts i_X6_judge_X2 hown hE.1 hP 33 rfl rfl 0 (by decide) (va_Nw.use rfl (hE.2.1 _ (List.mem_of_getElem? (i := 18) rfl))) (fun _ h9 => h9) rfl dX6_judge_71 ?_
        refine lv_iload_n hx hb dX6_judge_74 rfl (lv_at hl 2 rfl) ?_
        obtain ⟨x110, hg, hf⟩ := o1_s hf
        refine Ct.callS (ws' := wV g v0 u0 u1 u2 u3 k0 k1 k2 k3 h0 h1 h2 h3 s0 s1 s2 s3 c0 c1 c2 p0 r0 t0 t1 t2 t3 z0 f0 ea R N B S C P Q K X fd tl ik) (As := [.ref (ea 7), .int x3]) (rest := []) (st1 := [.int x110]) (c_X6_at l g (ea 7) 40 ((X 3).1) x3 hg) (va_cwS 2 hts gX6_judge_X6_at rfl rfl rfl q_X6_at.2 ⟨Nat.le_of_ble_eq_true rfl, Nat.le_of_ble_eq_true rfl⟩) ⟨hx, hb, hml, hown, hts⟩ hE hP hD hS hA [34] rfl rfl rfl rfl rfl hl.1 rfl rfl (Nat.le_of_ble_eq_true rfl) dX6_judge_75 (fun H locs hP hD hS => ?_)
        refine lv_istore (lv' := [(4, .int x110), (0, .ref v0), (2, .ref (ea 3)), (3, .int x3)]) hx hb dX6_judge_78 hl (by decide) rfl (fun ls hl => ?_)
        refine lv_iload hx hb dX6_judge_80 (lv_at hl 0 rfl) ?_
        refine lv_iconst (v := (0 : Int32)) hx hb dX6_judge_82 (by decide) ?_
        refine lv_bipush (v := (39 : Int32)) hx hb dX6_judge_83 (by decide) ?_
        obtain ⟨x111, hg, hf⟩ := o1_s hf
        refine Ct.callS (ws' := wV g v0 u0 u1 u2 u3 k0 k1 k2 k3 h0 h1 h2 h3 s0 s1 s2 s3 c0 c1 c2 p0 r0 t0 t1 t2 t3 z0 f0 ea R N B S C P Q K X fd tl ik) (As := [.int x110, .int (0 : Int32), .int (39 : Int32)]) (rest := []) (st1 := [.int x111]) (c_X6_isWithin l g x110 (0 : Int32) (39 : Int32) hg) (va_cwS 3 hts gX6_judge_X6_isWithin rfl rfl rfl q_X6_isWithin.2 ⟨Nat.le_of_ble_eq_true rfl, Nat.le_of_ble_eq_true rfl⟩) ⟨hx, hb, hml, hown, hts⟩ hE hP hD hS hA [] rfl rfl rfl rfl rfl hl.1 rfl rfl (Nat.le_of_ble_eq_true rfl) dX6_judge_85 (fun H locs hP hD hS => ?_)
        refine lv_if_ne (tgt := 95) hx hb dX6_judge_88 (by decide) (fun hc => ?_) (fun hc => ?_)
        · have hf := if_f hf hc
          refine lv_aload_n hx hb dX6_judge_95 rfl (lv_at hl 1 rfl) ?_
          refine va_get (D := g.1) (ci := 6) (v := .ref h0) (C := RX6) (T := TX6) (N := 11) hx hb hts i_X6_judge_X6 hown hE.1 hP 0 rfl rfl 2 (by decide) w2 (fun _ h9 => h9) rfl dX6_judge_96 ?_
          refine lv_iload hx hb dX6_judge_99 (lv_at hl 0 rfl) ?_
          refine lv_bipush (v := (10 : Int32)) hx hb dX6_judge_101 (by decide) ?_
          refine lv_idiv hx hb dX6_judge_103 (by decide) ?_
          refine lv_iload hx hb dX6_judge_104 (lv_at hl 0 rfl) ?_
          refine lv_bipush (v := (10 : Int32)) hx hb dX6_judge_106 (by decide) ?_
          refine lv_irem hx hb dX6_judge_108 (by decide) ?_
          obtain ⟨R112, hg, hf⟩ := o1_s hf
          refine Ct.callV (ws' := wV g v0 u0 u1 u2 u3 k0 k1 k2 k3 h0 h1 h2 h3 s0 s1 s2 s3 c0 c1 c2 p0 r0 t0 t1 t2 t3 z0 f0 ea R N R112 S C P Q K X fd tl ik) (As := [.int (x110 / (10 : Int32)), .int (x110 - x110 / (10 : Int32) * (10 : Int32))]) (rest := []) (st1 := []) (c_X1_passHour l g h0 h1 h2 h3 B (x110 / (10 : Int32)) (x110 - x110 / (10 : Int32) * (10 : Int32)) hg) (cwV 2 hts gX6_judge_X1_passHour rfl rfl rfl q_X1_passHour ⟨Nat.le_of_ble_eq_true rfl, Nat.le_of_ble_eq_true rfl⟩) ⟨hx, hb, hml, hown, hts⟩ hE hP hD hS hA [9, 10, 11, 12] rfl rfl rfl rfl 1 9 rfl rfl rfl rfl hl.1 rfl rfl (Nat.le_of_ble_eq_true rfl) dX6_judge_109 (fun H locs hP hD hS => ?_)
          refine lv_iinc (v := (x3 + (1 : Int32))) (lv' := [(3, .int (x3 + (1 : Int32))), (4, .int x110), (0, .ref v0), (2, .ref (ea 3))]) hx hb dX6_judge_112 hl (k := 3) rfl rfl (by decide) rfl (fun ls hl => ?_)
          refine lv_goto (tgt := 62) hx hb dX6_judge_115 (by decide) ?_
          exact ih _ _ _ _ _  hf hP hD hS (lv_sub hl [2, 3, 0] rfl) hk
        · have hf := if_t hf hc
          refine lv_iconst (v := (2 : Int32)) hx hb dX6_judge_91 (by decide) ?_
          refine lv_iload_n hx hb dX6_judge_92 rfl (lv_at hl 3 rfl) ?_
          refine lv_iadd hx hb dX6_judge_93 ?_
          obtain ⟨rfl, rfl, rfl⟩ := some_p3 hf
          rw [hQ]; exact Ct.iret hx hb hr hlocks hAe hP hD hS dX6_judge_94
  unfold fX6_judge at hf
  refine lv_aload_n hx hb dX6_judge_0 rfl (lv_at hl 0 rfl) ?_
  refine lv_iload_n hx hb dX6_judge_1 rfl (lv_at hl 1 rfl) ?_
  rcases sh_s hf with ⟨hs, hf⟩ | ⟨hs, hf⟩ | ⟨hs, hf⟩ | ⟨hs, hf⟩ | ⟨hs, hf⟩
  · refine Ct.callV0 (ws' := wV g v0 u0 u1 u2 u3 k0 k1 k2 k3 h0 h1 h2 h3 s0 s1 s2 s3 c0 c1 c2 p0 r0 t0 t1 t2 t3 z0 f0 ea R N B S C P Q K X fd tl ik) (As := [.int a1]) (rest := []) (st1 := [.null]) (c_X6_sheetAt_null l g v0 u0 u1 u2 u3 k0 k1 k2 k3 h0 h1 h2 h3 s0 s1 s2 s3 c0 c1 c2 p0 r0 t0 t1 t2 t3 z0 f0 ea R N B S C P Q K X fd tl ik a1 hs) (cwV 1 hts gX6_judge_X6_sheetAt rfl rfl rfl q_X6_sheetAt ⟨Nat.le_of_ble_eq_true rfl, Nat.le_of_ble_eq_true rfl⟩) ⟨hx, hb, hml, hown, hts⟩ hE hP hD hS hA 6 0 rfl rfl rfl rfl hl.1 rfl rfl (Nat.le_of_ble_eq_true rfl) dX6_judge_2 (fun H locs hP hD hS => ?_)
    refine lv_astore_nN (lv' := [(2, .null), (0, .ref v0), (1, .int a1)]) hx hb dX6_judge_5 rfl hl (by decide) rfl (fun ls hl => ?_)
    refine lv_aload_nN hx hb dX6_judge_6 rfl (lv_at hl 0 rfl) ?_
    refine lv_ifnonnullN hx hb dX6_judge_7 ?_
    refine lv_aload_n hx hb dX6_judge_10 rfl (lv_at hl 1 rfl) ?_
    refine lv_ldc hx hb hown w1 dX6_judge_11 ?_
    obtain ⟨x101, fd102, hg, hf⟩ := o2_s hf
    refine Ct.callV0 (ws' := wV g v0 u0 u1 u2 u3 k0 k1 k2 k3 h0 h1 h2 h3 s0 s1 s2 s3 c0 c1 c2 p0 r0 t0 t1 t2 t3 z0 f0 ea R N B S C P Q K X fd102 tl ik) (As := [.int (-1000001 : Int32)]) (rest := []) (st1 := [.int x101]) (c_X6_finding l g v0 u0 u1 u2 u3 k0 k1 k2 k3 h0 h1 h2 h3 s0 s1 s2 s3 c0 c1 c2 p0 r0 t0 t1 t2 t3 z0 f0 ea R N B S C P Q K X fd tl ik (-1000001 : Int32) hg) (cwV 1 hts gX6_judge_X6_finding rfl rfl rfl q_X6_finding ⟨Nat.le_of_ble_eq_true rfl, Nat.le_of_ble_eq_true rfl⟩) ⟨hx, hb, hml, hown, hts⟩ hE hP hD hS hA 6 0 rfl rfl rfl rfl hl.1 rfl rfl (Nat.le_of_ble_eq_true rfl) dX6_judge_13 (fun H locs hP hD hS => ?_)
    obtain ⟨rfl, rfl, rfl⟩ := some_p3 hf
    rw [hQ]; exact Ct.iret hx hb hr hlocks hAe hP hD hS dX6_judge_16
  · refine Ct.callV0 (ws' := wV g v0 u0 u1 u2 u3 k0 k1 k2 k3 h0 h1 h2 h3 s0 s1 s2 s3 c0 c1 c2 p0 r0 t0 t1 t2 t3 z0 f0 ea R N B S C P Q K X fd tl ik) (As := [.int a1]) (rest := []) (st1 := [.ref (ea 0)]) (c_X6_sheetAt l g v0 u0 u1 u2 u3 k0 k1 k2 k3 h0 h1 h2 h3 s0 s1 s2 s3 c0 c1 c2 p0 r0 t0 t1 t2 t3 z0 f0 ea R N B S C P Q K X fd tl ik 0 (by decide) a1 hs) (cwV 1 hts gX6_judge_X6_sheetAt rfl rfl rfl q_X6_sheetAt ⟨Nat.le_of_ble_eq_true rfl, Nat.le_of_ble_eq_true rfl⟩) ⟨hx, hb, hml, hown, hts⟩ hE hP hD hS hA 6 0 rfl rfl rfl rfl hl.1 rfl rfl (Nat.le_of_ble_eq_true rfl) dX6_judge_2 (fun H locs hP hD hS => ?_)
    refine lv_astore_n (lv' := [(2, .ref (ea 0)), (0, .ref v0), (1, .int a1)]) hx hb dX6_judge_5 rfl hl (by decide) rfl (fun ls hl => ?_)
    refine lv_aload_n hx hb dX6_judge_6 rfl (lv_at hl 0 rfl) ?_
    refine lv_ifnonnull (tgt := 17) hx hb dX6_judge_7 (by decide) ?_
    refine lv_aload_n hx hb dX6_judge_17 rfl (lv_at hl 0 rfl) ?_
    obtain ⟨x104, hg, hf⟩ := o1_s hf
    refine Ct.callV (ws' := wV g v0 u0 u1 u2 u3 k0 k1 k2 k3 h0 h1 h2 h3 s0 s1 s2 s3 c0 c1 c2 p0 r0 t0 t1 t2 t3 z0 f0 ea R N B S C P Q K X fd tl ik) (As := []) (rest := []) (st1 := [.int x104]) (c_X2_isMissing l g (ea 0) (ea 4) (X 0) hg) (cwV 0 hts gX6_judge_X2_isMissing rfl rfl rfl q_X2_isMissing ⟨Nat.le_of_ble_eq_true rfl, Nat.le_of_ble_eq_true rfl⟩) ⟨hx, hb, hml, hown, hts⟩ hE hP hD hS hA [27, 28] rfl rfl rfl rfl 2 27 rfl rfl rfl rfl hl.1 rfl rfl (Nat.le_of_ble_eq_true rfl) dX6_judge_18 (fun H locs hP hD hS => ?_)
    refine lv_if_eq (tgt := 31) hx hb dX6_judge_21 (by decide) (fun hc => ?_) (fun hc => ?_)
    · have hf := if_t hf hc
      refine lv_aload_n hx hb dX6_judge_31 rfl (lv_at hl 1 rfl) ?_
      refine lv_aload_n hx hb dX6_judge_32 rfl (lv_at hl 0 rfl) ?_
      refine va_getN (D := g.1) (ci := 2) (v := .int ((X 0).2.2)) (C := RX2) (T := TX2) (N := 3) hx hb hts i_X6_judge_X2 hown hE.1 hP 27 rfl rfl 2 (by decide) (va_Nw.use rfl (hE.2.1 _ (List.mem_of_getElem? (i := 20) rfl))) (fun _ h9 => h9) rfl dX6_judge_33 ?_
      obtain ⟨x105, hg, hf⟩ := o1_s hf
      refine Ct.callV0 (ws' := wV g v0 u0 u1 u2 u3 k0 k1 k2 k3 h0 h1 h2 h3 s0 s1 s2 s3 c0 c1 c2 p0 r0 t0 t1 t2 t3 z0 f0 ea R N B S C P Q K X fd tl ik) (As := [.int ((X 0).2.2)]) (rest := []) (st1 := [.int x105]) (c_X6_isTooLate l g v0 u0 u1 u2 u3 k0 k1 k2 k3 h0 h1 h2 h3 s0 s1 s2 s3 c0 c1 c2 p0 r0 t0 t1 t2 t3 z0 f0 ea R N B S C P Q K X fd tl ik ((X 0).2.2) hg) (cwV 1 hts gX6_judge_X6_isTooLate rfl rfl rfl q_X6_isTooLate ⟨Nat.le_of_ble_eq_true rfl, Nat.le_of_ble_eq_true rfl⟩) ⟨hx, hb, hml, hown, hts⟩ hE hP hD hS hA 6 0 rfl rfl rfl rfl hl.1 rfl rfl (Nat.le_of_ble_eq_true rfl) dX6_judge_36 (fun H locs hP hD hS => ?_)
      refine lv_if_eq (tgt := 49) hx hb dX6_judge_39 (by decide) (fun hc => ?_) (fun hc => ?_)
      · have hf := if_t hf hc
        refine lv_aload_n hx hb dX6_judge_49 rfl (lv_at hl 1 rfl) ?_
        refine va_get (D := g.1) (ci := 6) (v := .ref h0) (C := RX6) (T := TX6) (N := 11) hx hb hts i_X6_judge_X6 hown hE.1 hP 0 rfl rfl 2 (by decide) w2 (fun _ h9 => h9) rfl dX6_judge_50 ?_
        refine lv_aload_n hx hb dX6_judge_53 rfl (lv_at hl 1 rfl) ?_
        refine va_get (D := g.1) (ci := 6) (v := .ref u0) (C := RX6) (T := TX6) (N := 11) hx hb hts i_X6_judge_X6 hown hE.1 hP 0 rfl rfl 0 (by decide) w3 (fun _ h9 => h9) rfl dX6_judge_54 ?_
        obtain ⟨R106, hg, hf⟩ := o1_s hf
        refine Ct.callV (ws' := wV g v0 u0 u1 u2 u3 k0 k1 k2 k3 h0 h1 h2 h3 s0 s1 s2 s3 c0 c1 c2 p0 r0 t0 t1 t2 t3 z0 f0 ea R N R106 S C P Q K X fd tl ik) (As := [.ref u0]) (rest := []) (st1 := []) (c_X1_become l g h0 h1 h2 h3 u0 u1 u2 u3 B R hg) (cwV 1 hts gX6_judge_X1_become rfl rfl rfl q_X1_become ⟨Nat.le_of_ble_eq_true rfl, Nat.le_of_ble_eq_true rfl⟩) ⟨hx, hb, hml, hown, hts⟩ hE hP hD hS hA [9, 10, 11, 12, 1, 2, 3, 4] rfl rfl rfl rfl 1 9 rfl rfl rfl rfl hl.1 rfl rfl (Nat.le_of_ble_eq_true rfl) dX6_judge_57 (fun H locs hP hD hS => ?_)
        refine lv_iconst (v := (0 : Int32)) hx hb dX6_judge_60 (by decide) ?_
        refine lv_istore_n (lv' := [(3, .int (0 : Int32)), (2, .ref (ea 0)), (0, .ref v0), (1, .int a1)]) hx hb dX6_judge_61 rfl hl (by decide) rfl (fun ls hl => ?_)
        refine L62_0 _ _ _ _ _ _ _ _  hf hP hD hS (lv_sub hl [2, 1, 0] rfl) (fun B113 H locs ls hf hP hD hS hl => ?_)
        refine lv_aload_n hx hb dX6_judge_118 rfl (lv_at hl 0 rfl) ?_
        refine va_get (D := g.1) (ci := 6) (v := .ref h0) (C := RX6) (T := TX6) (N := 11) hx hb hts i_X6_judge_X6 hown hE.1 hP 0 rfl rfl 2 (by decide) w2 (fun _ h9 => h9) rfl dX6_judge_119 ?_
        obtain ⟨x114, hg, hf⟩ := o1_s hf
        refine Ct.callV (ws' := wV g v0 u0 u1 u2 u3 k0 k1 k2 k3 h0 h1 h2 h3 s0 s1 s2 s3 c0 c1 c2 p0 r0 t0 t1 t2 t3 z0 f0 ea R N B113 S C P Q K X fd tl ik) (As := []) (rest := []) (st1 := [.int x114]) (c_X1_isOpen l g h0 h1 h2 h3 B113 hg) (cwV 0 hts gX6_judge_X1_isOpen rfl rfl rfl q_X1_isOpen ⟨Nat.le_of_ble_eq_true rfl, Nat.le_of_ble_eq_true rfl⟩) ⟨hx, hb, hml, hown, hts⟩ hE hP hD hS hA [9, 10, 11, 12] rfl rfl rfl rfl 1 9 rfl rfl rfl rfl hl.1 rfl rfl (Nat.le_of_ble_eq_true rfl) dX6_judge_122 (fun H locs hP hD hS => ?_)
        refine lv_if_eq (tgt := 132) hx hb dX6_judge_125 (by decide) (fun hc => ?_) (fun hc => ?_)
        · have hf := if_t hf hc
          refine lv_iconst (v := (1 : Int32)) hx hb dX6_judge_132 (by decide) ?_
          obtain ⟨rfl, rfl, rfl⟩ := some_p3 hf
          rw [hQ]; exact Ct.iret hx hb hr hlocks hAe hP hD hS dX6_judge_133
        · have hf := if_f hf hc
          refine lv_iconst (v := (0 : Int32)) hx hb dX6_judge_128 (by decide) ?_
          refine lv_goto (tgt := 133) hx hb dX6_judge_129 (by decide) ?_
          obtain ⟨rfl, rfl, rfl⟩ := some_p3 hf
          rw [hQ]; exact Ct.iret hx hb hr hlocks hAe hP hD hS dX6_judge_133
      · have hf := if_f hf hc
        refine lv_aload_n hx hb dX6_judge_42 rfl (lv_at hl 1 rfl) ?_
        refine lv_ldc hx hb hown w4 dX6_judge_43 ?_
        obtain ⟨x115, fd116, hg, hf⟩ := o2_s hf
        refine Ct.callV0 (ws' := wV g v0 u0 u1 u2 u3 k0 k1 k2 k3 h0 h1 h2 h3 s0 s1 s2 s3 c0 c1 c2 p0 r0 t0 t1 t2 t3 z0 f0 ea R N B S C P Q K X fd116 tl ik) (As := [.int (-1000005 : Int32)]) (rest := []) (st1 := [.int x115]) (c_X6_finding l g v0 u0 u1 u2 u3 k0 k1 k2 k3 h0 h1 h2 h3 s0 s1 s2 s3 c0 c1 c2 p0 r0 t0 t1 t2 t3 z0 f0 ea R N B S C P Q K X fd tl ik (-1000005 : Int32) hg) (cwV 1 hts gX6_judge_X6_finding rfl rfl rfl q_X6_finding ⟨Nat.le_of_ble_eq_true rfl, Nat.le_of_ble_eq_true rfl⟩) ⟨hx, hb, hml, hown, hts⟩ hE hP hD hS hA 6 0 rfl rfl rfl rfl hl.1 rfl rfl (Nat.le_of_ble_eq_true rfl) dX6_judge_45 (fun H locs hP hD hS => ?_)
        obtain ⟨rfl, rfl, rfl⟩ := some_p3 hf
        rw [hQ]; exact Ct.iret hx hb hr hlocks hAe hP hD hS dX6_judge_48
    · have hf := if_f hf hc
      refine lv_aload_n hx hb dX6_judge_24 rfl (lv_at hl 1 rfl) ?_
      refine lv_ldc hx hb hown w5 dX6_judge_25 ?_
      obtain ⟨x117, fd118, hg, hf⟩ := o2_s hf
      refine Ct.callV0 (ws' := wV g v0 u0 u1 u2 u3 k0 k1 k2 k3 h0 h1 h2 h3 s0 s1 s2 s3 c0 c1 c2 p0 r0 t0 t1 t2 t3 z0 f0 ea R N B S C P Q K X fd118 tl ik) (As := [.int (-1000006 : Int32)]) (rest := []) (st1 := [.int x117]) (c_X6_finding l g v0 u0 u1 u2 u3 k0 k1 k2 k3 h0 h1 h2 h3 s0 s1 s2 s3 c0 c1 c2 p0 r0 t0 t1 t2 t3 z0 f0 ea R N B S C P Q K X fd tl ik (-1000006 : Int32) hg) (cwV 1 hts gX6_judge_X6_finding rfl rfl rfl q_X6_finding ⟨Nat.le_of_ble_eq_true rfl, Nat.le_of_ble_eq_true rfl⟩) ⟨hx, hb, hml, hown, hts⟩ hE hP hD hS hA 6 0 rfl rfl rfl rfl hl.1 rfl rfl (Nat.le_of_ble_eq_true rfl) dX6_judge_27 (fun H locs hP hD hS => ?_)
      obtain ⟨rfl, rfl, rfl⟩ := some_p3 hf
      rw [hQ]; exact Ct.iret hx hb hr hlocks hAe hP hD hS dX6_judge_30
  · refine Ct.callV0 (ws' := wV g v0 u0 u1 u2 u3 k0 k1 k2 k3 h0 h1 h2 h3 s0 s1 s2 s3 c0 c1 c2 p0 r0 t0 t1 t2 t3 z0 f0 ea R N B S C P Q K X fd tl ik) (As := [.int a1]) (rest := []) (st1 := [.ref (ea 1)]) (c_X6_sheetAt l g v0 u0 u1 u2 u3 k0 k1 k2 k3 h0 h1 h2 h3 s0 s1 s2 s3 c0 c1 c2 p0 r0 t0 t1 t2 t3 z0 f0 ea R N B S C P Q K X fd tl ik 1 (by decide) a1 hs) (cwV 1 hts gX6_judge_X6_sheetAt rfl rfl rfl q_X6_sheetAt ⟨Nat.le_of_ble_eq_true rfl, Nat.le_of_ble_eq_true rfl⟩) ⟨hx, hb, hml, hown, hts⟩ hE hP hD hS hA 6 0 rfl rfl rfl rfl hl.1 rfl rfl (Nat.le_of_ble_eq_true rfl) dX6_judge_2 (fun H locs hP hD hS => ?_)
    refine lv_astore_n (lv' := [(2, .ref (ea 1)), (0, .ref v0), (1, .int a1)]) hx hb dX6_judge_5 rfl hl (by decide) rfl (fun ls hl => ?_)
    refine lv_aload_n hx hb dX6_judge_6 rfl (lv_at hl 0 rfl) ?_
    refine lv_ifnonnull (tgt := 17) hx hb dX6_judge_7 (by decide) ?_
    refine lv_aload_n hx hb dX6_judge_17 rfl (lv_at hl 0 rfl) ?_
    obtain ⟨x104, hg, hf⟩ := o1_s hf
    refine Ct.callV (ws' := wV g v0 u0 u1 u2 u3 k0 k1 k2 k3 h0 h1 h2 h3 s0 s1 s2 s3 c0 c1 c2 p0 r0 t0 t1 t2 t3 z0 f0 ea R N B S C P Q K X fd tl ik) (As := []) (rest := []) (st1 := [.int x104]) (c_X2_isMissing l g (ea 1) (ea 5) (X 1) hg) (cwV 0 hts gX6_judge_X2_isMissing rfl rfl rfl q_X2_isMissing ⟨Nat.le_of_ble_eq_true rfl, Nat.le_of_ble_eq_true rfl⟩) ⟨hx, hb, hml, hown, hts⟩ hE hP hD hS hA [29, 30] rfl rfl rfl rfl 2 29 rfl rfl rfl rfl hl.1 rfl rfl (Nat.le_of_ble_eq_true rfl) dX6_judge_18 (fun H locs hP hD hS => ?_)
    refine lv_if_eq (tgt := 31) hx hb dX6_judge_21 (by decide) (fun hc => ?_) (fun hc => ?_)
    · have hf := if_t hf hc
      refine lv_aload_n hx hb dX6_judge_31 rfl (lv_at hl 1 rfl) ?_
      refine lv_aload_n hx hb dX6_judge_32 rfl (lv_at hl 0 rfl) ?_
      refine va_getN (D := g.1) (ci := 2) (v := .int ((X 1).2.2)) (C := RX2) (T := TX2) (N := 3) hx hb hts i_X6_judge_X2 hown hE.1 hP 29 rfl rfl 2 (by decide) (va_Nw.use rfl (hE.2.1 _ (List.mem_of_getElem? (i := 20) rfl))) (fun _ h9 => h9) rfl dX6_judge_33 ?_
      obtain ⟨x105, hg, hf⟩ := o1_s hf
      refine Ct.callV0 (ws' := wV g v0 u0 u1 u2 u3 k0 k1 k2 k3 h0 h1 h2 h3 s0 s1 s2 s3 c0 c1 c2 p0 r0 t0 t1 t2 t3 z0 f0 ea R N B S C P Q K X fd tl ik) (As := [.int ((X 1).2.2)]) (rest := []) (st1 := [.int x105]) (c_X6_isTooLate l g v0 u0 u1 u2 u3 k0 k1 k2 k3 h0 h1 h2 h3 s0 s1 s2 s3 c0 c1 c2 p0 r0 t0 t1 t2 t3 z0 f0 ea R N B S C P Q K X fd tl ik ((X 1).2.2) hg) (cwV 1 hts gX6_judge_X6_isTooLate rfl rfl rfl q_X6_isTooLate ⟨Nat.le_of_ble_eq_true rfl, Nat.le_of_ble_eq_true rfl⟩) ⟨hx, hb, hml, hown, hts⟩ hE hP hD hS hA 6 0 rfl rfl rfl rfl hl.1 rfl rfl (Nat.le_of_ble_eq_true rfl) dX6_judge_36 (fun H locs hP hD hS => ?_)
      refine lv_if_eq (tgt := 49) hx hb dX6_judge_39 (by decide) (fun hc => ?_) (fun hc => ?_)
      · have hf := if_t hf hc
        refine lv_aload_n hx hb dX6_judge_49 rfl (lv_at hl 1 rfl) ?_
        refine va_get (D := g.1) (ci := 6) (v := .ref h0) (C := RX6) (T := TX6) (N := 11) hx hb hts i_X6_judge_X6 hown hE.1 hP 0 rfl rfl 2 (by decide) w2 (fun _ h9 => h9) rfl dX6_judge_50 ?_
        refine lv_aload_n hx hb dX6_judge_53 rfl (lv_at hl 1 rfl) ?_
        refine va_get (D := g.1) (ci := 6) (v := .ref u0) (C := RX6) (T := TX6) (N := 11) hx hb hts i_X6_judge_X6 hown hE.1 hP 0 rfl rfl 0 (by decide) w3 (fun _ h9 => h9) rfl dX6_judge_54 ?_
        obtain ⟨R106, hg, hf⟩ := o1_s hf
        refine Ct.callV (ws' := wV g v0 u0 u1 u2 u3 k0 k1 k2 k3 h0 h1 h2 h3 s0 s1 s2 s3 c0 c1 c2 p0 r0 t0 t1 t2 t3 z0 f0 ea R N R106 S C P Q K X fd tl ik) (As := [.ref u0]) (rest := []) (st1 := []) (c_X1_become l g h0 h1 h2 h3 u0 u1 u2 u3 B R hg) (cwV 1 hts gX6_judge_X1_become rfl rfl rfl q_X1_become ⟨Nat.le_of_ble_eq_true rfl, Nat.le_of_ble_eq_true rfl⟩) ⟨hx, hb, hml, hown, hts⟩ hE hP hD hS hA [9, 10, 11, 12, 1, 2, 3, 4] rfl rfl rfl rfl 1 9 rfl rfl rfl rfl hl.1 rfl rfl (Nat.le_of_ble_eq_true rfl) dX6_judge_57 (fun H locs hP hD hS => ?_)
        refine lv_iconst (v := (0 : Int32)) hx hb dX6_judge_60 (by decide) ?_
        refine lv_istore_n (lv' := [(3, .int (0 : Int32)), (2, .ref (ea 1)), (0, .ref v0), (1, .int a1)]) hx hb dX6_judge_61 rfl hl (by decide) rfl (fun ls hl => ?_)
        refine L62_1 _ _ _ _ _ _ _ _  hf hP hD hS (lv_sub hl [2, 1, 0] rfl) (fun B113 H locs ls hf hP hD hS hl => ?_)
        refine lv_aload_n hx hb dX6_judge_118 rfl (lv_at hl 0 rfl) ?_
        refine va_get (D := g.1) (ci := 6) (v := .ref h0) (C := RX6) (T := TX6) (N := 11) hx hb hts i_X6_judge_X6 hown hE.1 hP 0 rfl rfl 2 (by decide) w2 (fun _ h9 => h9) rfl dX6_judge_119 ?_
        obtain ⟨x114, hg, hf⟩ := o1_s hf
        refine Ct.callV (ws' := wV g v0 u0 u1 u2 u3 k0 k1 k2 k3 h0 h1 h2 h3 s0 s1 s2 s3 c0 c1 c2 p0 r0 t0 t1 t2 t3 z0 f0 ea R N B113 S C P Q K X fd tl ik) (As := []) (rest := []) (st1 := [.int x114]) (c_X1_isOpen l g h0 h1 h2 h3 B113 hg) (cwV 0 hts gX6_judge_X1_isOpen rfl rfl rfl q_X1_isOpen ⟨Nat.le_of_ble_eq_true rfl, Nat.le_of_ble_eq_true rfl⟩) ⟨hx, hb, hml, hown, hts⟩ hE hP hD hS hA [9, 10, 11, 12] rfl rfl rfl rfl 1 9 rfl rfl rfl rfl hl.1 rfl rfl (Nat.le_of_ble_eq_true rfl) dX6_judge_122 (fun H locs hP hD hS => ?_)
        refine lv_if_eq (tgt := 132) hx hb dX6_judge_125 (by decide) (fun hc => ?_) (fun hc => ?_)
        · have hf := if_t hf hc
          refine lv_iconst (v := (1 : Int32)) hx hb dX6_judge_132 (by decide) ?_
          obtain ⟨rfl, rfl, rfl⟩ := some_p3 hf
          rw [hQ]; exact Ct.iret hx hb hr hlocks hAe hP hD hS dX6_judge_133
        · have hf := if_f hf hc
          refine lv_iconst (v := (0 : Int32)) hx hb dX6_judge_128 (by decide) ?_
          refine lv_goto (tgt := 133) hx hb dX6_judge_129 (by decide) ?_
          obtain ⟨rfl, rfl, rfl⟩ := some_p3 hf
          rw [hQ]; exact Ct.iret hx hb hr hlocks hAe hP hD hS dX6_judge_133
      · have hf := if_f hf hc
        refine lv_aload_n hx hb dX6_judge_42 rfl (lv_at hl 1 rfl) ?_
        refine lv_ldc hx hb hown w4 dX6_judge_43 ?_
        obtain ⟨x115, fd116, hg, hf⟩ := o2_s hf
        refine Ct.callV0 (ws' := wV g v0 u0 u1 u2 u3 k0 k1 k2 k3 h0 h1 h2 h3 s0 s1 s2 s3 c0 c1 c2 p0 r0 t0 t1 t2 t3 z0 f0 ea R N B S C P Q K X fd116 tl ik) (As := [.int (-1000005 : Int32)]) (rest := []) (st1 := [.int x115]) (c_X6_finding l g v0 u0 u1 u2 u3 k0 k1 k2 k3 h0 h1 h2 h3 s0 s1 s2 s3 c0 c1 c2 p0 r0 t0 t1 t2 t3 z0 f0 ea R N B S C P Q K X fd tl ik (-1000005 : Int32) hg) (cwV 1 hts gX6_judge_X6_finding rfl rfl rfl q_X6_finding ⟨Nat.le_of_ble_eq_true rfl, Nat.le_of_ble_eq_true rfl⟩) ⟨hx, hb, hml, hown, hts⟩ hE hP hD hS hA 6 0 rfl rfl rfl rfl hl.1 rfl rfl (Nat.le_of_ble_eq_true rfl) dX6_judge_45 (fun H locs hP hD hS => ?_)
        obtain ⟨rfl, rfl, rfl⟩ := some_p3 hf
        rw [hQ]; exact Ct.iret hx hb hr hlocks hAe hP hD hS dX6_judge_48
    · have hf := if_f hf hc
      refine lv_aload_n hx hb dX6_judge_24 rfl (lv_at hl 1 rfl) ?_
      refine lv_ldc hx hb hown w5 dX6_judge_25 ?_
      obtain ⟨x117, fd118, hg, hf⟩ := o2_s hf
      refine Ct.callV0 (ws' := wV g v0 u0 u1 u2 u3 k0 k1 k2 k3 h0 h1 h2 h3 s0 s1 s2 s3 c0 c1 c2 p0 r0 t0 t1 t2 t3 z0 f0 ea R N B S C P Q K X fd118 tl ik) (As := [.int (-1000006 : Int32)]) (rest := []) (st1 := [.int x117]) (c_X6_finding l g v0 u0 u1 u2 u3 k0 k1 k2 k3 h0 h1 h2 h3 s0 s1 s2 s3 c0 c1 c2 p0 r0 t0 t1 t2 t3 z0 f0 ea R N B S C P Q K X fd tl ik (-1000006 : Int32) hg) (cwV 1 hts gX6_judge_X6_finding rfl rfl rfl q_X6_finding ⟨Nat.le_of_ble_eq_true rfl, Nat.le_of_ble_eq_true rfl⟩) ⟨hx, hb, hml, hown, hts⟩ hE hP hD hS hA 6 0 rfl rfl rfl rfl hl.1 rfl rfl (Nat.le_of_ble_eq_true rfl) dX6_judge_27 (fun H locs hP hD hS => ?_)
      obtain ⟨rfl, rfl, rfl⟩ := some_p3 hf
      rw [hQ]; exact Ct.iret hx hb hr hlocks hAe hP hD hS dX6_judge_30
  · refine Ct.callV0 (ws' := wV g v0 u0 u1 u2 u3 k0 k1 k2 k3 h0 h1 h2 h3 s0 s1 s2 s3 c0 c1 c2 p0 r0 t0 t1 t2 t3 z0 f0 ea R N B S C P Q K X fd tl ik) (As := [.int a1]) (rest := []) (st1 := [.ref (ea 2)]) (c_X6_sheetAt l g v0 u0 u1 u2 u3 k0 k1 k2 k3 h0 h1 h2 h3 s0 s1 s2 s3 c0 c1 c2 p0 r0 t0 t1 t2 t3 z0 f0 ea R N B S C P Q K X fd tl ik 2 (by decide) a1 hs) (cwV 1 hts gX6_judge_X6_sheetAt rfl rfl rfl q_X6_sheetAt ⟨Nat.le_of_ble_eq_true rfl, Nat.le_of_ble_eq_true rfl⟩) ⟨hx, hb, hml, hown, hts⟩ hE hP hD hS hA 6 0 rfl rfl rfl rfl hl.1 rfl rfl (Nat.le_of_ble_eq_true rfl) dX6_judge_2 (fun H locs hP hD hS => ?_)
    refine lv_astore_n (lv' := [(2, .ref (ea 2)), (0, .ref v0), (1, .int a1)]) hx hb dX6_judge_5 rfl hl (by decide) rfl (fun ls hl => ?_)
    refine lv_aload_n hx hb dX6_judge_6 rfl (lv_at hl 0 rfl) ?_
    refine lv_ifnonnull (tgt := 17) hx hb dX6_judge_7 (by decide) ?_
    refine lv_aload_n hx hb dX6_judge_17 rfl (lv_at hl 0 rfl) ?_
    obtain ⟨x104, hg, hf⟩ := o1_s hf
    refine Ct.callV (ws' := wV g v0 u0 u1 u2 u3 k0 k1 k2 k3 h0 h1 h2 h3 s0 s1 s2 s3 c0 c1 c2 p0 r0 t0 t1 t2 t3 z0 f0 ea R N B S C P Q K X fd tl ik) (As := []) (rest := []) (st1 := [.int x104]) (c_X2_isMissing l g (ea 2) (ea 6) (X 2) hg) (cwV 0 hts gX6_judge_X2_isMissing rfl rfl rfl q_X2_isMissing ⟨Nat.le_of_ble_eq_true rfl, Nat.le_of_ble_eq_true rfl⟩) ⟨hx, hb, hml, hown, hts⟩ hE hP hD hS hA [31, 32] rfl rfl rfl rfl 2 31 rfl rfl rfl rfl hl.1 rfl rfl (Nat.le_of_ble_eq_true rfl) dX6_judge_18 (fun H locs hP hD hS => ?_)
    refine lv_if_eq (tgt := 31) hx hb dX6_judge_21 (by decide) (fun hc => ?_) (fun hc => ?_)
    · have hf := if_t hf hc
      refine lv_aload_n hx hb dX6_judge_31 rfl (lv_at hl 1 rfl) ?_
      refine lv_aload_n hx hb dX6_judge_32 rfl (lv_at hl 0 rfl) ?_
      refine va_getN (D := g.1) (ci := 2) (v := .int ((X 2).2.2)) (C := RX2) (T := TX2) (N := 3) hx hb hts i_X6_judge_X2 hown hE.1 hP 31 rfl rfl 2 (by decide) (va_Nw.use rfl (hE.2.1 _ (List.mem_of_getElem? (i := 20) rfl))) (fun _ h9 => h9) rfl dX6_judge_33 ?_
      obtain ⟨x105, hg, hf⟩ := o1_s hf
      refine Ct.callV0 (ws' := wV g v0 u0 u1 u2 u3 k0 k1 k2 k3 h0 h1 h2 h3 s0 s1 s2 s3 c0 c1 c2 p0 r0 t0 t1 t2 t3 z0 f0 ea R N B S C P Q K X fd tl ik) (As := [.int ((X 2).2.2)]) (rest := []) (st1 := [.int x105]) (c_X6_isTooLate l g v0 u0 u1 u2 u3 k0 k1 k2 k3 h0 h1 h2 h3 s0 s1 s2 s3 c0 c1 c2 p0 r0 t0 t1 t2 t3 z0 f0 ea R N B S C P Q K X fd tl ik ((X 2).2.2) hg) (cwV 1 hts gX6_judge_X6_isTooLate rfl rfl rfl q_X6_isTooLate ⟨Nat.le_of_ble_eq_true rfl, Nat.le_of_ble_eq_true rfl⟩) ⟨hx, hb, hml, hown, hts⟩ hE hP hD hS hA 6 0 rfl rfl rfl rfl hl.1 rfl rfl (Nat.le_of_ble_eq_true rfl) dX6_judge_36 (fun H locs hP hD hS => ?_)
      refine lv_if_eq (tgt := 49) hx hb dX6_judge_39 (by decide) (fun hc => ?_) (fun hc => ?_)
      · have hf := if_t hf hc
        refine lv_aload_n hx hb dX6_judge_49 rfl (lv_at hl 1 rfl) ?_
        refine va_get (D := g.1) (ci := 6) (v := .ref h0) (C := RX6) (T := TX6) (N := 11) hx hb hts i_X6_judge_X6 hown hE.1 hP 0 rfl rfl 2 (by decide) w2 (fun _ h9 => h9) rfl dX6_judge_50 ?_
        refine lv_aload_n hx hb dX6_judge_53 rfl (lv_at hl 1 rfl) ?_
        refine va_get (D := g.1) (ci := 6) (v := .ref u0) (C := RX6) (T := TX6) (N := 11) hx hb hts i_X6_judge_X6 hown hE.1 hP 0 rfl rfl 0 (by decide) w3 (fun _ h9 => h9) rfl dX6_judge_54 ?_
        obtain ⟨R106, hg, hf⟩ := o1_s hf
        refine Ct.callV (ws' := wV g v0 u0 u1 u2 u3 k0 k1 k2 k3 h0 h1 h2 h3 s0 s1 s2 s3 c0 c1 c2 p0 r0 t0 t1 t2 t3 z0 f0 ea R N R106 S C P Q K X fd tl ik) (As := [.ref u0]) (rest := []) (st1 := []) (c_X1_become l g h0 h1 h2 h3 u0 u1 u2 u3 B R hg) (cwV 1 hts gX6_judge_X1_become rfl rfl rfl q_X1_become ⟨Nat.le_of_ble_eq_true rfl, Nat.le_of_ble_eq_true rfl⟩) ⟨hx, hb, hml, hown, hts⟩ hE hP hD hS hA [9, 10, 11, 12, 1, 2, 3, 4] rfl rfl rfl rfl 1 9 rfl rfl rfl rfl hl.1 rfl rfl (Nat.le_of_ble_eq_true rfl) dX6_judge_57 (fun H locs hP hD hS => ?_)
        refine lv_iconst (v := (0 : Int32)) hx hb dX6_judge_60 (by decide) ?_
        refine lv_istore_n (lv' := [(3, .int (0 : Int32)), (2, .ref (ea 2)), (0, .ref v0), (1, .int a1)]) hx hb dX6_judge_61 rfl hl (by decide) rfl (fun ls hl => ?_)
        refine L62_2 _ _ _ _ _ _ _ _  hf hP hD hS (lv_sub hl [2, 1, 0] rfl) (fun B113 H locs ls hf hP hD hS hl => ?_)
        refine lv_aload_n hx hb dX6_judge_118 rfl (lv_at hl 0 rfl) ?_
        refine va_get (D := g.1) (ci := 6) (v := .ref h0) (C := RX6) (T := TX6) (N := 11) hx hb hts i_X6_judge_X6 hown hE.1 hP 0 rfl rfl 2 (by decide) w2 (fun _ h9 => h9) rfl dX6_judge_119 ?_
        obtain ⟨x114, hg, hf⟩ := o1_s hf
        refine Ct.callV (ws' := wV g v0 u0 u1 u2 u3 k0 k1 k2 k3 h0 h1 h2 h3 s0 s1 s2 s3 c0 c1 c2 p0 r0 t0 t1 t2 t3 z0 f0 ea R N B113 S C P Q K X fd tl ik) (As := []) (rest := []) (st1 := [.int x114]) (c_X1_isOpen l g h0 h1 h2 h3 B113 hg) (cwV 0 hts gX6_judge_X1_isOpen rfl rfl rfl q_X1_isOpen ⟨Nat.le_of_ble_eq_true rfl, Nat.le_of_ble_eq_true rfl⟩) ⟨hx, hb, hml, hown, hts⟩ hE hP hD hS hA [9, 10, 11, 12] rfl rfl rfl rfl 1 9 rfl rfl rfl rfl hl.1 rfl rfl (Nat.le_of_ble_eq_true rfl) dX6_judge_122 (fun H locs hP hD hS => ?_)
        refine lv_if_eq (tgt := 132) hx hb dX6_judge_125 (by decide) (fun hc => ?_) (fun hc => ?_)
        · have hf := if_t hf hc
          refine lv_iconst (v := (1 : Int32)) hx hb dX6_judge_132 (by decide) ?_
          obtain ⟨rfl, rfl, rfl⟩ := some_p3 hf
          rw [hQ]; exact Ct.iret hx hb hr hlocks hAe hP hD hS dX6_judge_133
        · have hf := if_f hf hc
          refine lv_iconst (v := (0 : Int32)) hx hb dX6_judge_128 (by decide) ?_
          refine lv_goto (tgt := 133) hx hb dX6_judge_129 (by decide) ?_
          obtain ⟨rfl, rfl, rfl⟩ := some_p3 hf
          rw [hQ]; exact Ct.iret hx hb hr hlocks hAe hP hD hS dX6_judge_133
      · have hf := if_f hf hc
        refine lv_aload_n hx hb dX6_judge_42 rfl (lv_at hl 1 rfl) ?_
        refine lv_ldc hx hb hown w4 dX6_judge_43 ?_
        obtain ⟨x115, fd116, hg, hf⟩ := o2_s hf
        refine Ct.callV0 (ws' := wV g v0 u0 u1 u2 u3 k0 k1 k2 k3 h0 h1 h2 h3 s0 s1 s2 s3 c0 c1 c2 p0 r0 t0 t1 t2 t3 z0 f0 ea R N B S C P Q K X fd116 tl ik) (As := [.int (-1000005 : Int32)]) (rest := []) (st1 := [.int x115]) (c_X6_finding l g v0 u0 u1 u2 u3 k0 k1 k2 k3 h0 h1 h2 h3 s0 s1 s2 s3 c0 c1 c2 p0 r0 t0 t1 t2 t3 z0 f0 ea R N B S C P Q K X fd tl ik (-1000005 : Int32) hg) (cwV 1 hts gX6_judge_X6_finding rfl rfl rfl q_X6_finding ⟨Nat.le_of_ble_eq_true rfl, Nat.le_of_ble_eq_true rfl⟩) ⟨hx, hb, hml, hown, hts⟩ hE hP hD hS hA 6 0 rfl rfl rfl rfl hl.1 rfl rfl (Nat.le_of_ble_eq_true rfl) dX6_judge_45 (fun H locs hP hD hS => ?_)
        obtain ⟨rfl, rfl, rfl⟩ := some_p3 hf
        rw [hQ]; exact Ct.iret hx hb hr hlocks hAe hP hD hS dX6_judge_48
    · have hf := if_f hf hc
      refine lv_aload_n hx hb dX6_judge_24 rfl (lv_at hl 1 rfl) ?_
      refine lv_ldc hx hb hown w5 dX6_judge_25 ?_
      obtain ⟨x117, fd118, hg, hf⟩ := o2_s hf
      refine Ct.callV0 (ws' := wV g v0 u0 u1 u2 u3 k0 k1 k2 k3 h0 h1 h2 h3 s0 s1 s2 s3 c0 c1 c2 p0 r0 t0 t1 t2 t3 z0 f0 ea R N B S C P Q K X fd118 tl ik) (As := [.int (-1000006 : Int32)]) (rest := []) (st1 := [.int x117]) (c_X6_finding l g v0 u0 u1 u2 u3 k0 k1 k2 k3 h0 h1 h2 h3 s0 s1 s2 s3 c0 c1 c2 p0 r0 t0 t1 t2 t3 z0 f0 ea R N B S C P Q K X fd tl ik (-1000006 : Int32) hg) (cwV 1 hts gX6_judge_X6_finding rfl rfl rfl q_X6_finding ⟨Nat.le_of_ble_eq_true rfl, Nat.le_of_ble_eq_true rfl⟩) ⟨hx, hb, hml, hown, hts⟩ hE hP hD hS hA 6 0 rfl rfl rfl rfl hl.1 rfl rfl (Nat.le_of_ble_eq_true rfl) dX6_judge_27 (fun H locs hP hD hS => ?_)
      obtain ⟨rfl, rfl, rfl⟩ := some_p3 hf
      rw [hQ]; exact Ct.iret hx hb hr hlocks hAe hP hD hS dX6_judge_30
  · refine Ct.callV0 (ws' := wV g v0 u0 u1 u2 u3 k0 k1 k2 k3 h0 h1 h2 h3 s0 s1 s2 s3 c0 c1 c2 p0 r0 t0 t1 t2 t3 z0 f0 ea R N B S C P Q K X fd tl ik) (As := [.int a1]) (rest := []) (st1 := [.ref (ea 3)]) (c_X6_sheetAt l g v0 u0 u1 u2 u3 k0 k1 k2 k3 h0 h1 h2 h3 s0 s1 s2 s3 c0 c1 c2 p0 r0 t0 t1 t2 t3 z0 f0 ea R N B S C P Q K X fd tl ik 3 (by decide) a1 hs) (cwV 1 hts gX6_judge_X6_sheetAt rfl rfl rfl q_X6_sheetAt ⟨Nat.le_of_ble_eq_true rfl, Nat.le_of_ble_eq_true rfl⟩) ⟨hx, hb, hml, hown, hts⟩ hE hP hD hS hA 6 0 rfl rfl rfl rfl hl.1 rfl rfl (Nat.le_of_ble_eq_true rfl) dX6_judge_2 (fun H locs hP hD hS => ?_)
    refine lv_astore_n (lv' := [(2, .ref (ea 3)), (0, .ref v0), (1, .int a1)]) hx hb dX6_judge_5 rfl hl (by decide) rfl (fun ls hl => ?_)
    refine lv_aload_n hx hb dX6_judge_6 rfl (lv_at hl 0 rfl) ?_
    refine lv_ifnonnull (tgt := 17) hx hb dX6_judge_7 (by decide) ?_
    refine lv_aload_n hx hb dX6_judge_17 rfl (lv_at hl 0 rfl) ?_
    obtain ⟨x104, hg, hf⟩ := o1_s hf
    refine Ct.callV (ws' := wV g v0 u0 u1 u2 u3 k0 k1 k2 k3 h0 h1 h2 h3 s0 s1 s2 s3 c0 c1 c2 p0 r0 t0 t1 t2 t3 z0 f0 ea R N B S C P Q K X fd tl ik) (As := []) (rest := []) (st1 := [.int x104]) (c_X2_isMissing l g (ea 3) (ea 7) (X 3) hg) (cwV 0 hts gX6_judge_X2_isMissing rfl rfl rfl q_X2_isMissing ⟨Nat.le_of_ble_eq_true rfl, Nat.le_of_ble_eq_true rfl⟩) ⟨hx, hb, hml, hown, hts⟩ hE hP hD hS hA [33, 34] rfl rfl rfl rfl 2 33 rfl rfl rfl rfl hl.1 rfl rfl (Nat.le_of_ble_eq_true rfl) dX6_judge_18 (fun H locs hP hD hS => ?_)
    refine lv_if_eq (tgt := 31) hx hb dX6_judge_21 (by decide) (fun hc => ?_) (fun hc => ?_)
    · have hf := if_t hf hc
      refine lv_aload_n hx hb dX6_judge_31 rfl (lv_at hl 1 rfl) ?_
      refine lv_aload_n hx hb dX6_judge_32 rfl (lv_at hl 0 rfl) ?_
      refine va_getN (D := g.1) (ci := 2) (v := .int ((X 3).2.2)) (C := RX2) (T := TX2) (N := 3) hx hb hts i_X6_judge_X2 hown hE.1 hP 33 rfl rfl 2 (by decide) (va_Nw.use rfl (hE.2.1 _ (List.mem_of_getElem? (i := 20) rfl))) (fun _ h9 => h9) rfl dX6_judge_33 ?_
      obtain ⟨x105, hg, hf⟩ := o1_s hf
      refine Ct.callV0 (ws' := wV g v0 u0 u1 u2 u3 k0 k1 k2 k3 h0 h1 h2 h3 s0 s1 s2 s3 c0 c1 c2 p0 r0 t0 t1 t2 t3 z0 f0 ea R N B S C P Q K X fd tl ik) (As := [.int ((X 3).2.2)]) (rest := []) (st1 := [.int x105]) (c_X6_isTooLate l g v0 u0 u1 u2 u3 k0 k1 k2 k3 h0 h1 h2 h3 s0 s1 s2 s3 c0 c1 c2 p0 r0 t0 t1 t2 t3 z0 f0 ea R N B S C P Q K X fd tl ik ((X 3).2.2) hg) (cwV 1 hts gX6_judge_X6_isTooLate rfl rfl rfl q_X6_isTooLate ⟨Nat.le_of_ble_eq_true rfl, Nat.le_of_ble_eq_true rfl⟩) ⟨hx, hb, hml, hown, hts⟩ hE hP hD hS hA 6 0 rfl rfl rfl rfl hl.1 rfl rfl (Nat.le_of_ble_eq_true rfl) dX6_judge_36 (fun H locs hP hD hS => ?_)
      refine lv_if_eq (tgt := 49) hx hb dX6_judge_39 (by decide) (fun hc => ?_) (fun hc => ?_)
      · have hf := if_t hf hc
        refine lv_aload_n hx hb dX6_judge_49 rfl (lv_at hl 1 rfl) ?_
        refine va_get (D := g.1) (ci := 6) (v := .ref h0) (C := RX6) (T := TX6) (N := 11) hx hb hts i_X6_judge_X6 hown hE.1 hP 0 rfl rfl 2 (by decide) w2 (fun _ h9 => h9) rfl dX6_judge_50 ?_
        refine lv_aload_n hx hb dX6_judge_53 rfl (lv_at hl 1 rfl) ?_
        refine va_get (D := g.1) (ci := 6) (v := .ref u0) (C := RX6) (T := TX6) (N := 11) hx hb hts i_X6_judge_X6 hown hE.1 hP 0 rfl rfl 0 (by decide) w3 (fun _ h9 => h9) rfl dX6_judge_54 ?_
        obtain ⟨R106, hg, hf⟩ := o1_s hf
        refine Ct.callV (ws' := wV g v0 u0 u1 u2 u3 k0 k1 k2 k3 h0 h1 h2 h3 s0 s1 s2 s3 c0 c1 c2 p0 r0 t0 t1 t2 t3 z0 f0 ea R N R106 S C P Q K X fd tl ik) (As := [.ref u0]) (rest := []) (st1 := []) (c_X1_become l g h0 h1 h2 h3 u0 u1 u2 u3 B R hg) (cwV 1 hts gX6_judge_X1_become rfl rfl rfl q_X1_become ⟨Nat.le_of_ble_eq_true rfl, Nat.le_of_ble_eq_true rfl⟩) ⟨hx, hb, hml, hown, hts⟩ hE hP hD hS hA [9, 10, 11, 12, 1, 2, 3, 4] rfl rfl rfl rfl 1 9 rfl rfl rfl rfl hl.1 rfl rfl (Nat.le_of_ble_eq_true rfl) dX6_judge_57 (fun H locs hP hD hS => ?_)
        refine lv_iconst (v := (0 : Int32)) hx hb dX6_judge_60 (by decide) ?_
        refine lv_istore_n (lv' := [(3, .int (0 : Int32)), (2, .ref (ea 3)), (0, .ref v0), (1, .int a1)]) hx hb dX6_judge_61 rfl hl (by decide) rfl (fun ls hl => ?_)
        refine L62_3 _ _ _ _ _ _ _ _  hf hP hD hS (lv_sub hl [2, 1, 0] rfl) (fun B113 H locs ls hf hP hD hS hl => ?_)
        refine lv_aload_n hx hb dX6_judge_118 rfl (lv_at hl 0 rfl) ?_
        refine va_get (D := g.1) (ci := 6) (v := .ref h0) (C := RX6) (T := TX6) (N := 11) hx hb hts i_X6_judge_X6 hown hE.1 hP 0 rfl rfl 2 (by decide) w2 (fun _ h9 => h9) rfl dX6_judge_119 ?_
        obtain ⟨x114, hg, hf⟩ := o1_s hf
        refine Ct.callV (ws' := wV g v0 u0 u1 u2 u3 k0 k1 k2 k3 h0 h1 h2 h3 s0 s1 s2 s3 c0 c1 c2 p0 r0 t0 t1 t2 t3 z0 f0 ea R N B113 S C P Q K X fd tl ik) (As := []) (rest := []) (st1 := [.int x114]) (c_X1_isOpen l g h0 h1 h2 h3 B113 hg) (cwV 0 hts gX6_judge_X1_isOpen rfl rfl rfl q_X1_isOpen ⟨Nat.le_of_ble_eq_true rfl, Nat.le_of_ble_eq_true rfl⟩) ⟨hx, hb, hml, hown, hts⟩ hE hP hD hS hA [9, 10, 11, 12] rfl rfl rfl rfl 1 9 rfl rfl rfl rfl hl.1 rfl rfl (Nat.le_of_ble_eq_true rfl) dX6_judge_122 (fun H locs hP hD hS => ?_)
        refine lv_if_eq (tgt := 132) hx hb dX6_judge_125 (by decide) (fun hc => ?_) (fun hc => ?_)
        · have hf := if_t hf hc
          refine lv_iconst (v := (1 : Int32)) hx hb dX6_judge_132 (by decide) ?_
          obtain ⟨rfl, rfl, rfl⟩ := some_p3 hf
          rw [hQ]; exact Ct.iret hx hb hr hlocks hAe hP hD hS dX6_judge_133
        · have hf := if_f hf hc
          refine lv_iconst (v := (0 : Int32)) hx hb dX6_judge_128 (by decide) ?_
          refine lv_goto (tgt := 133) hx hb dX6_judge_129 (by decide) ?_
          obtain ⟨rfl, rfl, rfl⟩ := some_p3 hf
          rw [hQ]; exact Ct.iret hx hb hr hlocks hAe hP hD hS dX6_judge_133
      · have hf := if_f hf hc
        refine lv_aload_n hx hb dX6_judge_42 rfl (lv_at hl 1 rfl) ?_
        refine lv_ldc hx hb hown w4 dX6_judge_43 ?_
        obtain ⟨x115, fd116, hg, hf⟩ := o2_s hf
        refine Ct.callV0 (ws' := wV g v0 u0 u1 u2 u3 k0 k1 k2 k3 h0 h1 h2 h3 s0 s1 s2 s3 c0 c1 c2 p0 r0 t0 t1 t2 t3 z0 f0 ea R N B S C P Q K X fd116 tl ik) (As := [.int (-1000005 : Int32)]) (rest := []) (st1 := [.int x115]) (c_X6_finding l g v0 u0 u1 u2 u3 k0 k1 k2 k3 h0 h1 h2 h3 s0 s1 s2 s3 c0 c1 c2 p0 r0 t0 t1 t2 t3 z0 f0 ea R N B S C P Q K X fd tl ik (-1000005 : Int32) hg) (cwV 1 hts gX6_judge_X6_finding rfl rfl rfl q_X6_finding ⟨Nat.le_of_ble_eq_true rfl, Nat.le_of_ble_eq_true rfl⟩) ⟨hx, hb, hml, hown, hts⟩ hE hP hD hS hA 6 0 rfl rfl rfl rfl hl.1 rfl rfl (Nat.le_of_ble_eq_true rfl) dX6_judge_45 (fun H locs hP hD hS => ?_)
        obtain ⟨rfl, rfl, rfl⟩ := some_p3 hf
        rw [hQ]; exact Ct.iret hx hb hr hlocks hAe hP hD hS dX6_judge_48
    · have hf := if_f hf hc
      refine lv_aload_n hx hb dX6_judge_24 rfl (lv_at hl 1 rfl) ?_
      refine lv_ldc hx hb hown w5 dX6_judge_25 ?_
      obtain ⟨x117, fd118, hg, hf⟩ := o2_s hf
      refine Ct.callV0 (ws' := wV g v0 u0 u1 u2 u3 k0 k1 k2 k3 h0 h1 h2 h3 s0 s1 s2 s3 c0 c1 c2 p0 r0 t0 t1 t2 t3 z0 f0 ea R N B S C P Q K X fd118 tl ik) (As := [.int (-1000006 : Int32)]) (rest := []) (st1 := [.int x117]) (c_X6_finding l g v0 u0 u1 u2 u3 k0 k1 k2 k3 h0 h1 h2 h3 s0 s1 s2 s3 c0 c1 c2 p0 r0 t0 t1 t2 t3 z0 f0 ea R N B S C P Q K X fd tl ik (-1000006 : Int32) hg) (cwV 1 hts gX6_judge_X6_finding rfl rfl rfl q_X6_finding ⟨Nat.le_of_ble_eq_true rfl, Nat.le_of_ble_eq_true rfl⟩) ⟨hx, hb, hml, hown, hts⟩ hE hP hD hS hA 6 0 rfl rfl rfl rfl hl.1 rfl rfl (Nat.le_of_ble_eq_true rfl) dX6_judge_27 (fun H locs hP hD hS => ?_)
      obtain ⟨rfl, rfl, rfl⟩ := some_p3 hf
      rw [hQ]; exact Ct.iret hx hb hr hlocks hAe hP hD hS dX6_judge_30
def fX6_image (R : Rf) (N : Rf) (ik : Int32) : Option (Int32 × Rf × Int32) := o1 (fX1_become N R) (fun R101 => some ((1 : Int32), R101, (1 : Int32)))
theorem q_X6_image : yX6_image.cls = RX6 ∧ yX6_image.cls ≠ "java/lang/invoke/MethodHandle" ∧ yX6_image.cls ≠ "java/lang/invoke/VarHandle" ∧ (parseMethodDescriptor yX6_image.desc).map (fun d => d.parameters.length) = some 0 := by decide +kernel
theorem i_X6_image_X6 : ∀ w ∈ u_ws RX6 TX6 11, w ∈ wsX6_image := fun _ h => List.mem_cons_of_mem _ (List.mem_append_left _ (List.mem_append_right _ (h)))
set_option maxHeartbeats 4000000 in
set_option maxRecDepth 100000 in
theorem c_X6_image (l : Launch) (g : gG) (v0 u0 u1 u2 u3 k0 k1 k2 k3 h0 h1 h2 h3 s0 s1 s2 s3 c0 c1 c2 p0 r0 t0 t1 t2 t3 z0 f0 : Nat) (ea : Nat → Nat) (R : Rf) (N : Rf) (B : Rf) (S : Sv) (C : Ca) (P : Nat → Int32) (Q : Tr) (K : Tk) (X : F4) (fd : Nat → Int32) (tl : Int32) (ik : Int32) {r : Int32} {N' : Rf} {ik' : Int32} (hf : fX6_image R N ik = some (r, N', ik')) : Ct l yX6_image wsX6_image (rmm 3 102) g (wV g v0 u0 u1 u2 u3 k0 k1 k2 k3 h0 h1 h2 h3 s0 s1 s2 s3 c0 c1 c2 p0 r0 t0 t1 t2 t3 z0 f0 ea R N B S C P Q K X fd tl ik) (wV g v0 u0 u1 u2 u3 k0 k1 k2 k3 h0 h1 h2 h3 s0 s1 s2 s3 c0 c1 c2 p0 r0 t0 t1 t2 t3 z0 f0 ea R (N') B S C P Q K X fd tl (ik')) [.ref v0] (some (.int r)) := by
  refine Ct.mk (by decide) rfl (Nat.le_of_ble_eq_true rfl) ?_
  intro p e s m args below meth c A ls hx hb hr hml hts hown hlocks hA hE hP hD hS hl hAe
  obtain ⟨Qx, hQ⟩ : ∃ Qx : State → Prop, Qx = MQ below (QcG g (wV g v0 u0 u1 u2 u3 k0 k1 k2 k3 h0 h1 h2 h3 s0 s1 s2 s3 c0 c1 c2 p0 r0 t0 t1 t2 t3 z0 f0 ea R N B S C P Q K X fd tl ik) (wV g v0 u0 u1 u2 u3 k0 k1 k2 k3 h0 h1 h2 h3 s0 s1 s2 s3 c0 c1 c2 p0 r0 t0 t1 t2 t3 z0 f0 ea R (N') B S C P Q K X fd tl (ik')) (some (.int r)) s.heap.size) args s 0 0 A := ⟨_, rfl⟩
  rw [← hQ]
  have hown : s.vm.findClass RX6 = some m.cls := hown
  have hl : lv_has ls 1 [(0, .ref v0)] := hl
  have w1 := hts (.fieldLink RX6 16 "RainVault" "kept" "LRainVault$Roof;") (List.mem_of_getElem? (i := 1) rfl)
  have w2 := hts (.fieldLink RX6 10 "RainVault" "roof" "LRainVault$Roof;") (List.mem_of_getElem? (i := 2) rfl)
  have w3 := hts (.fieldLink RX6 65 "RainVault" "isKept" "Z") (List.mem_of_getElem? (i := 3) rfl)
  unfold fX6_image at hf
  refine lv_aload_n hx hb dX6_image_0 rfl (lv_at hl 0 rfl) ?_
  refine va_get (D := g.1) (ci := 6) (v := .ref k0) (C := RX6) (T := TX6) (N := 11) hx hb hts i_X6_image_X6 hown hE.1 hP 0 rfl rfl 1 (by decide) w1 (fun _ h9 => h9) rfl dX6_image_1 ?_
  refine lv_aload_n hx hb dX6_image_4 rfl (lv_at hl 0 rfl) ?_
  refine va_get (D := g.1) (ci := 6) (v := .ref u0) (C := RX6) (T := TX6) (N := 11) hx hb hts i_X6_image_X6 hown hE.1 hP 0 rfl rfl 0 (by decide) w2 (fun _ h9 => h9) rfl dX6_image_5 ?_
  obtain ⟨R101, hg, hf⟩ := o1_s hf
  refine Ct.callV (ws' := wV g v0 u0 u1 u2 u3 k0 k1 k2 k3 h0 h1 h2 h3 s0 s1 s2 s3 c0 c1 c2 p0 r0 t0 t1 t2 t3 z0 f0 ea R R101 B S C P Q K X fd tl ik) (As := [.ref u0]) (rest := []) (st1 := []) (c_X1_become l g k0 k1 k2 k3 u0 u1 u2 u3 N R hg) (cwV 1 hts gX6_image_X1_become rfl rfl rfl q_X1_become ⟨Nat.le_of_ble_eq_true rfl, Nat.le_of_ble_eq_true rfl⟩) ⟨hx, hb, hml, hown, hts⟩ hE hP hD hS hA [5, 6, 7, 8, 1, 2, 3, 4] rfl rfl rfl rfl 1 5 rfl rfl rfl rfl hl.1 rfl rfl (Nat.le_of_ble_eq_true rfl) dX6_image_8 (fun H locs hP hD hS => ?_)
  refine lv_aload_n hx hb dX6_image_11 rfl (lv_at hl 0 rfl) ?_
  refine lv_iconst (v := (1 : Int32)) hx hb dX6_image_12 (by decide) ?_
  refine va_put (D := g.1) (ci := 6) (v := .int (1 : Int32)) (ty := .boolean) (C := RX6) (T := TX6) (N := 11) hx hb hts i_X6_image_X6 tyX6 tyX6_ok nmX6 hown hE.1 hP hD hS 0 rfl rfl 10 (by decide) w3 (fun _ h9 => h9) rfl (by decide +kernel) rfl rfl (Nat.le_of_ble_eq_true rfl) dX6_image_13 (fun H locs hP hD hS => ?_)
  have hP : va_P g.1 vwK (wV g v0 u0 u1 u2 u3 k0 k1 k2 k3 h0 h1 h2 h3 s0 s1 s2 s3 c0 c1 c2 p0 r0 t0 t1 t2 t3 z0 f0 ea R R101 B S C P Q K X fd tl (1 : Int32)) H := hP
  have hD : va_D A (wV g v0 u0 u1 u2 u3 k0 k1 k2 k3 h0 h1 h2 h3 s0 s1 s2 s3 c0 c1 c2 p0 r0 t0 t1 t2 t3 z0 f0 ea R R101 B S C P Q K X fd tl (1 : Int32)) := hD
  refine lv_iconst (v := (1 : Int32)) hx hb dX6_image_16 (by decide) ?_
  obtain ⟨rfl, rfl, rfl⟩ := some_p3 hf
  rw [hQ]; exact Ct.iret hx hb hr hlocks hAe hP hD hS dX6_image_17
def fX6_undo (R : Rf) (N : Rf) (fd : Nat → Int32) (ik : Int32) : Option (Int32 × Rf × (Nat → Int32)) := if ik = 0 then (o2 (fX6_finding fd (-1000004 : Int32)) (fun x102 fd103 => some (x102, R, fd103))) else (o1 (fX1_become R N) (fun R101 => some (R101.2.2.2.2.2.2.1, R101, fd)))
theorem q_X6_undo : yX6_undo.cls = RX6 ∧ yX6_undo.cls ≠ "java/lang/invoke/MethodHandle" ∧ yX6_undo.cls ≠ "java/lang/invoke/VarHandle" ∧ (parseMethodDescriptor yX6_undo.desc).map (fun d => d.parameters.length) = some 0 := by decide +kernel
theorem i_X6_undo_X6 : ∀ w ∈ u_ws RX6 TX6 11, w ∈ wsX6_undo := fun _ h => List.mem_cons_of_mem _ (List.mem_append_left _ (List.mem_append_right _ (h)))
theorem i_X6_undo_X1 : ∀ w ∈ u_ws RX1 TX1 9, w ∈ wsX6_undo := fun _ h => List.mem_cons_of_mem _ (List.mem_append_right _ (h))
set_option maxHeartbeats 4000000 in
set_option maxRecDepth 100000 in
theorem c_X6_undo (l : Launch) (g : gG) (v0 u0 u1 u2 u3 k0 k1 k2 k3 h0 h1 h2 h3 s0 s1 s2 s3 c0 c1 c2 p0 r0 t0 t1 t2 t3 z0 f0 : Nat) (ea : Nat → Nat) (R : Rf) (N : Rf) (B : Rf) (S : Sv) (C : Ca) (P : Nat → Int32) (Q : Tr) (K : Tk) (X : F4) (fd : Nat → Int32) (tl : Int32) (ik : Int32) {r : Int32} {R' : Rf} {fd' : Nat → Int32} (hf : fX6_undo R N fd ik = some (r, R', fd')) : Ct l yX6_undo wsX6_undo (rmm 3 102) g (wV g v0 u0 u1 u2 u3 k0 k1 k2 k3 h0 h1 h2 h3 s0 s1 s2 s3 c0 c1 c2 p0 r0 t0 t1 t2 t3 z0 f0 ea R N B S C P Q K X fd tl ik) (wV g v0 u0 u1 u2 u3 k0 k1 k2 k3 h0 h1 h2 h3 s0 s1 s2 s3 c0 c1 c2 p0 r0 t0 t1 t2 t3 z0 f0 ea (R') N B S C P Q K X (fd') tl ik) [.ref v0] (some (.int r)) := by
  refine Ct.mk (by decide) rfl (Nat.le_of_ble_eq_true rfl) ?_
  intro p e s m args below meth c A ls hx hb hr hml hts hown hlocks hA hE hP hD hS hl hAe
  obtain ⟨Qx, hQ⟩ : ∃ Qx : State → Prop, Qx = MQ below (QcG g (wV g v0 u0 u1 u2 u3 k0 k1 k2 k3 h0 h1 h2 h3 s0 s1 s2 s3 c0 c1 c2 p0 r0 t0 t1 t2 t3 z0 f0 ea R N B S C P Q K X fd tl ik) (wV g v0 u0 u1 u2 u3 k0 k1 k2 k3 h0 h1 h2 h3 s0 s1 s2 s3 c0 c1 c2 p0 r0 t0 t1 t2 t3 z0 f0 ea (R') N B S C P Q K X (fd') tl ik) (some (.int r)) s.heap.size) args s 0 0 A := ⟨_, rfl⟩
  rw [← hQ]
  have hown : s.vm.findClass RX6 = some m.cls := hown
  have hl : lv_has ls 1 [(0, .ref v0)] := hl
  have w1 := hts (.fieldLink RX6 65 "RainVault" "isKept" "Z") (List.mem_of_getElem? (i := 1) rfl)
  have w2 := hts (.fieldLink RX6 10 "RainVault" "roof" "LRainVault$Roof;") (List.mem_of_getElem? (i := 3) rfl)
  have w3 := hts (.fieldLink RX6 16 "RainVault" "kept" "LRainVault$Roof;") (List.mem_of_getElem? (i := 4) rfl)
  have w4 := hts (.constant RX6 164 (-1000004)) (List.mem_of_getElem? (i := 2) rfl)
  unfold fX6_undo at hf
  refine lv_aload_n hx hb dX6_undo_0 rfl (lv_at hl 0 rfl) ?_
  refine va_get (D := g.1) (ci := 6) (v := .int ik) (C := RX6) (T := TX6) (N := 11) hx hb hts i_X6_undo_X6 hown hE.1 hP 0 rfl rfl 10 (by decide) w1 (fun _ h9 => h9) rfl dX6_undo_1 ?_
  refine lv_if_ne (tgt := 14) hx hb dX6_undo_4 (by decide) (fun hc => ?_) (fun hc => ?_)
  · have hf := if_f hf hc
    refine lv_aload_n hx hb dX6_undo_14 rfl (lv_at hl 0 rfl) ?_
    refine va_get (D := g.1) (ci := 6) (v := .ref u0) (C := RX6) (T := TX6) (N := 11) hx hb hts i_X6_undo_X6 hown hE.1 hP 0 rfl rfl 0 (by decide) w2 (fun _ h9 => h9) rfl dX6_undo_15 ?_
    refine lv_aload_n hx hb dX6_undo_18 rfl (lv_at hl 0 rfl) ?_
    refine va_get (D := g.1) (ci := 6) (v := .ref k0) (C := RX6) (T := TX6) (N := 11) hx hb hts i_X6_undo_X6 hown hE.1 hP 0 rfl rfl 1 (by decide) w3 (fun _ h9 => h9) rfl dX6_undo_19 ?_
    obtain ⟨R101, hg, hf⟩ := o1_s hf
    refine Ct.callV (ws' := wV g v0 u0 u1 u2 u3 k0 k1 k2 k3 h0 h1 h2 h3 s0 s1 s2 s3 c0 c1 c2 p0 r0 t0 t1 t2 t3 z0 f0 ea R101 N B S C P Q K X fd tl ik) (As := [.ref k0]) (rest := []) (st1 := []) (c_X1_become l g u0 u1 u2 u3 k0 k1 k2 k3 R N hg) (cwV 1 hts gX6_undo_X1_become rfl rfl rfl q_X1_become ⟨Nat.le_of_ble_eq_true rfl, Nat.le_of_ble_eq_true rfl⟩) ⟨hx, hb, hml, hown, hts⟩ hE hP hD hS hA [1, 2, 3, 4, 5, 6, 7, 8] rfl rfl rfl rfl 1 1 rfl rfl rfl rfl hl.1 rfl rfl (Nat.le_of_ble_eq_true rfl) dX6_undo_22 (fun H locs hP hD hS => ?_)
    refine lv_aload_n hx hb dX6_undo_25 rfl (lv_at hl 0 rfl) ?_
    refine va_get (D := g.1) (ci := 6) (v := .ref u0) (C := RX6) (T := TX6) (N := 11) hx hb hts i_X6_undo_X6 hown hE.1 hP 0 rfl rfl 0 (by decide) w2 (fun _ h9 => h9) rfl dX6_undo_26 ?_
    refine va_getN (D := g.1) (ci := 1) (v := .int R101.2.2.2.2.2.2.1) (C := RX1) (T := TX1) (N := 9) hx hb hts i_X6_undo_X1 hown hE.1 hP 1 rfl rfl 6 (by decide) (va_Nw.use rfl (hE.2.1 _ (List.mem_of_getElem? (i := 7) rfl))) (fun _ h9 => h9) rfl dX6_undo_29 ?_
    obtain ⟨rfl, rfl, rfl⟩ := some_p3 hf
    rw [hQ]; exact Ct.iret hx hb hr hlocks hAe hP hD hS dX6_undo_32
  · have hf := if_t hf hc
    refine lv_aload_n hx hb dX6_undo_7 rfl (lv_at hl 0 rfl) ?_
    refine lv_ldc hx hb hown w4 dX6_undo_8 ?_
    obtain ⟨x102, fd103, hg, hf⟩ := o2_s hf
    refine Ct.callV0 (ws' := wV g v0 u0 u1 u2 u3 k0 k1 k2 k3 h0 h1 h2 h3 s0 s1 s2 s3 c0 c1 c2 p0 r0 t0 t1 t2 t3 z0 f0 ea R N B S C P Q K X fd103 tl ik) (As := [.int (-1000004 : Int32)]) (rest := []) (st1 := [.int x102]) (c_X6_finding l g v0 u0 u1 u2 u3 k0 k1 k2 k3 h0 h1 h2 h3 s0 s1 s2 s3 c0 c1 c2 p0 r0 t0 t1 t2 t3 z0 f0 ea R N B S C P Q K X fd tl ik (-1000004 : Int32) hg) (cwV 1 hts gX6_undo_X6_finding rfl rfl rfl q_X6_finding ⟨Nat.le_of_ble_eq_true rfl, Nat.le_of_ble_eq_true rfl⟩) ⟨hx, hb, hml, hown, hts⟩ hE hP hD hS hA 6 0 rfl rfl rfl rfl hl.1 rfl rfl (Nat.le_of_ble_eq_true rfl) dX6_undo_10 (fun H locs hP hD hS => ?_)
    obtain ⟨rfl, rfl, rfl⟩ := some_p3 hf
    rw [hQ]; exact Ct.iret hx hb hr hlocks hAe hP hD hS dX6_undo_13
