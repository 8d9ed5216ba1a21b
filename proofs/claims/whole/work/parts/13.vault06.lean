def fX6_load_L33 (k103 : Nat) (X : F4) (kx : Rf → Int32 → Option (Int32 × Rf × (Nat → Int32))) : Nat → Rf → Int32 → Option (Int32 × Rf × (Nat → Int32))
  | 0, _, _ => none
  | k + 1, R, x3 => if (X k103).2.2 ≤ x3 then (kx R x3) else (o1 (fX1_hasCistern R x3) (fun x110 => if x110 = 0 then (kx R x3) else (o1 (fX6_at 40 ((X k103).1) x3) (fun x111 => o1 (fX1_mayBecome R x3 (2 : Int32) x111) (fun x112 => if x112 = 0 then (kx R x3) else (o1 (fX6_at 40 ((X k103).1) x3) (fun x113 => o1 (fX1_set R x3 (2 : Int32) x113) (fun R114 => fX6_load_L33 k103 X kx k R114 (x3 + (1 : Int32))))))))))
def fX6_load (R : Rf) (X : F4) (fd : Nat → Int32) (a1 : Int32) : Option (Int32 × Rf × (Nat → Int32)) := sh a1 (fun k103 => o1 (fX2_isMissing (X k103)) (fun x104 => if x104 = 0 then (fX6_load_L33 k103 X (fun R115 x116 => some (x116, R115, fd)) fu R (0 : Int32)) else (o2 (fX6_finding fd (-1000006 : Int32)) (fun x117 fd118 => some (x117, R, fd118))))) (o2 (fX6_finding fd (-1000001 : Int32)) (fun x101 fd102 => some (x101, R, fd102)))
theorem q_X6_load : yX6_load.cls = RX6 ∧ yX6_load.cls ≠ "java/lang/invoke/MethodHandle" ∧ yX6_load.cls ≠ "java/lang/invoke/VarHandle" ∧ (parseMethodDescriptor yX6_load.desc).map (fun d => d.parameters.length) = some 1 := by decide +kernel
theorem i_X6_load_X2 : ∀ w ∈ u_ws RX2 TX2 3, w ∈ wsX6_load := fun _ h => List.mem_cons_of_mem _ (List.mem_append_left _ (List.mem_append_left _ (List.mem_append_right _ (h))))
theorem i_X6_load_X6 : ∀ w ∈ u_ws RX6 TX6 11, w ∈ wsX6_load := fun _ h => List.mem_cons_of_mem _ (List.mem_append_left _ (List.mem_append_right _ (h)))
set_option maxHeartbeats 4000000 in
set_option maxRecDepth 100000 in
theorem c_X6_load (l : Launch) (g : gG) (v0 u0 u1 u2 u3 k0 k1 k2 k3 h0 h1 h2 h3 s0 s1 s2 s3 c0 c1 c2 p0 r0 t0 t1 t2 t3 z0 f0 : Nat) (ea : Nat → Nat) (R : Rf) (N : Rf) (B : Rf) (S : Sv) (C : Ca) (P : Nat → Int32) (Q : Tr) (K : Tk) (X : F4) (fd : Nat → Int32) (tl : Int32) (ik : Int32) (a1 : Int32) {r : Int32} {R' : Rf} {fd' : Nat → Int32} (hf : fX6_load R X fd a1 = some (r, R', fd')) : Ct l yX6_load wsX6_load (rmm 2 65) g (wV g v0 u0 u1 u2 u3 k0 k1 k2 k3 h0 h1 h2 h3 s0 s1 s2 s3 c0 c1 c2 p0 r0 t0 t1 t2 t3 z0 f0 ea R N B S C P Q K X fd tl ik) (wV g v0 u0 u1 u2 u3 k0 k1 k2 k3 h0 h1 h2 h3 s0 s1 s2 s3 c0 c1 c2 p0 r0 t0 t1 t2 t3 z0 f0 ea (R') N B S C P Q K X (fd') tl ik) [.ref v0, .int a1] (some (.int r)) := by
  refine Ct.mk (by decide) rfl (Nat.le_of_ble_eq_true rfl) ?_
  intro p e s m args below meth c A ls hx hb hr hml hts hown hlocks hA hE hP hD hS hl hAe
  obtain ⟨Qx, hQ⟩ : ∃ Qx : State → Prop, Qx = MQ below (QcG g (wV g v0 u0 u1 u2 u3 k0 k1 k2 k3 h0 h1 h2 h3 s0 s1 s2 s3 c0 c1 c2 p0 r0 t0 t1 t2 t3 z0 f0 ea R N B S C P Q K X fd tl ik) (wV g v0 u0 u1 u2 u3 k0 k1 k2 k3 h0 h1 h2 h3 s0 s1 s2 s3 c0 c1 c2 p0 r0 t0 t1 t2 t3 z0 f0 ea (R') N B S C P Q K X (fd') tl ik) (some (.int r)) s.heap.size) args s 0 0 A := ⟨_, rfl⟩
  rw [← hQ]
  have hown : s.vm.findClass RX6 = some m.cls := hown
  have hl : lv_has ls 4 [(0, .ref v0), (1, .int a1)] := hl
  have w1 := hts (.constant RX6 73 (-1000001)) (List.mem_of_getElem? (i := 1) rfl)
  have w2 := hts (.fieldLink RX6 10 "RainVault" "roof" "LRainVault$Roof;") (List.mem_of_getElem? (i := 3) rfl)
  have w3 := hts (.constant RX6 221 (-1000006)) (List.mem_of_getElem? (i := 2) rfl)
  have L33_0 : ∀ (fd : Nat → Int32) (kx : Rf → Int32 → Option (Int32 × Rf × (Nat → Int32))) (k : Nat) (R : Rf) (x3 : Int32) (H : Heap) (locs : List Loc) (ls : Array Slot), fX6_load_L33 0 X kx k R x3 = some (r, R', fd') → va_P g.1 vwK (wV g v0 u0 u1 u2 u3 k0 k1 k2 k3 h0 h1 h2 h3 s0 s1 s2 s3 c0 c1 c2 p0 r0 t0 t1 t2 t3 z0 f0 ea R N B S C P Q K X fd tl ik) H → va_D A (wV g v0 u0 u1 u2 u3 k0 k1 k2 k3 h0 h1 h2 h3 s0 s1 s2 s3 c0 c1 c2 p0 r0 t0 t1 t2 t3 z0 f0 ea R N B S C P Q K X fd tl ik) → va_S A s.heap H locs → lv_has ls 4 [(0, .ref v0), (2, .ref (ea 0)), (3, .int x3)] → (∀ (R : Rf) (x3 : Int32) (H : Heap) (locs : List Loc) (ls : Array Slot), kx R x3 = some (r, R', fd') → va_P g.1 vwK (wV g v0 u0 u1 u2 u3 k0 k1 k2 k3 h0 h1 h2 h3 s0 s1 s2 s3 c0 c1 c2 p0 r0 t0 t1 t2 t3 z0 f0 ea R N B S C P Q K X fd tl ik) H → va_D A (wV g v0 u0 u1 u2 u3 k0 k1 k2 k3 h0 h1 h2 h3 s0 s1 s2 s3 c0 c1 c2 p0 r0 t0 t1 t2 t3 z0 f0 ea R N B S C P Q K X fd tl ik) → va_S A s.heap H locs → lv_has ls 4 [(3, .int x3)] → W p l e (rmm 2 65) s m args below meth c H locs 0 0 Qx (F0 m 95 ls [])) → W p l e (rmm 2 65) s m args below meth c H locs 0 0 Qx (F0 m 33 ls []) := by
    intro fd kx k
    induction k with
    | zero => intro R x3 H locs ls hf; exact nomatch (show (none : Option (Int32 × Rf × (Nat → Int32))) = some _ from hf)
    | succ k ih =>
      intro R x3 H locs ls hf hP hD hS hl hk
      rw [fX6_load_L33] at hf
      refine lv_iload_n hx hb dX6_load_33 rfl (lv_at hl 2 rfl) ?_
      refine lv_aload_n hx hb dX6_load_34 rfl (lv_at hl 1 rfl) ?_
      refine va_getN (D := g.1) (ci := 2) (v := .int ((X 0).2.2)) (C := RX2) (T := TX2) (N := 3) hx hb hts i_X6_load_X2 hown hE.1 hP 27 rfl rfl 2 (by decide) (va_Nw.use rfl (hE.2.1 _ (List.mem_of_getElem? (i := 20) rfl))) (fun _ h9 => h9) rfl dX6_load_35 ?_
      refine lv_icmp_ge (tgt := 95) hx hb dX6_load_38 (by decide) (fun hc => ?_) (fun hc => ?_)
      · have hf := if_t hf hc
        exact hk _ _ _ _ _  hf hP hD hS (lv_sub hl [2] rfl)
      · have hf := if_f hf hc
        refine lv_aload_n hx hb dX6_load_41 rfl (lv_at hl 0 rfl) ?_
        refine va_get (D := g.1) (ci := 6) (v := .ref u0) (C := RX6) (T := TX6) (N := 11) hx hb hts i_X6_load_X6 hown hE.1 hP 0 rfl rfl 0 (by decide) w2 (fun _ h9 => h9) rfl dX6_load_42 ?_
        refine lv_iload_n hx hb dX6_load_45 rfl (lv_at hl 2 rfl) ?_
        obtain ⟨x110, hg, hf⟩ := o1_s hf
        refine Ct.callV (ws' := wV g v0 u0 u1 u2 u3 k0 k1 k2 k3 h0 h1 h2 h3 s0 s1 s2 s3 c0 c1 c2 p0 r0 t0 t1 t2 t3 z0 f0 ea R N B S C P Q K X fd tl ik) (As := [.int x3]) (rest := []) (st1 := [.int x110]) (c_X1_hasCistern l g u0 u1 u2 u3 R x3 hg) (cwV 1 hts gX6_load_X1_hasCistern rfl rfl rfl q_X1_hasCistern ⟨Nat.le_of_ble_eq_true rfl, Nat.le_of_ble_eq_true rfl⟩) ⟨hx, hb, hml, hown, hts⟩ hE hP hD hS hA [1, 2, 3, 4] rfl rfl rfl rfl 1 1 rfl rfl rfl rfl hl.1 rfl rfl (Nat.le_of_ble_eq_true rfl) dX6_load_46 (fun H locs hP hD hS => ?_)
        refine lv_if_eq (tgt := 95) hx hb dX6_load_49 (by decide) (fun hc => ?_) (fun hc => ?_)
        · have hf := if_t hf hc
          exact hk _ _ _ _ _  hf hP hD hS (lv_sub hl [2] rfl)
        · have hf := if_f hf hc
          refine lv_aload_n hx hb dX6_load_52 rfl (lv_at hl 0 rfl) ?_
          refine va_get (D := g.1) (ci := 6) (v := .ref u0) (C := RX6) (T := TX6) (N := 11) hx hb hts i_X6_load_X6 hown hE.1 hP 0 rfl rfl 0 (by decide) w2 (fun _ h9 => h9) rfl dX6_load_53 ?_
          refine lv_iload_n hx hb dX6_load_56 rfl (lv_at hl 2 rfl) ?_
          refine lv_iconst (v := (2 : Int32)) hx hb dX6_load_57 (by decide) ?_
          refine lv_aload_n hx hb dX6_load_58 rfl (lv_at hl 1 rfl) ?_
          refine va_getN (D := g.1) (ci := 2) (v := .ref (ea 4)) (C := RX2) (T := TX2) (N := 3) hx hb hts i_X6_load_X2 hown hE.1 hP 27 rfl rfl 0 (by decide) (va_Nw.use rfl (hE.2.1 _ (List.mem_of_getElem? (i := 18) rfl))) (fun _ h9 => h9) rfl dX6_load_59 ?_
          refine lv_iload_n hx hb dX6_load_62 rfl (lv_at hl 2 rfl) ?_
          obtain ⟨x111, hg, hf⟩ := o1_s hf
          refine Ct.callS (ws' := wV g v0 u0 u1 u2 u3 k0 k1 k2 k3 h0 h1 h2 h3 s0 s1 s2 s3 c0 c1 c2 p0 r0 t0 t1 t2 t3 z0 f0 ea R N B S C P Q K X fd tl ik) (As := [.ref (ea 4), .int x3]) (rest := [.int (2 : Int32), .int x3, .ref u0]) (st1 := [.int x111, .int (2 : Int32), .int x3, .ref u0]) (c_X6_at l g (ea 4) 40 ((X 0).1) x3 hg) (va_cwS 2 hts gX6_load_X6_at rfl rfl rfl q_X6_at.2 ⟨Nat.le_of_ble_eq_true rfl, Nat.le_of_ble_eq_true rfl⟩) ⟨hx, hb, hml, hown, hts⟩ hE hP hD hS hA [28] rfl rfl rfl rfl rfl hl.1 rfl rfl (Nat.le_of_ble_eq_true rfl) dX6_load_63 (fun H locs hP hD hS => ?_)
          obtain ⟨x112, hg, hf⟩ := o1_s hf
          refine Ct.callV (ws' := wV g v0 u0 u1 u2 u3 k0 k1 k2 k3 h0 h1 h2 h3 s0 s1 s2 s3 c0 c1 c2 p0 r0 t0 t1 t2 t3 z0 f0 ea R N B S C P Q K X fd tl ik) (As := [.int x3, .int (2 : Int32), .int x111]) (rest := []) (st1 := [.int x112]) (c_X1_mayBecome l g u0 u1 u2 u3 R x3 (2 : Int32) x111 hg) (cwV 3 hts gX6_load_X1_mayBecome rfl rfl rfl q_X1_mayBecome ⟨Nat.le_of_ble_eq_true rfl, Nat.le_of_ble_eq_true rfl⟩) ⟨hx, hb, hml, hown, hts⟩ hE hP hD hS hA [1, 2, 3, 4] rfl rfl rfl rfl 1 1 rfl rfl rfl rfl hl.1 rfl rfl (Nat.le_of_ble_eq_true rfl) dX6_load_66 (fun H locs hP hD hS => ?_)
          refine lv_if_eq (tgt := 95) hx hb dX6_load_69 (by decide) (fun hc => ?_) (fun hc => ?_)
          · have hf := if_t hf hc
            exact hk _ _ _ _ _  hf hP hD hS (lv_sub hl [2] rfl)
          · have hf := if_f hf hc
            refine lv_aload_n hx hb dX6_load_72 rfl (lv_at hl 0 rfl) ?_
            refine va_get (D := g.1) (ci := 6) (v := .ref u0) (C := RX6) (T := TX6) (N := 11) hx hb hts i_X6_load_X6 hown hE.1 hP 0 rfl rfl 0 (by decide) w2 (fun _ h9 => h9) rfl dX6_load_73 ?_
            refine lv_iload_n hx hb dX6_load_76 rfl (lv_at hl 2 rfl) ?_
            refine lv_iconst (v := (2 : Int32)) hx hb dX6_load_77 (by decide) ?_
            refine lv_aload_n hx hb dX6_load_78 rfl (lv_at hl 1 rfl) ?_
            refine va_getN (D := g.1) (ci := 2) (v := .ref (ea 4)) (C := RX2) (T := TX2) (N := 3) hx hb hts i_X6_load_X2 hown hE.1 hP 27 rfl rfl 0 (by decide) (va_Nw.use rfl (hE.2.1 _ (List.mem_of_getElem? (i := 18) rfl))) (fun _ h9 => h9) rfl dX6_load_79 ?_
            refine lv_iload_n hx hb dX6_load_82 rfl (lv_at hl 2 rfl) ?_
            obtain ⟨x113, hg, hf⟩ := o1_s hf
            refine Ct.callS (ws' := wV g v0 u0 u1 u2 u3 k0 k1 k2 k3 h0 h1 h2 h3 s0 s1 s2 s3 c0 c1 c2 p0 r0 t0 t1 t2 t3 z0 f0 ea R N B S C P Q K X fd tl ik) (As := [.ref (ea 4), .int x3]) (rest := [.int (2 : Int32), .int x3, .ref u0]) (st1 := [.int x113, .int (2 : Int32), .int x3, .ref u0]) (c_X6_at l g (ea 4) 40 ((X 0).1) x3 hg) (va_cwS 2 hts gX6_load_X6_at rfl rfl rfl q_X6_at.2 ⟨Nat.le_of_ble_eq_true rfl, Nat.le_of_ble_eq_true rfl⟩) ⟨hx, hb, hml, hown, hts⟩ hE hP hD hS hA [28] rfl rfl rfl rfl rfl hl.1 rfl rfl (Nat.le_of_ble_eq_true rfl) dX6_load_83 (fun H locs hP hD hS => ?_)
            obtain ⟨R114, hg, hf⟩ := o1_s hf
            refine Ct.callV (ws' := wV g v0 u0 u1 u2 u3 k0 k1 k2 k3 h0 h1 h2 h3 s0 s1 s2 s3 c0 c1 c2 p0 r0 t0 t1 t2 t3 z0 f0 ea R114 N B S C P Q K X fd tl ik) (As := [.int x3, .int (2 : Int32), .int x113]) (rest := []) (st1 := []) (c_X1_set l g u0 u1 u2 u3 R x3 (2 : Int32) x113 hg) (cwV 3 hts gX6_load_X1_set rfl rfl rfl q_X1_set ⟨Nat.le_of_ble_eq_true rfl, Nat.le_of_ble_eq_true rfl⟩) ⟨hx, hb, hml, hown, hts⟩ hE hP hD hS hA [1, 2, 3, 4] rfl rfl rfl rfl 1 1 rfl rfl rfl rfl hl.1 rfl rfl (Nat.le_of_ble_eq_true rfl) dX6_load_86 (fun H locs hP hD hS => ?_)
            refine lv_iinc (v := (x3 + (1 : Int32))) (lv' := [(3, .int (x3 + (1 : Int32))), (0, .ref v0), (2, .ref (ea 0))]) hx hb dX6_load_89 hl (k := 2) rfl rfl (by decide) rfl (fun ls hl => ?_)
            refine lv_goto (tgt := 33) hx hb dX6_load_92 (by decide) ?_
            exact ih _ _ _ _ _  hf hP hD hS (lv_sub hl [1, 2, 0] rfl) hk
  have L33_1 : ∀ (fd : Nat → Int32) (kx : Rf → Int32 → Option (Int32 × Rf × (Nat → Int32))) (k : Nat) (R : Rf) (x3 : Int32) (H : Heap) (locs : List Loc) (ls : Array Slot), fX6_load_L33 1 X kx k R x3 = some (r, R', fd') → va_P g.1 vwK (wV g v0 u0 u1 u2 u3 k0 k1 k2 k3 h0 h1 h2 h3 s0 s1 s2 s3 c0 c1 c2 p0 r0 t0 t1 t2 t3 z0 f0 ea R N B S C P Q K X fd tl ik) H → va_D A (wV g v0 u0 u1 u2 u3 k0 k1 k2 k3 h0 h1 h2 h3 s0 s1 s2 s3 c0 c1 c2 p0 r0 t0 t1 t2 t3 z0 f0 ea R N B S C P Q K X fd tl ik) → va_S A s.heap H locs → lv_has ls 4 [(0, .ref v0), (2, .ref (ea 1)), (3, .int x3)] → (∀ (R : Rf) (x3 : Int32) (H : Heap) (locs : List Loc) (ls : Array Slot), kx R x3 = some (r, R', fd') → va_P g.1 vwK (wV g v0 u0 u1 u2 u3 k0 k1 k2 k3 h0 h1 h2 h3 s0 s1 s2 s3 c0 c1 c2 p0 r0 t0 t1 t2 t3 z0 f0 ea R N B S C P Q K X fd tl ik) H → va_D A (wV g v0 u0 u1 u2 u3 k0 k1 k2 k3 h0 h1 h2 h3 s0 s1 s2 s3 c0 c1 c2 p0 r0 t0 t1 t2 t3 z0 f0 ea R N B S C P Q K X fd tl ik) → va_S A s.heap H locs → lv_has ls 4 [(3, .int x3)] → W p l e (rmm 2 65) s m args below meth c H locs 0 0 Qx (F0 m 95 ls [])) → W p l e (rmm 2 65) s m args below meth c H locs 0 0 Qx (F0 m 33 ls []) := by
    intro fd kx k
    induction k with
    | zero => intro R x3 H locs ls hf; exact nomatch (show (none : Option (Int32 × Rf × (Nat → Int32))) = some _ from hf)
    | succ k ih =>
      intro R x3 H locs ls hf hP hD hS hl hk
      rw [fX6_load_L33] at hf
      refine lv_iload_n hx hb dX6_load_33 rfl (lv_at hl 2 rfl) ?_
      refine lv_aload_n hx hb dX6_load_34 rfl (lv_at hl 1 rfl) ?_
      refine va_getN (D := g.1) (ci := 2) (v := .int ((X 1).2.2)) (C := RX2) (T := TX2) (N := 3) hx hb hts i_X6_load_X2 hown hE.1 hP 29 rfl rfl 2 (by decide) (va_Nw.use rfl (hE.2.1 _ (List.mem_of_getElem? (i := 20) rfl))) (fun _ h9 => h9) rfl dX6_load_35 ?_
      refine lv_icmp_ge (tgt := 95) hx hb dX6_load_38 (by decide) (fun hc => ?_) (fun hc => ?_)
      · have hf := if_t hf hc
        exact hk _ _ _ _ _  hf hP hD hS (lv_sub hl [2] rfl)
      · have hf := if_f hf hc
        refine lv_aload_n hx hb dX6_load_41 rfl (lv_at hl 0 rfl) ?_
        refine va_get (D := g.1) (ci := 6) (v := .ref u0) (C := RX6) (T := TX6) (N := 11) hx hb hts i_X6_load_X6 hown hE.1 hP 0 rfl rfl 0 (by decide) w2 (fun _ h9 => h9) rfl dX6_load_42 ?_
        refine lv_iload_n hx hb dX6_load_45 rfl (lv_at hl 2 rfl) ?_
        obtain ⟨x110, hg, hf⟩ := o1_s hf
        refine Ct.callV (ws' := wV g v0 u0 u1 u2 u3 k0 k1 k2 k3 h0 h1 h2 h3 s0 s1 s2 s3 c0 c1 c2 p0 r0 t0 t1 t2 t3 z0 f0 ea R N B S C P Q K X fd tl ik) (As := [.int x3]) (rest := []) (st1 := [.int x110]) (c_X1_hasCistern l g u0 u1 u2 u3 R x3 hg) (cwV 1 hts gX6_load_X1_hasCistern rfl rfl rfl q_X1_hasCistern ⟨Nat.le_of_ble_eq_true rfl, Nat.le_of_ble_eq_true rfl⟩) ⟨hx, hb, hml, hown, hts⟩ hE hP hD hS hA [1, 2, 3, 4] rfl rfl rfl rfl 1 1 rfl rfl rfl rfl hl.1 rfl rfl (Nat.le_of_ble_eq_true rfl) dX6_load_46 (fun H locs hP hD hS => ?_)
        refine lv_if_eq (tgt := 95) hx hb dX6_load_49 (by decide) (fun hc => ?_) (fun hc => ?_)
        · have hf := if_t hf hc
          exact hk _ _ _ _ _  hf hP hD hS (lv_sub hl [2] rfl)
        · have hf := if_f hf hc
          refine lv_aload_n hx hb dX6_load_52 rfl (lv_at hl 0 rfl) ?_
          refine va_get (D := g.1) (ci := 6) (v := .ref u0) (C := RX6) (T := TX6) (N := 11) hx hb hts i_X6_load_X6 hown hE.1 hP 0 rfl rfl 0 (by decide) w2 (fun _ h9 => h9) rfl dX6_load_53 ?_
          refine lv_iload_n hx hb dX6_load_56 rfl (lv_at hl 2 rfl) ?_
          refine lv_iconst (v := (2 : Int32)) hx hb dX6_load_57 (by decide) ?_
          refine lv_aload_n hx hb dX6_load_58 rfl (lv_at hl 1 rfl) ?_
          refine va_getN (D := g.1) (ci := 2) (v := .ref (ea 5)) (C := RX2) (T := TX2) (N := 3) hx hb hts i_X6_load_X2 hown hE.1 hP 29 rfl rfl 0 (by decide) (va_Nw.use rfl (hE.2.1 _ (List.mem_of_getElem? (i := 18) rfl))) (fun _ h9 => h9) rfl dX6_load_59 ?_
          refine lv_iload_n hx hb dX6_load_62 rfl (lv_at hl 2 rfl) ?_
          obtain ⟨x111, hg, hf⟩ := o1_s hf
          refine Ct.callS (ws' := wV g v0 u0 u1 u2 u3 k0 k1 k2 k3 h0 h1 h2 h3 s0 s1 s2 s3 c0 c1 c2 p0 r0 t0 t1 t2 t3 z0 f0 ea R N B S C P Q K X fd tl ik) (As := [.ref (ea 5), .int x3]) (rest := [.int (2 : Int32), .int x3, .ref u0]) (st1 := [.int x111, .int (2 : Int32), .int x3, .ref u0]) (c_X6_at l g (ea 5) 40 ((X 1).1) x3 hg) (va_cwS 2 hts gX6_load_X6_at rfl rfl rfl q_X6_at.2 ⟨Nat.le_of_ble_eq_true rfl, Nat.le_of_ble_eq_true rfl⟩) ⟨hx, hb, hml, hown, hts⟩ hE hP hD hS hA [30] rfl rfl rfl rfl rfl hl.1 rfl rfl (Nat.le_of_ble_eq_true rfl) dX6_load_63 (fun H locs hP hD hS => ?_)
          obtain ⟨x112, hg, hf⟩ := o1_s hf
          refine Ct.callV (ws' := wV g v0 u0 u1 u2 u3 k0 k1 k2 k3 h0 h1 h2 h3 s0 s1 s2 s3 c0 c1 c2 p0 r0 t0 t1 t2 t3 z0 f0 ea R N B S C P Q K X fd tl ik) (As := [.int x3, .int (2 : Int32), .int x111]) (rest := []) (st1 := [.int x112]) (c_X1_mayBecome l g u0 u1 u2 u3 R x3 (2 : Int32) x111 hg) (cwV 3 hts gX6_load_X1_mayBecome rfl rfl rfl q_X1_mayBecome ⟨Nat.le_of_ble_eq_true rfl, Nat.le_of_ble_eq_true rfl⟩) ⟨hx, hb, hml, hown, hts⟩ hE hP hD hS hA [1, 2, 3, 4] rfl rfl rfl rfl 1 1 rfl rfl rfl rfl hl.1 rfl rfl (Nat.le_of_ble_eq_true rfl) dX6_load_66 (fun H locs hP hD hS => ?_)
          refine lv_if_eq (tgt := 95) hx hb dX6_load_69 (by decide) (fun hc => ?_) (fun hc => ?_)
          · have hf := if_t hf hc
            exact hk _ _ _ _ _  hf hP hD hS (lv_sub hl [2] rfl)
          · have hf := if_f hf hc
            refine lv_aload_n hx hb dX6_load_72 rfl (lv_at hl 0 rfl) ?_
            refine va_get (D := g.1) (ci := 6) (v := .ref u0) (C := RX6) (T := TX6) (N := 11) hx hb hts i_X6_load_X6 hown hE.1 hP 0 rfl rfl 0 (by decide) w2 (fun _ h9 => h9) rfl dX6_load_73 ?_
            refine lv_iload_n hx hb dX6_load_76 rfl (lv_at hl 2 rfl) ?_
            refine lv_iconst (v := (2 : Int32)) hx hb dX6_load_77 (by decide) ?_
            refine lv_aload_n hx hb dX6_load_78 rfl (lv_at hl 1 rfl) ?_
            refine va_getN (D := g.1) (ci := 2) (v := .ref (ea 5)) (C := RX2) (T := TX2) (N := 3) hx hb hts i_X6_load_X2 hown hE.1 hP 29 rfl rfl 0 (by decide) (va_Nw.use rfl (hE.2.1 _ (List.mem_of_getElem? (i := 18) rfl))) (fun _ h9 => h9) rfl dX6_load_79 ?_
            refine lv_iload_n hx hb dX6_load_82 rfl (lv_at hl 2 rfl) ?_
            obtain ⟨x113, hg, hf⟩ := o1_s hf
            refine Ct.callS (ws' := wV g v0 u0 u1 u2 u3 k0 k1 k2 k3 h0 h1 h2 h3 s0 s1 s2 s3 c0 c1 c2 p0 r0 t0 t1 t2 t3 z0 f0 ea R N B S C P Q K X fd tl ik) (As := [.ref (ea 5), .int x3]) (rest := [.int (2 : Int32), .int x3, .ref u0]) (st1 := [.int x113, .int (2 : Int32), .int x3, .ref u0]) (c_X6_at l g (ea 5) 40 ((X 1).1) x3 hg) (va_cwS 2 hts gX6_load_X6_at rfl rfl rfl q_X6_at.2 ⟨Nat.le_of_ble_eq_true rfl, Nat.le_of_ble_eq_true rfl⟩) ⟨hx, hb, hml, hown, hts⟩ hE hP hD hS hA [30] rfl rfl rfl rfl rfl hl.1 rfl rfl (Nat.le_of_ble_eq_true rfl) dX6_load_83 (fun H locs hP hD hS => ?_)
            obtain ⟨R114, hg, hf⟩ := o1_s hf
            refine Ct.callV (ws' := wV g v0 u0 u1 u2 u3 k0 k1 k2 k3 h0 h1 h2 h3 s0 s1 s2 s3 c0 c1 c2 p0 r0 t0 t1 t2 t3 z0 f0 ea R114 N B S C P Q K X fd tl ik) (As := [.int x3, .int (2 : Int32), .int x113]) (rest := []) (st1 := []) (c_X1_set l g u0 u1 u2 u3 R x3 (2 : Int32) x113 hg) (cwV 3 hts gX6_load_X1_set rfl rfl rfl q_X1_set ⟨Nat.le_of_ble_eq_true rfl, Nat.le_of_ble_eq_true rfl⟩) ⟨hx, hb, hml, hown, hts⟩ hE hP hD hS hA [1, 2, 3, 4] rfl rfl rfl rfl 1 1 rfl rfl rfl rfl hl.1 rfl rfl (Nat.le_of_ble_eq_true rfl) dX6_load_86 (fun H locs hP hD hS => ?_)
            refine lv_iinc (v := (x3 + (1 : Int32))) (lv' := [(3, .int (x3 + (1 : Int32))), (0, .ref v0), (2, .ref (ea 1))]) hx hb dX6_load_89 hl (k := 2) rfl rfl (by decide) rfl (fun ls hl => ?_)
            refine lv_goto (tgt := 33) hx hb dX6_load_92 (by decide) ?_
            exact ih _ _ _ _ _  hf hP hD hS (lv_sub hl [1, 2, 0] rfl) hk
  have L33_2 : ∀ (fd : Nat → Int32) (kx : Rf → Int32 → Option (Int32 × Rf × (Nat → Int32))) (k : Nat) (R : Rf) (x3 : Int32) (H : Heap) (locs : List Loc) (ls : Array Slot), fX6_load_L33 2 X kx k R x3 = some (r, R', fd') → va_P g.1 vwK (wV g v0 u0 u1 u2 u3 k0 k1 k2 k3 h0 h1 h2 h3 s0 s1 s2 s3 c0 c1 c2 p0 r0 t0 t1 t2 t3 z0 f0 ea R N B S C P Q K X fd tl ik) H → va_D A (wV g v0 u0 u1 u2 u3 k0 k1 k2 k3 h0 h1 h2 h3 s0 s1 s2 s3 c0 c1 c2 p0 r0 t0 t1 t2 t3 z0 f0 ea R N B S C P Q K X fd tl ik) → va_S A s.heap H locs → lv_has ls 4 [(0, .ref v0), (2, .ref (ea 2)), (3, .int x3)] → (∀ (R : Rf) (x3 : Int32) (H : Heap) (locs : List Loc) (ls : Array Slot), kx R x3 = some (r, R', fd') → va_P g.1 vwK (wV g v0 u0 u1 u2 u3 k0 k1 k2 k3 h0 h1 h2 h3 s0 s1 s2 s3 c0 c1 c2 p0 r0 t0 t1 t2 t3 z0 f0 ea R N B S C P Q K X fd tl ik) H → va_D A (wV g v0 u0 u1 u2 u3 k0 k1 k2 k3 h0 h1 h2 h3 s0 s1 s2 s3 c0 c1 c2 p0 r0 t0 t1 t2 t3 z0 f0 ea R N B S C P Q K X fd tl ik) → va_S A s.heap H locs → lv_has ls 4 [(3, .int x3)] → W p l e (rmm 2 65) s m args below meth c H locs 0 0 Qx (F0 m 95 ls [])) → W p l e (rmm 2 65) s m args below meth c H locs 0 0 Qx (F0 m 33 ls []) := by
    intro fd kx k
    induction k with
    | zero => intro R x3 H locs ls hf; exact nomatch (show (none : Option (Int32 × Rf × (Nat → Int32))) = some _ from hf)
    | succ k ih =>
      intro R x3 H locs ls hf hP hD hS hl hk
      rw [fX6_load_L33] at hf
      refine lv_iload_n hx hb dX6_load_33 rfl (lv_at hl 2 rfl) ?_
      refine lv_aload_n hx hb dX6_load_34 rfl (lv_at hl 1 rfl) ?_
      refine va_getN (D := g.1) (ci := 2) (v := .int ((X 2).2.2)) (C := RX2) (T := TX2) (N := 3) hx hb hts i_X6_load_X2 hown hE.1 hP 31 rfl rfl 2 (by decide) (va_Nw.use rfl (hE.2.1 _ (List.mem_of_getElem? (i := 20) rfl))) (fun _ h9 => h9) rfl dX6_load_35 ?_
      refine lv_icmp_ge (tgt := 95) hx hb dX6_load_38 (by decide) (fun hc => ?_) (fun hc => ?_)
      · have hf := if_t hf hc
        exact hk _ _ _ _ _  hf hP hD hS (lv_sub hl [2] rfl)
      · have hf := if_f hf hc
        refine lv_aload_n hx hb dX6_load_41 rfl (lv_at hl 0 rfl) ?_
        refine va_get (D := g.1) (ci := 6) (v := .ref u0) (C := RX6) (T := TX6) (N := 11) hx hb hts i_X6_load_X6 hown hE.1 hP 0 rfl rfl 0 (by decide) w2 (fun _ h9 => h9) rfl dX6_load_42 ?_
        refine lv_iload_n hx hb dX6_load_45 rfl (lv_at hl 2 rfl) ?_
        obtain ⟨x110, hg, hf⟩ := o1_s hf
        refine Ct.callV (ws' := wV g v0 u0 u1 u2 u3 k0 k1 k2 k3 h0 h1 h2 h3 s0 s1 s2 s3 c0 c1 c2 p0 r0 t0 t1 t2 t3 z0 f0 ea R N B S C P Q K X fd tl ik) (As := [.int x3]) (rest := []) (st1 := [.int x110]) (c_X1_hasCistern l g u0 u1 u2 u3 R x3 hg) (cwV 1 hts gX6_load_X1_hasCistern rfl rfl rfl q_X1_hasCistern ⟨Nat.le_of_ble_eq_true rfl, Nat.le_of_ble_eq_true rfl⟩) ⟨hx, hb, hml, hown, hts⟩ hE hP hD hS hA [1, 2, 3, 4] rfl rfl rfl rfl 1 1 rfl rfl rfl rfl hl.1 rfl rfl (Nat.le_of_ble_eq_true rfl) dX6_load_46 (fun H locs hP hD hS => ?_)
        refine lv_if_eq (tgt := 95) hx hb dX6_load_49 (by decide) (fun hc => ?_) (fun hc => ?_)
        · have hf := if_t hf hc
          exact hk _ _ _ _ _  hf hP hD hS (lv_sub hl [2] rfl)
        · have hf := if_f hf hc
          refine lv_aload_n hx hb dX6_load_52 rfl (lv_at hl 0 rfl) ?_
          refine va_get (D := g.1) (ci := 6) (v := .ref u0) (C := RX6) (T := TX6) (N := 11) hx hb hts i_X6_load_X6 hown hE.1 hP 0 rfl rfl 0 (by decide) w2 (fun _ h9 => h9) rfl dX6_load_53 ?_
          refine lv_iload_n hx hb dX6_load_56 rfl (lv_at hl 2 rfl) ?_
          refine lv_iconst (v := (2 : Int32)) hx hb dX6_load_57 (by decide) ?_
          refine lv_aload_n hx hb dX6_load_58 rfl (lv_at hl 1 rfl) ?_
          refine va_getN (D := g.1) (ci := 2) (v := .ref (ea 6)) (C := RX2) (T := TX2) (N := 3) hx hb hts i_X6_load_X2 hown hE.1 hP 31 rfl rfl 0 (by decide) (va_Nw.use rfl (hE.2.1 _ (List.mem_of_getElem? (i := 18) rfl))) (fun _ h9 => h9) rfl dX6_load_59 ?_
          refine lv_iload_n hx hb dX6_load_62 rfl (lv_at hl 2 rfl) ?_
          obtain ⟨x111, hg, hf⟩ := o1_s hf
          refine Ct.callS (ws' := wV g v0 u0 u1 u2 u3 k0 k1 k2 k3 h0 h1 h2 h3 s0 s1 s2 s3 c0 c1 c2 p0 r0 t0 t1 t2 t3 z0 f0 ea R N B S C P Q K X fd tl ik) (As := [.ref (ea 6), .int x3]) (rest := [.int (2 : Int32), .int x3, .ref u0]) (st1 := [.int x111, .int (2 : Int32), .int x3, .ref u0]) (c_X6_at l g (ea 6) 40 ((X 2).1) x3 hg) (va_cwS 2 hts gX6_load_X6_at rfl rfl rfl q_X6_at.2 ⟨Nat.le_of_ble_eq_true rfl, Nat.le_of_ble_eq_true rfl⟩) ⟨hx, hb, hml, hown, hts⟩ hE hP hD hS hA [32] rfl rfl rfl rfl rfl hl.1 rfl rfl (Nat.le_of_ble_eq_true rfl) dX6_load_63 (fun H locs hP hD hS => ?_)
          obtain ⟨x112, hg, hf⟩ := o1_s hf
          refine Ct.callV (ws' := wV g v0 u0 u1 u2 u3 k0 k1 k2 k3 h0 h1 h2 h3 s0 s1 s2 s3 c0 c1 c2 p0 r0 t0 t1 t2 t3 z0 f0 ea R N B S C P Q K X fd tl ik) (As := [.int x3, .int (2 : Int32), .int x111]) (rest := []) (st1 := [.int x112]) (c_X1_mayBecome l g u0 u1 u2 u3 R x3 (2 : Int32) x111 hg) (cwV 3 hts gX6_load_X1_mayBecome rfl rfl rfl q_X1_mayBecome ⟨Nat.le_of_ble_eq_true rfl, Nat.le_of_ble_eq_true rfl⟩) ⟨hx, hb, hml, hown, hts⟩ hE hP hD hS hA [1, 2, 3, 4] rfl rfl rfl rfl 1 1 rfl rfl rfl rfl hl.1 rfl rfl (Nat.le_of_ble_eq_true rfl) dX6_load_66 (fun H locs hP hD hS => ?_)
          refine lv_if_eq (tgt := 95) hx hb dX6_load_69 (by decide) (fun hc => ?_) (fun hc => ?_)
          · have hf := if_t hf hc
            exact hk _ _ _ _ _  hf hP hD hS (lv_sub hl [2] rfl)
          · have hf := if_f hf hc
            refine lv_aload_n hx hb dX6_load_72 rfl (lv_at hl 0 rfl) ?_
            refine va_get (D := g.1) (ci := 6) (v := .ref u0) (C := RX6) (T := TX6) (N := 11) hx hb hts i_X6_load_X6 hown hE.1 hP 0 rfl rfl 0 (by decide) w2 (fun _ h9 => h9) rfl dX6_load_73 ?_
            refine lv_iload_n hx hb dX6_load_76 rfl (lv_at hl 2 rfl) ?_
            refine lv_iconst (v := (2 : Int32)) hx hb dX6_load_77 (by decide) ?_
            refine lv_aload_n hx hb dX6_load_78 rfl (lv_at hl 1 rfl) ?_
            refine va_getN (D := g.1) (ci := 2) (v := .ref (ea 6)) (C := RX2) (T := TX2) (N := 3) hx hb hts i_X6_load_X2 hown hE.1 hP 31 rfl rfl 0 (by decide) (va_Nw.use rfl (hE.2.1 _ (List.mem_of_getElem? (i := 18) rfl))) (fun _ h9 => h9) rfl dX6_load_79 ?_
            refine lv_iload_n hx hb dX6_load_82 rfl (lv_at hl 2 rfl) ?_
            obtain ⟨x113, hg, hf⟩ := o1_s hf
            refine Ct.callS (ws' := wV g v0 u0 u1 u2 u3 k0 k1 k2 k3 h0 h1 h2 h3 s0 s1 s2 s3 c0 c1 c2 p0 r0 t0 t1 t2 t3 z0 f0 ea R N B S C P Q K X fd tl ik) (As := [.ref (ea 6), .int x3]) (rest := [.int (2 : Int32), .int x3, .ref u0]) (st1 := [.int x113, .int (2 : Int32), .int x3, .ref u0]) (c_X6_at l g (ea 6) 40 ((X 2).1) x3 hg) (va_cwS 2 hts gX6_load_X6_at rfl rfl rfl q_X6_at.2 ⟨Nat.le_of_ble_eq_true rfl, Nat.le_of_ble_eq_true rfl⟩) ⟨hx, hb, hml, hown, hts⟩ hE hP hD hS hA [32] rfl rfl rfl rfl rfl hl.1 rfl rfl (Nat.le_of_ble_eq_true rfl) dX6_load_83 (fun H locs hP hD hS => ?_)
            obtain ⟨R114, hg, hf⟩ := o1_s hf
            refine Ct.callV (ws' := wV g v0 u0 u1 u2 u3 k0 k1 k2 k3 h0 h1 h2 h3 s0 s1 s2 s3 c0 c1 c2 p0 r0 t0 t1 t2 t3 z0 f0 ea R114 N B S C P Q K X fd tl ik) (As := [.int x3, .int (2 : Int32), .int x113]) (rest := []) (st1 := []) (c_X1_set l g u0 u1 u2 u3 R x3 (2 : Int32) x113 hg) (cwV 3 hts gX6_load_X1_set rfl rfl rfl q_X1_set ⟨Nat.le_of_ble_eq_true rfl, Nat.le_of_ble_eq_true rfl⟩) ⟨hx, hb, hml, hown, hts⟩ hE hP hD hS hA [1, 2, 3, 4] rfl rfl rfl rfl 1 1 rfl rfl rfl rfl hl.1 rfl rfl (Nat.le_of_ble_eq_true rfl) dX6_load_86 (fun H locs hP hD hS => ?_)
            refine lv_iinc (v := (x3 + (1 : Int32))) (lv' := [(3, .int (x3 + (1 : Int32))), (0, .ref v0), (2, .ref (ea 2))]) hx hb dX6_load_89 hl (k := 2) rfl rfl (by decide) rfl (fun ls hl => ?_)
            refine lv_goto (tgt := 33) hx hb dX6_load_92 (by decide) ?_
            exact ih _ _ _ _ _  hf hP hD hS (lv_sub hl [1, 2, 0] rfl) hk
  have L33_3 : ∀ (fd : Nat → Int32) (kx : Rf → Int32 → Option (Int32 × Rf × (Nat → Int32))) (k : Nat) (R : Rf) (x3 : Int32) (H : Heap) (locs : List Loc) (ls : Array Slot), fX6_load_L33 3 X kx k R x3 = some (r, R', fd') → va_P g.1 vwK (wV g v0 u0 u1 u2 u3 k0 k1 k2 k3 h0 h1 h2 h3 s0 s1 s2 s3 c0 c1 c2 p0 r0 t0 t1 t2 t3 z0 f0 ea R N B S C P Q K X fd tl ik) H → va_D A (wV g v0 u0 u1 u2 u3 k0 k1 k2 k3 h0 h1 h2 h3 s0 s1 s2 s3 c0 c1 c2 p0 r0 t0 t1 t2 t3 z0 f0 ea R N B S C P Q K X fd tl ik) → va_S A s.heap H locs → lv_has ls 4 [(0, .ref v0), (2, .ref (ea 3)), (3, .int x3)] → (∀ (R : Rf) (x3 : Int32) (H : Heap) (locs : List Loc) (ls : Array Slot), kx R x3 = some (r, R', fd') → va_P g.1 vwK (wV g v0 u0 u1 u2 u3 k0 k1 k2 k3 h0 h1 h2 h3 s0 s1 s2 s3 c0 c1 c2 p0 r0 t0 t1 t2 t3 z0 f0 ea R N B S C P Q K X fd tl ik) H → va_D A (wV g v0 u0 u1 u2 u3 k0 k1 k2 k3 h0 h1 h2 h3 s0 s1 s2 s3 c0 c1 c2 p0 r0 t0 t1 t2 t3 z0 f0 ea R N B S C P Q K X fd tl ik) → va_S A s.heap H locs → lv_has ls 4 [(3, .int x3)] → W p l e (rmm 2 65) s m args below meth c H locs 0 0 Qx (F0 m 95 ls [])) → W p l e (rmm 2 65) s m args below meth c H locs 0 0 Qx (F0 m 33 ls []) := by
    intro fd kx k
    induction k with
    | zero => intro R x3 H locs ls hf; exact nomatch (show (none : Option (Int32 × Rf × (Nat → Int32))) = some _ from hf)
    | succ k ih =>
      intro R x3 H locs ls hf hP hD hS hl hk
      rw [fX6_load_L33] at hf
      refine lv_iload_n hx hb dX6_load_33 rfl (lv_at hl 2 rfl) ?_
      refine lv_aload_n hx hb dX6_load_34 rfl (lv_at hl 1 rfl) ?_
      refine va_getN (D := g.1) (ci := 2) (v := .int ((X 3).2.2)) (C := RX2) (T := TX2) (N := 3) hx hb hts i_X6_load_X2 hown hE.1 hP 33 rfl rfl 2 (by decide) (va_Nw.use rfl (hE.2.1 _ (List.mem_of_getElem? (i := 20) rfl))) (fun _ h9 => h9) rfl dX6_load_35 ?_
      refine lv_icmp_ge (tgt := 95) hx hb dX6_load_38 (by decide) (fun hc => ?_) (fun hc => ?_)
      · have hf := if_t hf hc
        exact hk _ _ _ _ _  hf hP hD hS (lv_sub hl [2] rfl)
      · have hf := if_f hf hc
        refine lv_aload_n hx hb dX6_load_41 rfl (lv_at hl 0 rfl) ?_
        refine va_get (D := g.1) (ci := 6) (v := .ref u0) (C := RX6) (T := TX6) (N := 11) hx hb hts i_X6_load_X6 hown hE.1 hP 0 rfl rfl 0 (by decide) w2 (fun _ h9 => h9) rfl dX6_load_42 ?_
        refine lv_iload_n hx hb dX6_load_45 rfl (lv_at hl 2 rfl) ?_
        obtain ⟨x110, hg, hf⟩ := o1_s hf
        refine Ct.callV (ws' := wV g v0 u0 u1 u2 u3 k0 k1 k2 k3 h0 h1 h2 h3 s0 s1 s2 s3 c0 c1 c2 p0 r0 t0 t1 t2 t3 z0 f0 ea R N B S C P Q K X fd tl ik) (As := [.int x3]) (rest := []) (st1 := [.int x110]) (c_X1_hasCistern l g u0 u1 u2 u3 R x3 hg) (cwV 1 hts gX6_load_X1_hasCistern rfl rfl rfl q_X1_hasCistern ⟨Nat.le_of_ble_eq_true rfl, Nat.le_of_ble_eq_true rfl⟩) ⟨hx, hb, hml, hown, hts⟩ hE hP hD hS hA [1, 2, 3, 4] rfl rfl rfl rfl 1 1 rfl rfl rfl rfl hl.1 rfl rfl (Nat.le_of_ble_eq_true rfl) dX6_load_46 (fun H locs hP hD hS => ?_)
        refine lv_if_eq (tgt := 95) hx hb dX6_load_49 (by decide) (fun hc => ?_) (fun hc => ?_)
        · have hf := if_t hf hc
          exact hk _ _ _ _ _  hf hP hD hS (lv_sub hl [2] rfl)
        · have hf := if_f hf hc
          refine lv_aload_n hx hb dX6_load_52 rfl (lv_at hl 0 rfl) ?_
          refine va_get (D := g.1) (ci := 6) (v := .ref u0) (C := RX6) (T := TX6) (N := 11) hx hb hts i_X6_load_X6 hown hE.1 hP 0 rfl rfl 0 (by decide) w2 (fun _ h9 => h9) rfl dX6_load_53 ?_
          refine lv_iload_n hx hb dX6_load_56 rfl (lv_at hl 2 rfl) ?_
          refine lv_iconst (v := (2 : Int32)) hx hb dX6_load_57 (by decide) ?_
          refine lv_aload_n hx hb dX6_load_58 rfl (lv_at hl 1 rfl) ?_
          refine va_getN (D := g.1) (ci := 2) (v := .ref (ea 7)) (C := RX2) (T := TX2) (N := 3) hx hb hts i_X6_load_X2 hown hE.1 hP 33 rfl rfl 0 (by decide) (va_Nw.use rfl (hE.2.1 _ (List.mem_of_getElem? (i := 18) rfl))) (fun _ h9 => h9) rfl dX6_load_59 ?_
          refine lv_iload_n hx hb dX6_load_62 rfl (lv_at hl 2 rfl) ?_
          obtain ⟨x111, hg, hf⟩ := o1_s hf
          refine Ct.callS (ws' := wV g v0 u0 u1 u2 u3 k0 k1 k2 k3 h0 h1 h2 h3 s0 s1 s2 s3 c0 c1 c2 p0 r0 t0 t1 t2 t3 z0 f0 ea R N B S C P Q K X fd tl ik) (As := [.ref (ea 7), .int x3]) (rest := [.int (2 : Int32), .int x3, .ref u0]) (st1 := [.int x111, .int (2 : Int32), .int x3, .ref u0]) (c_X6_at l g (ea 7) 40 ((X 3).1) x3 hg) (va_cwS 2 hts gX6_load_X6_at rfl rfl rfl q_X6_at.2 ⟨Nat.le_of_ble_eq_true rfl, Nat.le_of_ble_eq_true rfl⟩) ⟨hx, hb, hml, hown, hts⟩ hE hP hD hS hA [34] rfl rfl rfl rfl rfl hl.1 rfl rfl (Nat.le_of_ble_eq_true rfl) dX6_load_63 (fun H locs hP hD hS => ?_)
          obtain ⟨x112, hg, hf⟩ := o1_s hf
          refine Ct.callV (ws' := wV g v0 u0 u1 u2 u3 k0 k1 k2 k3 h0 h1 h2 h3 s0 s1 s2 s3 c0 c1 c2 p0 r0 t0 t1 t2 t3 z0 f0 ea R N B S C P Q K X fd tl ik) (As := [.int x3, .int (2 : Int32), .int x111]) (rest := []) (st1 := [.int x112]) (c_X1_mayBecome l g u0 u1 u2 u3 R x3 (2 : Int32) x111 hg) (cwV 3 hts gX6_load_X1_mayBecome rfl rfl rfl q_X1_mayBecome ⟨Nat.le_of_ble_eq_true rfl, Nat.le_of_ble_eq_true rfl⟩) ⟨hx, hb, hml, hown, hts⟩ hE hP hD hS hA [1, 2, 3, 4] rfl rfl rfl rfl 1 1 rfl rfl rfl rfl hl.1 rfl rfl (Nat.le_of_ble_eq_true rfl) dX6_load_66 (fun H locs hP hD hS => ?_)
          refine lv_if_eq (tgt := 95) hx hb dX6_load_69 (by decide) (fun hc => ?_) (fun hc => ?_)
          · have hf := if_t hf hc
            exact hk _ _ _ _ _  hf hP hD hS (lv_sub hl [2] rfl)
          · have hf := if_f hf hc
            refine lv_aload_n hx hb dX6_load_72 rfl (lv_at hl 0 rfl) ?_
            refine va_get (D := g.1) (ci := 6) (v := .ref u0) (C := RX6) (T := TX6) (N := 11) hx hb hts i_X6_load_X6 hown hE.1 hP 0 rfl rfl 0 (by decide) w2 (fun _ h9 => h9) rfl dX6_load_73 ?_
            refine lv_iload_n hx hb dX6_load_76 rfl (lv_at hl 2 rfl) ?_
            refine lv_iconst (v := (2 : Int32)) hx hb dX6_load_77 (by decide) ?_
            refine lv_aload_n hx hb dX6_load_78 rfl (lv_at hl 1 rfl) ?_
            refine va_getN (D := g.1) (ci := 2) (v := .ref (ea 7)) (C := RX2) (T := TX2) (N := 3) hx hb hts i_X6_load_X2 hown hE.1 hP 33 rfl rfl 0 (by decide) (va_Nw.use rfl (hE.2.1 _ (List.mem_of_getElem? (i := 18) rfl))) (fun _ h9 => h9) rfl dX6_load_79 ?_
            refine lv_iload_n hx hb dX6_load_82 rfl (lv_at hl 2 rfl) ?_
            obtain ⟨x113, hg, hf⟩ := o1_s hf
            refine Ct.callS (ws' := wV g v0 u0 u1 u2 u3 k0 k1 k2 k3 h0 h1 h2 h3 s0 s1 s2 s3 c0 c1 c2 p0 r0 t0 t1 t2 t3 z0 f0 ea R N B S C P Q K X fd tl ik) (As := [.ref (ea 7), .int x3]) (rest := [.int (2 : Int32), .int x3, .ref u0]) (st1 := [.int x113, .int (2 : Int32), .int x3, .ref u0]) (c_X6_at l g (ea 7) 40 ((X 3).1) x3 hg) (va_cwS 2 hts gX6_load_X6_at rfl rfl rfl q_X6_at.2 ⟨Nat.le_of_ble_eq_true rfl, Nat.le_of_ble_eq_true rfl⟩) ⟨hx, hb, hml, hown, hts⟩ hE hP hD hS hA [34] rfl rfl rfl rfl rfl hl.1 rfl rfl (Nat.le_of_ble_eq_true rfl) dX6_load_83 (fun H locs hP hD hS => ?_)
            obtain ⟨R114, hg, hf⟩ := o1_s hf
            refine Ct.callV (ws' := wV g v0 u0 u1 u2 u3 k0 k1 k2 k3 h0 h1 h2 h3 s0 s1 s2 s3 c0 c1 c2 p0 r0 t0 t1 t2 t3 z0 f0 ea R114 N B S C P Q K X fd tl ik) (As := [.int x3, .int (2 : Int32), .int x113]) (rest := []) (st1 := []) (c_X1_set l g u0 u1 u2 u3 R x3 (2 : Int32) x113 hg) (cwV 3 hts gX6_load_X1_set rfl rfl rfl q_X1_set ⟨Nat.le_of_ble_eq_true rfl, Nat.le_of_ble_eq_true rfl⟩) ⟨hx, hb, hml, hown, hts⟩ hE hP hD hS hA [1, 2, 3, 4] rfl rfl rfl rfl 1 1 rfl rfl rfl rfl hl.1 rfl rfl (Nat.le_of_ble_eq_true rfl) dX6_load_86 (fun H locs hP hD hS => ?_)
            refine lv_iinc (v := (x3 + (1 : Int32))) (lv' := [(3, .int (x3 + (1 : Int32))), (0, .ref v0), (2, .ref (ea 3))]) hx hb dX6_load_89 hl (k := 2) rfl rfl (by decide) rfl (fun ls hl => ?_)
            refine lv_goto (tgt := 33) hx hb dX6_load_92 (by decide) ?_
            exact ih _ _ _ _ _  hf hP hD hS (lv_sub hl [1, 2, 0] rfl) hk
  unfold fX6_load at hf
  refine lv_aload_n hx hb dX6_load_0 rfl (lv_at hl 0 rfl) ?_
  refine lv_iload_n hx hb dX6_load_1 rfl (lv_at hl 1 rfl) ?_
  rcases sh_s hf with ⟨hs, hf⟩ | ⟨hs, hf⟩ | ⟨hs, hf⟩ | ⟨hs, hf⟩ | ⟨hs, hf⟩
  · refine Ct.callV0 (ws' := wV g v0 u0 u1 u2 u3 k0 k1 k2 k3 h0 h1 h2 h3 s0 s1 s2 s3 c0 c1 c2 p0 r0 t0 t1 t2 t3 z0 f0 ea R N B S C P Q K X fd tl ik) (As := [.int a1]) (rest := []) (st1 := [.null]) (c_X6_sheetAt_null l g v0 u0 u1 u2 u3 k0 k1 k2 k3 h0 h1 h2 h3 s0 s1 s2 s3 c0 c1 c2 p0 r0 t0 t1 t2 t3 z0 f0 ea R N B S C P Q K X fd tl ik a1 hs) (cwV 1 hts gX6_load_X6_sheetAt rfl rfl rfl q_X6_sheetAt ⟨Nat.le_of_ble_eq_true rfl, Nat.le_of_ble_eq_true rfl⟩) ⟨hx, hb, hml, hown, hts⟩ hE hP hD hS hA 6 0 rfl rfl rfl rfl hl.1 rfl rfl (Nat.le_of_ble_eq_true rfl) dX6_load_2 (fun H locs hP hD hS => ?_)
    refine lv_astore_nN (lv' := [(2, .null), (0, .ref v0), (1, .int a1)]) hx hb dX6_load_5 rfl hl (by decide) rfl (fun ls hl => ?_)
    refine lv_aload_nN hx hb dX6_load_6 rfl (lv_at hl 0 rfl) ?_
    refine lv_ifnonnullN hx hb dX6_load_7 ?_
    refine lv_aload_n hx hb dX6_load_10 rfl (lv_at hl 1 rfl) ?_
    refine lv_ldc hx hb hown w1 dX6_load_11 ?_
    obtain ⟨x101, fd102, hg, hf⟩ := o2_s hf
    refine Ct.callV0 (ws' := wV g v0 u0 u1 u2 u3 k0 k1 k2 k3 h0 h1 h2 h3 s0 s1 s2 s3 c0 c1 c2 p0 r0 t0 t1 t2 t3 z0 f0 ea R N B S C P Q K X fd102 tl ik) (As := [.int (-1000001 : Int32)]) (rest := []) (st1 := [.int x101]) (c_X6_finding l g v0 u0 u1 u2 u3 k0 k1 k2 k3 h0 h1 h2 h3 s0 s1 s2 s3 c0 c1 c2 p0 r0 t0 t1 t2 t3 z0 f0 ea R N B S C P Q K X fd tl ik (-1000001 : Int32) hg) (cwV 1 hts gX6_load_X6_finding rfl rfl rfl q_X6_finding ⟨Nat.le_of_ble_eq_true rfl, Nat.le_of_ble_eq_true rfl⟩) ⟨hx, hb, hml, hown, hts⟩ hE hP hD hS hA 6 0 rfl rfl rfl rfl hl.1 rfl rfl (Nat.le_of_ble_eq_true rfl) dX6_load_13 (fun H locs hP hD hS => ?_)
    obtain ⟨rfl, rfl, rfl⟩ := some_p3 hf
    rw [hQ]; exact Ct.iret hx hb hr hlocks hAe hP hD hS dX6_load_16
  · refine Ct.callV0 (ws' := wV g v0 u0 u1 u2 u3 k0 k1 k2 k3 h0 h1 h2 h3 s0 s1 s2 s3 c0 c1 c2 p0 r0 t0 t1 t2 t3 z0 f0 ea R N B S C P Q K X fd tl ik) (As := [.int a1]) (rest := []) (st1 := [.ref (ea 0)]) (c_X6_sheetAt l g v0 u0 u1 u2 u3 k0 k1 k2 k3 h0 h1 h2 h3 s0 s1 s2 s3 c0 c1 c2 p0 r0 t0 t1 t2 t3 z0 f0 ea R N B S C P Q K X fd tl ik 0 (by decide) a1 hs) (cwV 1 hts gX6_load_X6_sheetAt rfl rfl rfl q_X6_sheetAt ⟨Nat.le_of_ble_eq_true rfl, Nat.le_of_ble_eq_true rfl⟩) ⟨hx, hb, hml, hown, hts⟩ hE hP hD hS hA 6 0 rfl rfl rfl rfl hl.1 rfl rfl (Nat.le_of_ble_eq_true rfl) dX6_load_2 (fun H locs hP hD hS => ?_)
    refine lv_astore_n (lv' := [(2, .ref (ea 0)), (0, .ref v0), (1, .int a1)]) hx hb dX6_load_5 rfl hl (by decide) rfl (fun ls hl => ?_)
    refine lv_aload_n hx hb dX6_load_6 rfl (lv_at hl 0 rfl) ?_
    refine lv_ifnonnull (tgt := 17) hx hb dX6_load_7 (by decide) ?_
    refine lv_aload_n hx hb dX6_load_17 rfl (lv_at hl 0 rfl) ?_
    obtain ⟨x104, hg, hf⟩ := o1_s hf
    refine Ct.callV (ws' := wV g v0 u0 u1 u2 u3 k0 k1 k2 k3 h0 h1 h2 h3 s0 s1 s2 s3 c0 c1 c2 p0 r0 t0 t1 t2 t3 z0 f0 ea R N B S C P Q K X fd tl ik) (As := []) (rest := []) (st1 := [.int x104]) (c_X2_isMissing l g (ea 0) (ea 4) (X 0) hg) (cwV 0 hts gX6_load_X2_isMissing rfl rfl rfl q_X2_isMissing ⟨Nat.le_of_ble_eq_true rfl, Nat.le_of_ble_eq_true rfl⟩) ⟨hx, hb, hml, hown, hts⟩ hE hP hD hS hA [27, 28] rfl rfl rfl rfl 2 27 rfl rfl rfl rfl hl.1 rfl rfl (Nat.le_of_ble_eq_true rfl) dX6_load_18 (fun H locs hP hD hS => ?_)
    refine lv_if_eq (tgt := 31) hx hb dX6_load_21 (by decide) (fun hc => ?_) (fun hc => ?_)
    · have hf := if_t hf hc
      refine lv_iconst (v := (0 : Int32)) hx hb dX6_load_31 (by decide) ?_
      refine lv_istore_n (lv' := [(3, .int (0 : Int32)), (2, .ref (ea 0)), (0, .ref v0), (1, .int a1)]) hx hb dX6_load_32 rfl hl (by decide) rfl (fun ls hl => ?_)
      refine L33_0 _ _ _ _ _ _ _ _  hf hP hD hS (lv_sub hl [2, 1, 0] rfl) (fun R115 x116 H locs ls hf hP hD hS hl => ?_)
      refine lv_iload_n hx hb dX6_load_95 rfl (lv_at hl 0 rfl) ?_
      obtain ⟨rfl, rfl, rfl⟩ := some_p3 hf
      rw [hQ]; exact Ct.iret hx hb hr hlocks hAe hP hD hS dX6_load_96
    · have hf := if_f hf hc
      refine lv_aload_n hx hb dX6_load_24 rfl (lv_at hl 1 rfl) ?_
      refine lv_ldc hx hb hown w3 dX6_load_25 ?_
      obtain ⟨x117, fd118, hg, hf⟩ := o2_s hf
      refine Ct.callV0 (ws' := wV g v0 u0 u1 u2 u3 k0 k1 k2 k3 h0 h1 h2 h3 s0 s1 s2 s3 c0 c1 c2 p0 r0 t0 t1 t2 t3 z0 f0 ea R N B S C P Q K X fd118 tl ik) (As := [.int (-1000006 : Int32)]) (rest := []) (st1 := [.int x117]) (c_X6_finding l g v0 u0 u1 u2 u3 k0 k1 k2 k3 h0 h1 h2 h3 s0 s1 s2 s3 c0 c1 c2 p0 r0 t0 t1 t2 t3 z0 f0 ea R N B S C P Q K X fd tl ik (-1000006 : Int32) hg) (cwV 1 hts gX6_load_X6_finding rfl rfl rfl q_X6_finding ⟨Nat.le_of_ble_eq_true rfl, Nat.le_of_ble_eq_true rfl⟩) ⟨hx, hb, hml, hown, hts⟩ hE hP hD hS hA 6 0 rfl rfl rfl rfl hl.1 rfl rfl (Nat.le_of_ble_eq_true rfl) dX6_load_27 (fun H locs hP hD hS => ?_)
      obtain ⟨rfl, rfl, rfl⟩ := some_p3 hf
      rw [hQ]; exact Ct.iret hx hb hr hlocks hAe hP hD hS dX6_load_30
  · refine Ct.callV0 (ws' := wV g v0 u0 u1 u2 u3 k0 k1 k2 k3 h0 h1 h2 h3 s0 s1 s2 s3 c0 c1 c2 p0 r0 t0 t1 t2 t3 z0 f0 ea R N B S C P Q K X fd tl ik) (As := [.int a1]) (rest := []) (st1 := [.ref (ea 1)]) (c_X6_sheetAt l g v0 u0 u1 u2 u3 k0 k1 k2 k3 h0 h1 h2 h3 s0 s1 s2 s3 c0 c1 c2 p0 r0 t0 t1 t2 t3 z0 f0 ea R N B S C P Q K X fd tl ik 1 (by decide) a1 hs) (cwV 1 hts gX6_load_X6_sheetAt rfl rfl rfl q_X6_sheetAt ⟨Nat.le_of_ble_eq_true rfl, Nat.le_of_ble_eq_true rfl⟩) ⟨hx, hb, hml, hown, hts⟩ hE hP hD hS hA 6 0 rfl rfl rfl rfl hl.1 rfl rfl (Nat.le_of_ble_eq_true rfl) dX6_load_2 (fun H locs hP hD hS => ?_)
    refine lv_astore_n (lv' := [(2, .ref (ea 1)), (0, .ref v0), (1, .int a1)]) hx hb dX6_load_5 rfl hl (by decide) rfl (fun ls hl => ?_)
    refine lv_aload_n hx hb dX6_load_6 rfl (lv_at hl 0 rfl) ?_
    refine lv_ifnonnull (tgt := 17) hx hb dX6_load_7 (by decide) ?_
    refine lv_aload_n hx hb dX6_load_17 rfl (lv_at hl 0 rfl) ?_
    obtain ⟨x104, hg, hf⟩ := o1_s hf
    refine Ct.callV (ws' := wV g v0 u0 u1 u2 u3 k0 k1 k2 k3 h0 h1 h2 h3 s0 s1 s2 s3 c0 c1 c2 p0 r0 t0 t1 t2 t3 z0 f0 ea R N B S C P Q K X fd tl ik) (As := []) (rest := []) (st1 := [.int x104]) (c_X2_isMissing l g (ea 1) (ea 5) (X 1) hg) (cwV 0 hts gX6_load_X2_isMissing rfl rfl rfl q_X2_isMissing ⟨Nat.le_of_ble_eq_true rfl, Nat.le_of_ble_eq_true rfl⟩) ⟨hx, hb, hml, hown, hts⟩ hE hP hD hS hA [29, 30] rfl rfl rfl rfl 2 29 rfl rfl rfl rfl hl.1 rfl rfl (Nat.le_of_ble_eq_true rfl) dX6_load_18 (fun H locs hP hD hS => ?_)
    refine lv_if_eq (tgt := 31) hx hb dX6_load_21 (by decide) (fun hc => ?_) (fun hc => ?_)
    · have hf := if_t hf hc
      refine lv_iconst (v := (0 : Int32)) hx hb dX6_load_31 (by decide) ?_
      refine lv_istore_n (lv' := [(3, .int (0 : Int32)), (2, .ref (ea 1)), (0, .ref v0), (1, .int a1)]) hx hb dX6_load_32 rfl hl (by decide) rfl (fun ls hl => ?_)
      refine L33_1 _ _ _ _ _ _ _ _  hf hP hD hS (lv_sub hl [2, 1, 0] rfl) (fun R115 x116 H locs ls hf hP hD hS hl => ?_)
      refine lv_iload_n hx hb dX6_load_95 rfl (lv_at hl 0 rfl) ?_
      obtain ⟨rfl, rfl, rfl⟩ := some_p3 hf
      rw [hQ]; exact Ct.iret hx hb hr hlocks hAe hP hD hS dX6_load_96
    · have hf := if_f hf hc
      refine lv_aload_n hx hb dX6_load_24 rfl (lv_at hl 1 rfl) ?_
      refine lv_ldc hx hb hown w3 dX6_load_25 ?_
      obtain ⟨x117, fd118, hg, hf⟩ := o2_s hf
      refine Ct.callV0 (ws' := wV g v0 u0 u1 u2 u3 k0 k1 k2 k3 h0 h1 h2 h3 s0 s1 s2 s3 c0 c1 c2 p0 r0 t0 t1 t2 t3 z0 f0 ea R N B S C P Q K X fd118 tl ik) (As := [.int (-1000006 : Int32)]) (rest := []) (st1 := [.int x117]) (c_X6_finding l g v0 u0 u1 u2 u3 k0 k1 k2 k3 h0 h1 h2 h3 s0 s1 s2 s3 c0 c1 c2 p0 r0 t0 t1 t2 t3 z0 f0 ea R N B S C P Q K X fd tl ik (-1000006 : Int32) hg) (cwV 1 hts gX6_load_X6_finding rfl rfl rfl q_X6_finding ⟨Nat.le_of_ble_eq_true rfl, Nat.le_of_ble_eq_true rfl⟩) ⟨hx, hb, hml, hown, hts⟩ hE hP hD hS hA 6 0 rfl rfl rfl rfl hl.1 rfl rfl (Nat.le_of_ble_eq_true rfl) dX6_load_27 (fun H locs hP hD hS => ?_)
      obtain ⟨rfl, rfl, rfl⟩ := some_p3 hf
      rw [hQ]; exact Ct.iret hx hb hr hlocks hAe hP hD hS dX6_load_30
  · refine Ct.callV0 (ws' := wV g v0 u0 u1 u2 u3 k0 k1 k2 k3 h0 h1 h2 h3 s0 s1 s2 s3 c0 c1 c2 p0 r0 t0 t1 t2 t3 z0 f0 ea R N B S C P Q K X fd tl ik) (As := [.int a1]) (rest := []) (st1 := [.ref (ea 2)]) (c_X6_sheetAt l g v0 u0 u1 u2 u3 k0 k1 k2 k3 h0 h1 h2 h3 s0 s1 s2 s3 c0 c1 c2 p0 r0 t0 t1 t2 t3 z0 f0 ea R N B S C P Q K X fd tl ik 2 (by decide) a1 hs) (cwV 1 hts gX6_load_X6_sheetAt rfl rfl rfl q_X6_sheetAt ⟨Nat.le_of_ble_eq_true rfl, Nat.le_of_ble_eq_true rfl⟩) ⟨hx, hb, hml, hown, hts⟩ hE hP hD hS hA 6 0 rfl rfl rfl rfl hl.1 rfl rfl (Nat.le_of_ble_eq_true rfl) dX6_load_2 (fun H locs hP hD hS => ?_)
    refine lv_astore_n (lv' := [(2, .ref (ea 2)), (0, .ref v0), (1, .int a1)]) hx hb dX6_load_5 rfl hl (by decide) rfl (fun ls hl => ?_)
    refine lv_aload_n hx hb dX6_load_6 rfl (lv_at hl 0 rfl) ?_
    refine lv_ifnonnull (tgt := 17) hx hb dX6_load_7 (by decide) ?_
    refine lv_aload_n hx hb dX6_load_17 rfl (lv_at hl 0 rfl) ?_
    obtain ⟨x104, hg, hf⟩ := o1_s hf
    refine Ct.callV (ws' := wV g v0 u0 u1 u2 u3 k0 k1 k2 k3 h0 h1 h2 h3 s0 s1 s2 s3 c0 c1 c2 p0 r0 t0 t1 t2 t3 z0 f0 ea R N B S C P Q K X fd tl ik) (As := []) (rest := []) (st1 := [.int x104]) (c_X2_isMissing l g (ea 2) (ea 6) (X 2) hg) (cwV 0 hts gX6_load_X2_isMissing rfl rfl rfl q_X2_isMissing ⟨Nat.le_of_ble_eq_true rfl, Nat.le_of_ble_eq_true rfl⟩) ⟨hx, hb, hml, hown, hts⟩ hE hP hD hS hA [31, 32] rfl rfl rfl rfl 2 31 rfl rfl rfl rfl hl.1 rfl rfl (Nat.le_of_ble_eq_true rfl) dX6_load_18 (fun H locs hP hD hS => ?_)
    refine lv_if_eq (tgt := 31) hx hb dX6_load_21 (by decide) (fun hc => ?_) (fun hc => ?_)
    · have hf := if_t hf hc
      refine lv_iconst (v := (0 : Int32)) hx hb dX6_load_31 (by decide) ?_
      refine lv_istore_n (lv' := [(3, .int (0 : Int32)), (2, .ref (ea 2)), (0, .ref v0), (1, .int a1)]) hx hb dX6_load_32 rfl hl (by decide) rfl (fun ls hl => ?_)
      refine L33_2 _ _ _ _ _ _ _ _  hf hP hD hS (lv_sub hl [2, 1, 0] rfl) (fun R115 x116 H locs ls hf hP hD hS hl => ?_)
      refine lv_iload_n hx hb dX6_load_95 rfl (lv_at hl 0 rfl) ?_
      obtain ⟨rfl, rfl, rfl⟩ := some_p3 hf
      rw [hQ]; exact Ct.iret hx hb hr hlocks hAe hP hD hS dX6_load_96
    · have hf := if_f hf hc
      refine lv_aload_n hx hb dX6_load_24 rfl (lv_at hl 1 rfl) ?_
      refine lv_ldc hx hb hown w3 dX6_load_25 ?_
      obtain ⟨x117, fd118, hg, hf⟩ := o2_s hf
      refine Ct.callV0 (ws' := wV g v0 u0 u1 u2 u3 k0 k1 k2 k3 h0 h1 h2 h3 s0 s1 s2 s3 c0 c1 c2 p0 r0 t0 t1 t2 t3 z0 f0 ea R N B S C P Q K X fd118 tl ik) (As := [.int (-1000006 : Int32)]) (rest := []) (st1 := [.int x117]) (c_X6_finding l g v0 u0 u1 u2 u3 k0 k1 k2 k3 h0 h1 h2 h3 s0 s1 s2 s3 c0 c1 c2 p0 r0 t0 t1 t2 t3 z0 f0 ea R N B S C P Q K X fd tl ik (-1000006 : Int32) hg) (cwV 1 hts gX6_load_X6_finding rfl rfl rfl q_X6_finding ⟨Nat.le_of_ble_eq_true rfl, Nat.le_of_ble_eq_true rfl⟩) ⟨hx, hb, hml, hown, hts⟩ hE hP hD hS hA 6 0 rfl rfl rfl rfl hl.1 rfl rfl (Nat.le_of_ble_eq_true rfl) dX6_load_27 (fun H locs hP hD hS => ?_)
      obtain ⟨rfl, rfl, rfl⟩ := some_p3 hf
      rw [hQ]; exact Ct.iret hx hb hr hlocks hAe hP hD hS dX6_load_30
  · refine Ct.callV0 (ws' := wV g v0 u0 u1 u2 u3 k0 k1 k2 k3 h0 h1 h2 h3 s0 s1 s2 s3 c0 c1 c2 p0 r0 t0 t1 t2 t3 z0 f0 ea R N B S C P Q K X fd tl ik) (As := [.int a1]) (rest := []) (st1 := [.ref (ea 3)]) (c_X6_sheetAt l g v0 u0 u1 u2 u3 k0 k1 k2 k3 h0 h1 h2 h3 s0 s1 s2 s3 c0 c1 c2 p0 r0 t0 t1 t2 t3 z0 f0 ea R N B S C P Q K X fd tl ik 3 (by decide) a1 hs) (cwV 1 hts gX6_load_X6_sheetAt rfl rfl rfl q_X6_sheetAt ⟨Nat.le_of_ble_eq_true rfl, Nat.le_of_ble_eq_true rfl⟩) ⟨hx, hb, hml, hown, hts⟩ hE hP hD hS hA 6 0 rfl rfl rfl rfl hl.1 rfl rfl (Nat.le_of_ble_eq_true rfl) dX6_load_2 (fun H locs hP hD hS => ?_)
    refine lv_astore_n (lv' := [(2, .ref (ea 3)), (0, .ref v0), (1, .int a1)]) hx hb dX6_load_5 rfl hl (by decide) rfl (fun ls hl => ?_)
    refine lv_aload_n hx hb dX6_load_6 rfl (lv_at hl 0 rfl) ?_
    refine lv_ifnonnull (tgt := 17) hx hb dX6_load_7 (by decide) ?_
    refine lv_aload_n hx hb dX6_load_17 rfl (lv_at hl 0 rfl) ?_
    obtain ⟨x104, hg, hf⟩ := o1_s hf
    refine Ct.callV (ws' := wV g v0 u0 u1 u2 u3 k0 k1 k2 k3 h0 h1 h2 h3 s0 s1 s2 s3 c0 c1 c2 p0 r0 t0 t1 t2 t3 z0 f0 ea R N B S C P Q K X fd tl ik) (As := []) (rest := []) (st1 := [.int x104]) (c_X2_isMissing l g (ea 3) (ea 7) (X 3) hg) (cwV 0 hts gX6_load_X2_isMissing rfl rfl rfl q_X2_isMissing ⟨Nat.le_of_ble_eq_true rfl, Nat.le_of_ble_eq_true rfl⟩) ⟨hx, hb, hml, hown, hts⟩ hE hP hD hS hA [33, 34] rfl rfl rfl rfl 2 33 rfl rfl rfl rfl hl.1 rfl rfl (Nat.le_of_ble_eq_true rfl) dX6_load_18 (fun H locs hP hD hS => ?_)
    refine lv_if_eq (tgt := 31) hx hb dX6_load_21 (by decide) (fun hc => ?_) (fun hc => ?_)
    · have hf := if_t hf hc
      refine lv_iconst (v := (0 : Int32)) hx hb dX6_load_31 (by decide) ?_
      refine lv_istore_n (lv' := [(3, .int (0 : Int32)), (2, .ref (ea 3)), (0, .ref v0), (1, .int a1)]) hx hb dX6_load_32 rfl hl (by decide) rfl (fun ls hl => ?_)
      refine L33_3 _ _ _ _ _ _ _ _  hf hP hD hS (lv_sub hl [2, 1, 0] rfl) (fun R115 x116 H locs ls hf hP hD hS hl => ?_)
      refine lv_iload_n hx hb dX6_load_95 rfl (lv_at hl 0 rfl) ?_
      obtain ⟨rfl, rfl, rfl⟩ := some_p3 hf
      rw [hQ]; exact Ct.iret hx hb hr hlocks hAe hP hD hS dX6_load_96
    · have hf := if_f hf hc
      refine lv_aload_n hx hb dX6_load_24 rfl (lv_at hl 1 rfl) ?_
      refine lv_ldc hx hb hown w3 dX6_load_25 ?_
      obtain ⟨x117, fd118, hg, hf⟩ := o2_s hf
      refine Ct.callV0 (ws' := wV g v0 u0 u1 u2 u3 k0 k1 k2 k3 h0 h1 h2 h3 s0 s1 s2 s3 c0 c1 c2 p0 r0 t0 t1 t2 t3 z0 f0 ea R N B S C P Q K X fd118 tl ik) (As := [.int (-1000006 : Int32)]) (rest := []) (st1 := [.int x117]) (c_X6_finding l g v0 u0 u1 u2 u3 k0 k1 k2 k3 h0 h1 h2 h3 s0 s1 s2 s3 c0 c1 c2 p0 r0 t0 t1 t2 t3 z0 f0 ea R N B S C P Q K X fd tl ik (-1000006 : Int32) hg) (cwV 1 hts gX6_load_X6_finding rfl rfl rfl q_X6_finding ⟨Nat.le_of_ble_eq_true rfl, Nat.le_of_ble_eq_true rfl⟩) ⟨hx, hb, hml, hown, hts⟩ hE hP hD hS hA 6 0 rfl rfl rfl rfl hl.1 rfl rfl (Nat.le_of_ble_eq_true rfl) dX6_load_27 (fun H locs hP hD hS => ?_)
      obtain ⟨rfl, rfl, rfl⟩ := some_p3 hf
      rw [hQ]; exact Ct.iret hx hb hr hlocks hAe hP hD hS dX6_load_30
def fX6_rust_L77 (k103 : Nat) (X : F4) (x5 : Int32) (kx : Rf → Sv → Int32 → Option (Int32 × Rf × Sv × (Nat → Int32))) : Nat → Rf → Sv → Int32 → Int32 → Option (Int32 × Rf × Sv × (Nat → Int32))
  | 0, _, _, _, _ => none
  | k + 1, B, S, x6, x7 => if x5 ≤ x7 then (kx B S x6) else (o2 (fX3_passRain S B x7) (fun S112 R113 => o1 (fX6_hasLevelsOf R113 (X k103)) (fun x114 => if x114 = 0 then (fX6_rust_L77 k103 X x5 kx k R113 S112 x6 (x7 + (1 : Int32))) else (fX6_rust_L77 k103 X x5 kx k R113 S112 (x6 + (1 : Int32)) (x7 + (1 : Int32))))))
def fX6_rust (R : Rf) (B : Rf) (S : Sv) (X : F4) (fd : Nat → Int32) (a1 : Int32) (a2 : Int32) : Option (Int32 × Rf × Sv × (Nat → Int32)) := sh a1 (fun k103 => o1 (fX2_isMissing (X k103)) (fun x104 => if x104 = 0 then (o1 (fX6_faultOfRains R a2) (fun x105 => if x105 = 0 then (o2 (fX3_begin S B R a2) (fun S106 R107 => o1 (fX3_howMany S106) (fun x108 => fX6_rust_L77 k103 X x108 (fun B115 S116 x117 => some (x117, B115, S116, fd)) fu R107 S106 (0 : Int32) (0 : Int32)))) else (o2 (fX6_finding fd x105) (fun x118 fd119 => some (x118, B, S, fd119))))) else (o2 (fX6_finding fd (-1000006 : Int32)) (fun x120 fd121 => some (x120, B, S, fd121))))) (o2 (fX6_finding fd (-1000001 : Int32)) (fun x101 fd102 => some (x101, B, S, fd102)))
theorem q_X6_rust : yX6_rust.cls = RX6 ∧ yX6_rust.cls ≠ "java/lang/invoke/MethodHandle" ∧ yX6_rust.cls ≠ "java/lang/invoke/VarHandle" ∧ (parseMethodDescriptor yX6_rust.desc).map (fun d => d.parameters.length) = some 2 := by decide +kernel
theorem i_X6_rust_X6 : ∀ w ∈ u_ws RX6 TX6 11, w ∈ wsX6_rust := fun _ h => List.mem_cons_of_mem _ (List.mem_append_left _ (List.mem_append_left _ (List.mem_append_left _ (List.mem_append_right _ (h)))))
set_option maxHeartbeats 4000000 in
set_option maxRecDepth 100000 in
theorem c_X6_rust (l : Launch) (g : gG) (v0 u0 u1 u2 u3 k0 k1 k2 k3 h0 h1 h2 h3 s0 s1 s2 s3 c0 c1 c2 p0 r0 t0 t1 t2 t3 z0 f0 : Nat) (ea : Nat → Nat) (R : Rf) (N : Rf) (B : Rf) (S : Sv) (C : Ca) (P : Nat → Int32) (Q : Tr) (K : Tk) (X : F4) (fd : Nat → Int32) (tl : Int32) (ik : Int32) (a1 : Int32) (a2 : Int32) {r : Int32} {B' : Rf} {S' : Sv} {fd' : Nat → Int32} (hf : fX6_rust R B S X fd a1 a2 = some (r, B', S', fd')) : Ct l yX6_rust wsX6_rust (rmm 5 124) g (wV g v0 u0 u1 u2 u3 k0 k1 k2 k3 h0 h1 h2 h3 s0 s1 s2 s3 c0 c1 c2 p0 r0 t0 t1 t2 t3 z0 f0 ea R N B S C P Q K X fd tl ik) (wV g v0 u0 u1 u2 u3 k0 k1 k2 k3 h0 h1 h2 h3 s0 s1 s2 s3 c0 c1 c2 p0 r0 t0 t1 t2 t3 z0 f0 ea R N (B') (S') C P Q K X (fd') tl ik) [.ref v0, .int a1, .int a2] (some (.int r)) := by
  refine Ct.mk (by decide) rfl (Nat.le_of_ble_eq_true rfl) ?_
  intro p e s m args below meth c A ls hx hb hr hml hts hown hlocks hA hE hP hD hS hl hAe
  obtain ⟨Qx, hQ⟩ : ∃ Qx : State → Prop, Qx = MQ below (QcG g (wV g v0 u0 u1 u2 u3 k0 k1 k2 k3 h0 h1 h2 h3 s0 s1 s2 s3 c0 c1 c2 p0 r0 t0 t1 t2 t3 z0 f0 ea R N B S C P Q K X fd tl ik) (wV g v0 u0 u1 u2 u3 k0 k1 k2 k3 h0 h1 h2 h3 s0 s1 s2 s3 c0 c1 c2 p0 r0 t0 t1 t2 t3 z0 f0 ea R N (B') (S') C P Q K X (fd') tl ik) (some (.int r)) s.heap.size) args s 0 0 A := ⟨_, rfl⟩
  rw [← hQ]
  have hown : s.vm.findClass RX6 = some m.cls := hown
  have hl : lv_has ls 8 [(0, .ref v0), (1, .int a1), (2, .int a2)] := hl
  have w1 := hts (.constant RX6 73 (-1000001)) (List.mem_of_getElem? (i := 1) rfl)
  have w2 := hts (.fieldLink RX6 27 "RainVault" "survey" "LRainVault$Survey;") (List.mem_of_getElem? (i := 3) rfl)
  have w3 := hts (.fieldLink RX6 10 "RainVault" "roof" "LRainVault$Roof;") (List.mem_of_getElem? (i := 4) rfl)
  have w4 := hts (.fieldLink RX6 19 "RainVault" "trial" "LRainVault$Roof;") (List.mem_of_getElem? (i := 5) rfl)
  have w5 := hts (.constant RX6 221 (-1000006)) (List.mem_of_getElem? (i := 2) rfl)
  have L77_0 : ∀ (fd : Nat → Int32) (x5 : Int32) (kx : Rf → Sv → Int32 → Option (Int32 × Rf × Sv × (Nat → Int32))) (k : Nat) (B : Rf) (S : Sv) (x6 : Int32) (x7 : Int32) (H : Heap) (locs : List Loc) (ls : Array Slot), fX6_rust_L77 0 X x5 kx k B S x6 x7 = some (r, B', S', fd') → va_P g.1 vwK (wV g v0 u0 u1 u2 u3 k0 k1 k2 k3 h0 h1 h2 h3 s0 s1 s2 s3 c0 c1 c2 p0 r0 t0 t1 t2 t3 z0 f0 ea R N B S C P Q K X fd tl ik) H → va_D A (wV g v0 u0 u1 u2 u3 k0 k1 k2 k3 h0 h1 h2 h3 s0 s1 s2 s3 c0 c1 c2 p0 r0 t0 t1 t2 t3 z0 f0 ea R N B S C P Q K X fd tl ik) → va_S A s.heap H locs → lv_has ls 8 [(0, .ref v0), (3, .ref (ea 0)), (5, .int x5), (6, .int x6), (7, .int x7)] → (∀ (B : Rf) (S : Sv) (x6 : Int32) (H : Heap) (locs : List Loc) (ls : Array Slot), kx B S x6 = some (r, B', S', fd') → va_P g.1 vwK (wV g v0 u0 u1 u2 u3 k0 k1 k2 k3 h0 h1 h2 h3 s0 s1 s2 s3 c0 c1 c2 p0 r0 t0 t1 t2 t3 z0 f0 ea R N B S C P Q K X fd tl ik) H → va_D A (wV g v0 u0 u1 u2 u3 k0 k1 k2 k3 h0 h1 h2 h3 s0 s1 s2 s3 c0 c1 c2 p0 r0 t0 t1 t2 t3 z0 f0 ea R N B S C P Q K X fd tl ik) → va_S A s.heap H locs → lv_has ls 8 [(6, .int x6)] → W p l e (rmm 5 124) s m args below meth c H locs 0 0 Qx (F0 m 113 ls [])) → W p l e (rmm 5 124) s m args below meth c H locs 0 0 Qx (F0 m 77 ls []) := by
    intro fd x5 kx k
    induction k with
    | zero => intro B S x6 x7 H locs ls hf; exact nomatch (show (none : Option (Int32 × Rf × Sv × (Nat → Int32))) = some _ from hf)
    | succ k ih =>
      intro B S x6 x7 H locs ls hf hP hD hS hl hk
      rw [fX6_rust_L77] at hf
      refine lv_iload hx hb dX6_rust_77 (lv_at hl 4 rfl) ?_
      refine lv_iload hx hb dX6_rust_79 (lv_at hl 2 rfl) ?_
      refine lv_icmp_ge (tgt := 113) hx hb dX6_rust_81 (by decide) (fun hc => ?_) (fun hc => ?_)
      · have hf := if_t hf hc
        exact hk _ _ _ _ _ _  hf hP hD hS (lv_sub hl [3] rfl)
      · have hf := if_f hf hc
        refine lv_aload_n hx hb dX6_rust_84 rfl (lv_at hl 0 rfl) ?_
        refine va_get (D := g.1) (ci := 6) (v := .ref s0) (C := RX6) (T := TX6) (N := 11) hx hb hts i_X6_rust_X6 hown hE.1 hP 0 rfl rfl 3 (by decide) w2 (fun _ h9 => h9) rfl dX6_rust_85 ?_
        refine lv_iload hx hb dX6_rust_88 (lv_at hl 4 rfl) ?_
        obtain ⟨S112, R113, hg, hf⟩ := o2_s hf
        refine Ct.callV (ws' := wV g v0 u0 u1 u2 u3 k0 k1 k2 k3 h0 h1 h2 h3 s0 s1 s2 s3 c0 c1 c2 p0 r0 t0 t1 t2 t3 z0 f0 ea R N R113 S112 C P Q K X fd tl ik) (As := [.int x7]) (rest := []) (st1 := []) (c_X3_passRain l g s0 s1 s2 s3 h0 h1 h2 h3 S B x7 hg) (cwV 1 hts gX6_rust_X3_passRain rfl rfl rfl q_X3_passRain ⟨Nat.le_of_ble_eq_true rfl, Nat.le_of_ble_eq_true rfl⟩) ⟨hx, hb, hml, hown, hts⟩ hE hP hD hS hA [13, 14, 15, 16, 9, 10, 11, 12] rfl rfl rfl rfl 3 13 rfl rfl rfl rfl hl.1 rfl rfl (Nat.le_of_ble_eq_true rfl) dX6_rust_90 (fun H locs hP hD hS => ?_)
        refine lv_aload_n hx hb dX6_rust_93 rfl (lv_at hl 0 rfl) ?_
        refine va_get (D := g.1) (ci := 6) (v := .ref h0) (C := RX6) (T := TX6) (N := 11) hx hb hts i_X6_rust_X6 hown hE.1 hP 0 rfl rfl 2 (by decide) w4 (fun _ h9 => h9) rfl dX6_rust_94 ?_
        refine lv_aload_n hx hb dX6_rust_97 rfl (lv_at hl 1 rfl) ?_
        obtain ⟨x114, hg, hf⟩ := o1_s hf
        refine Ct.callS (ws' := wV g v0 u0 u1 u2 u3 k0 k1 k2 k3 h0 h1 h2 h3 s0 s1 s2 s3 c0 c1 c2 p0 r0 t0 t1 t2 t3 z0 f0 ea R N R113 S112 C P Q K X fd tl ik) (As := [.ref h0, .ref (ea 0)]) (rest := []) (st1 := [.int x114]) (c_X6_hasLevelsOf l g h0 h1 h2 h3 (ea 0) (ea 4) R113 (X 0) hg) (va_cwS 2 hts gX6_rust_X6_hasLevelsOf rfl rfl rfl q_X6_hasLevelsOf.2 ⟨Nat.le_of_ble_eq_true rfl, Nat.le_of_ble_eq_true rfl⟩) ⟨hx, hb, hml, hown, hts⟩ hE hP hD hS hA [9, 10, 11, 12, 27, 28] rfl rfl rfl rfl rfl hl.1 rfl rfl (Nat.le_of_ble_eq_true rfl) dX6_rust_98 (fun H locs hP hD hS => ?_)
        refine lv_if_eq (tgt := 107) hx hb dX6_rust_101 (by decide) (fun hc => ?_) (fun hc => ?_)
        · have hf := if_t hf hc
          refine lv_iinc (v := (x7 + (1 : Int32))) (lv' := [(7, .int (x7 + (1 : Int32))), (0, .ref v0), (3, .ref (ea 0)), (5, .int x5), (6, .int x6)]) hx hb dX6_rust_107 hl (k := 4) rfl rfl (by decide) rfl (fun ls hl => ?_)
          refine lv_goto (tgt := 77) hx hb dX6_rust_110 (by decide) ?_
          exact ih _ _ _ _ _ _ _  hf hP hD hS (lv_sub hl [1, 2, 3, 4, 0] rfl) hk
        · have hf := if_f hf hc
          refine lv_iinc (v := (x6 + (1 : Int32))) (lv' := [(6, .int (x6 + (1 : Int32))), (0, .ref v0), (3, .ref (ea 0)), (5, .int x5), (7, .int x7)]) hx hb dX6_rust_104 hl (k := 3) rfl rfl (by decide) rfl (fun ls hl => ?_)
          refine lv_iinc (v := (x7 + (1 : Int32))) (lv' := [(7, .int (x7 + (1 : Int32))), (6, .int (x6 + (1 : Int32))), (0, .ref v0), (3, .ref (ea 0)), (5, .int x5)]) hx hb dX6_rust_107 hl (k := 4) rfl rfl (by decide) rfl (fun ls hl => ?_)
          refine lv_goto (tgt := 77) hx hb dX6_rust_110 (by decide) ?_
          exact ih _ _ _ _ _ _ _  hf hP hD hS (lv_sub hl [2, 3, 4, 1, 0] rfl) hk
  have L77_1 : ∀ (fd : Nat → Int32) (x5 : Int32) (kx : Rf → Sv → Int32 → Option (Int32 × Rf × Sv × (Nat → Int32))) (k : Nat) (B : Rf) (S : Sv) (x6 : Int32) (x7 : Int32) (H : Heap) (locs : List Loc) (ls : Array Slot), fX6_rust_L77 1 X x5 kx k B S x6 x7 = some (r, B', S', fd') → va_P g.1 vwK (wV g v0 u0 u1 u2 u3 k0 k1 k2 k3 h0 h1 h2 h3 s0 s1 s2 s3 c0 c1 c2 p0 r0 t0 t1 t2 t3 z0 f0 ea R N B S C P Q K X fd tl ik) H → va_D A (wV g v0 u0 u1 u2 u3 k0 k1 k2 k3 h0 h1 h2 h3 s0 s1 s2 s3 c0 c1 c2 p0 r0 t0 t1 t2 t3 z0 f0 ea R N B S C P Q K X fd tl ik) → va_S A s.heap H locs → lv_has ls 8 [(0, .ref v0), (3, .ref (ea 1)), (5, .int x5), (6, .int x6), (7, .int x7)] → (∀ (B : Rf) (S : Sv) (x6 : Int32) (H : Heap) (locs : List Loc) (ls : Array Slot), kx B S x6 = some (r, B', S', fd') → va_P g.1 vwK (wV g v0 u0 u1 u2 u3 k0 k1 k2 k3 h0 h1 h2 h3 s0 s1 s2 s3 c0 c1 c2 p0 r0 t0 t1 t2 t3 z0 f0 ea R N B S C P Q K X fd tl ik) H → va_D A (wV g v0 u0 u1 u2 u3 k0 k1 k2 k3 h0 h1 h2 h3 s0 s1 s2 s3 c0 c1 c2 p0 r0 t0 t1 t2 t3 z0 f0 ea R N B S C P Q K X fd tl ik) → va_S A s.heap H locs → lv_has ls 8 [(6, .int x6)] → W p l e (rmm 5 124) s m args below meth c H locs 0 0 Qx (F0 m 113 ls [])) → W p l e (rmm 5 124) s m args below meth c H locs 0 0 Qx (F0 m 77 ls []) := by
    intro fd x5 kx k
    induction k with
    | zero => intro B S x6 x7 H locs ls hf; exact nomatch (show (none : Option (Int32 × Rf × Sv × (Nat → Int32))) = some _ from hf)
    | succ k ih =>
      intro B S x6 x7 H locs ls hf hP hD hS hl hk
      rw [fX6_rust_L77] at hf
      refine lv_iload hx hb dX6_rust_77 (lv_at hl 4 rfl) ?_
      refine lv_iload hx hb dX6_rust_79 (lv_at hl 2 rfl) ?_
      refine lv_icmp_ge (tgt := 113) hx hb dX6_rust_81 (by decide) (fun hc => ?_) (fun hc => ?_)
      · have hf := if_t hf hc
        exact hk _ _ _ _ _ _  hf hP hD hS (lv_sub hl [3] rfl)
      · have hf := if_f hf hc
        refine lv_aload_n hx hb dX6_rust_84 rfl (lv_at hl 0 rfl) ?_
        refine va_get (D := g.1) (ci := 6) (v := .ref s0) (C := RX6) (T := TX6) (N := 11) hx hb hts i_X6_rust_X6 hown hE.1 hP 0 rfl rfl 3 (by decide) w2 (fun _ h9 => h9) rfl dX6_rust_85 ?_
        refine lv_iload hx hb dX6_rust_88 (lv_at hl 4 rfl) ?_
        obtain ⟨S112, R113, hg, hf⟩ := o2_s hf
        refine Ct.callV (ws' := wV g v0 u0 u1 u2 u3 k0 k1 k2 k3 h0 h1 h2 h3 s0 s1 s2 s3 c0 c1 c2 p0 r0 t0 t1 t2 t3 z0 f0 ea R N R113 S112 C P Q K X fd tl ik) (As := [.int x7]) (rest := []) (st1 := []) (c_X3_passRain l g s0 s1 s2 s3 h0 h1 h2 h3 S B x7 hg) (cwV 1 hts gX6_rust_X3_passRain rfl rfl rfl q_X3_passRain ⟨Nat.le_of_ble_eq_true rfl, Nat.le_of_ble_eq_true rfl⟩) ⟨hx, hb, hml, hown, hts⟩ hE hP hD hS hA [13, 14, 15, 16, 9, 10, 11, 12] rfl rfl rfl rfl 3 13 rfl rfl rfl rfl hl.1 rfl rfl (Nat.le_of_ble_eq_true rfl) dX6_rust_90 (fun H locs hP hD hS => ?_)
        refine lv_aload_n hx hb dX6_rust_93 rfl (lv_at hl 0 rfl) ?_
        refine va_get (D := g.1) (ci := 6) (v := .ref h0) (C := RX6) (T := TX6) (N := 11) hx hb hts i_X6_rust_X6 hown hE.1 hP 0 rfl rfl 2 (by decide) w4 (fun _ h9 => h9) rfl dX6_rust_94 ?_
        refine lv_aload_n hx hb dX6_rust_97 rfl (lv_at hl 1 rfl) ?_
        obtain ⟨x114, hg, hf⟩ := o1_s hf
        refine Ct.callS (ws' := wV g v0 u0 u1 u2 u3 k0 k1 k2 k3 h0 h1 h2 h3 s0 s1 s2 s3 c0 c1 c2 p0 r0 t0 t1 t2 t3 z0 f0 ea R N R113 S112 C P Q K X fd tl ik) (As := [.ref h0, .ref (ea 1)]) (rest := []) (st1 := [.int x114]) (c_X6_hasLevelsOf l g h0 h1 h2 h3 (ea 1) (ea 5) R113 (X 1) hg) (va_cwS 2 hts gX6_rust_X6_hasLevelsOf rfl rfl rfl q_X6_hasLevelsOf.2 ⟨Nat.le_of_ble_eq_true rfl, Nat.le_of_ble_eq_true rfl⟩) ⟨hx, hb, hml, hown, hts⟩ hE hP hD hS hA [9, 10, 11, 12, 29, 30] rfl rfl rfl rfl rfl hl.1 rfl rfl (Nat.le_of_ble_eq_true rfl) dX6_rust_98 (fun H locs hP hD hS => ?_)
        refine lv_if_eq (tgt := 107) hx hb dX6_rust_101 (by decide) (fun hc => ?_) (fun hc => ?_)
        · have hf := if_t hf hc
          refine lv_iinc (v := (x7 + (1 : Int32))) (lv' := [(7, .int (x7 + (1 : Int32))), (0, .ref v0), (3, .ref (ea 1)), (5, .int x5), (6, .int x6)]) hx hb dX6_rust_107 hl (k := 4) rfl rfl (by decide) rfl (fun ls hl => ?_)
          refine lv_goto (tgt := 77) hx hb dX6_rust_110 (by decide) ?_
          exact ih _ _ _ _ _ _ _  hf hP hD hS (lv_sub hl [1, 2, 3, 4, 0] rfl) hk
        · have hf := if_f hf hc
          refine lv_iinc (v := (x6 + (1 : Int32))) (lv' := [(6, .int (x6 + (1 : Int32))), (0, .ref v0), (3, .ref (ea 1)), (5, .int x5), (7, .int x7)]) hx hb dX6_rust_104 hl (k := 3) rfl rfl (by decide) rfl (fun ls hl => ?_)
          refine lv_iinc (v := (x7 + (1 : Int32))) (lv' := [(7, .int (x7 + (1 : Int32))), (6, .int (x6 + (1 : Int32))), (0, .ref v0), (3, .ref (ea 1)), (5, .int x5)]) hx hb dX6_rust_107 hl (k := 4) rfl rfl (by decide) rfl (fun ls hl => ?_)
          refine lv_goto (tgt := 77) hx hb dX6_rust_110 (by decide) ?_
          exact ih _ _ _ _ _ _ _  hf hP hD hS (lv_sub hl [2, 3, 4, 1, 0] rfl) hk
  have L77_2 : ∀ (fd : Nat → Int32) (x5 : Int32) (kx : Rf → Sv → Int32 → Option (Int32 × Rf × Sv × (Nat → Int32))) (k : Nat) (B : Rf) (S : Sv) (x6 : Int32) (x7 : Int32) (H : Heap) (locs : List Loc) (ls : Array Slot), fX6_rust_L77 2 X x5 kx k B S x6 x7 = some (r, B', S', fd') → va_P g.1 vwK (wV g v0 u0 u1 u2 u3 k0 k1 k2 k3 h0 h1 h2 h3 s0 s1 s2 s3 c0 c1 c2 p0 r0 t0 t1 t2 t3 z0 f0 ea R N B S C P Q K X fd tl ik) H → va_D A (wV g v0 u0 u1 u2 u3 k0 k1 k2 k3 h0 h1 h2 h3 s0 s1 s2 s3 c0 c1 c2 p0 r0 t0 t1 t2 t3 z0 f0 ea R N B S C P Q K X fd tl ik) → va_S A s.heap H locs → lv_has ls 8 [(0, .ref v0), (3, .ref (ea 2)), (5, .int x5), (6, .int x6), (7, .int x7)] → (∀ (B : Rf) (S : Sv) (x6 : Int32) (H : Heap) (locs : List Loc) (ls : Array Slot), kx B S x6 = some (r, B', S', fd') → va_P g.1 vwK (wV g v0 u0 u1 u2 u3 k0 k1 k2 k3 h0 h1 h2 h3 s0 s1 s2 s3 c0 c1 c2 p0 r0 t0 t1 t2 t3 z0 f0 ea R N B S C P Q K X fd tl ik) H → va_D A (wV g v0 u0 u1 u2 u3 k0 k1 k2 k3 h0 h1 h2 h3 s0 s1 s2 s3 c0 c1 c2 p0 r0 t0 t1 t2 t3 z0 f0 ea R N B S C P Q K X fd tl ik) → va_S A s.heap H locs → lv_has ls 8 [(6, .int x6)] → W p l e (rmm 5 124) s m args below meth c H locs 0 0 Qx (F0 m 113 ls [])) → W p l e (rmm 5 124) s m args below meth c H locs 0 0 Qx (F0 m 77 ls []) := by
    intro fd x5 kx k
    induction k with
    | zero => intro B S x6 x7 H locs ls hf; exact nomatch (show (none : Option (Int32 × Rf × Sv × (Nat → Int32))) = some _ from hf)
    | succ k ih =>
      intro B S x6 x7 H locs ls hf hP hD hS hl hk
      rw [fX6_rust_L77] at hf
      refine lv_iload hx hb dX6_rust_77 (lv_at hl 4 rfl) ?_
      refine lv_iload hx hb dX6_rust_79 (lv_at hl 2 rfl) ?_
      refine lv_icmp_ge (tgt := 113) hx hb dX6_rust_81 (by decide) (fun hc => ?_) (fun hc => ?_)
      · have hf := if_t hf hc
        exact hk _ _ _ _ _ _  hf hP hD hS (lv_sub hl [3] rfl)
      · have hf := if_f hf hc
        refine lv_aload_n hx hb dX6_rust_84 rfl (lv_at hl 0 rfl) ?_
        refine va_get (D := g.1) (ci := 6) (v := .ref s0) (C := RX6) (T := TX6) (N := 11) hx hb hts i_X6_rust_X6 hown hE.1 hP 0 rfl rfl 3 (by decide) w2 (fun _ h9 => h9) rfl dX6_rust_85 ?_
        refine lv_iload hx hb dX6_rust_88 (lv_at hl 4 rfl) ?_
        obtain ⟨S112, R113, hg, hf⟩ := o2_s hf
        refine Ct.callV (ws' := wV g v0 u0 u1 u2 u3 k0 k1 k2 k3 h0 h1 h2 h3 s0 s1 s2 s3 c0 c1 c2 p0 r0 t0 t1 t2 t3 z0 f0 ea R N R113 S112 C P Q K X fd tl ik) (As := [.int x7]) (rest := []) (st1 := []) (c_X3_passRain l g s0 s1 s2 s3 h0 h1 h2 h3 S B x7 hg) (cwV 1 hts gX6_rust_X3_passRain rfl rfl rfl q_X3_passRain ⟨Nat.le_of_ble_eq_true rfl, Nat.le_of_ble_eq_true rfl⟩) ⟨hx, hb, hml, hown, hts⟩ hE hP hD hS hA [13, 14, 15, 16, 9, 10, 11, 12] rfl rfl rfl rfl 3 13 rfl rfl rfl rfl hl.1 rfl rfl (Nat.le_of_ble_eq_true rfl) dX6_rust_90 (fun H locs hP hD hS => ?_)
        refine lv_aload_n hx hb dX6_rust_93 rfl (lv_at hl 0 rfl) ?_
        refine va_get (D := g.1) (ci := 6) (v := .ref h0) (C := RX6) (T := TX6) (N := 11) hx hb hts i_X6_rust_X6 hown hE.1 hP 0 rfl rfl 2 (by decide) w4 (fun _ h9 => h9) rfl dX6_rust_94 ?_
        refine lv_aload_n hx hb dX6_rust_97 rfl (lv_at hl 1 rfl) ?_
        obtain ⟨x114, hg, hf⟩ := o1_s hf
        refine Ct.callS (ws' := wV g v0 u0 u1 u2 u3 k0 k1 k2 k3 h0 h1 h2 h3 s0 s1 s2 s3 c0 c1 c2 p0 r0 t0 t1 t2 t3 z0 f0 ea R N R113 S112 C P Q K X fd tl ik) (As := [.ref h0, .ref (ea 2)]) (rest := []) (st1 := [.int x114]) (c_X6_hasLevelsOf l g h0 h1 h2 h3 (ea 2) (ea 6) R113 (X 2) hg) (va_cwS 2 hts gX6_rust_X6_hasLevelsOf rfl rfl rfl q_X6_hasLevelsOf.2 ⟨Nat.le_of_ble_eq_true rfl, Nat.le_of_ble_eq_true rfl⟩) ⟨hx, hb, hml, hown, hts⟩ hE hP hD hS hA [9, 10, 11, 12, 31, 32] rfl rfl rfl rfl rfl hl.1 rfl rfl (Nat.le_of_ble_eq_true rfl) dX6_rust_98 (fun H locs hP hD hS => ?_)
        refine lv_if_eq (tgt := 107) hx hb dX6_rust_101 (by decide) (fun hc => ?_) (fun hc => ?_)
        · have hf := if_t hf hc
          refine lv_iinc (v := (x7 + (1 : Int32))) (lv' := [(7, .int (x7 + (1 : Int32))), (0, .ref v0), (3, .ref (ea 2)), (5, .int x5), (6, .int x6)]) hx hb dX6_rust_107 hl (k := 4) rfl rfl (by decide) rfl (fun ls hl => ?_)
          refine lv_goto (tgt := 77) hx hb dX6_rust_110 (by decide) ?_
          exact ih _ _ _ _ _ _ _  hf hP hD hS (lv_sub hl [1, 2, 3, 4, 0] rfl) hk
        · have hf := if_f hf hc
          refine lv_iinc (v := (x6 + (1 : Int32))) (lv' := [(6, .int (x6 + (1 : Int32))), (0, .ref v0), (3, .ref (ea 2)), (5, .int x5), (7, .int x7)]) hx hb dX6_rust_104 hl (k := 3) rfl rfl (by decide) rfl (fun ls hl => ?_)
          refine lv_iinc (v := (x7 + (1 : Int32))) (lv' := [(7, .int (x7 + (1 : Int32))), (6, .int (x6 + (1 : Int32))), (0, .ref v0), (3, .ref (ea 2)), (5, .int x5)]) hx hb dX6_rust_107 hl (k := 4) rfl rfl (by decide) rfl (fun ls hl => ?_)
          refine lv_goto (tgt := 77) hx hb dX6_rust_110 (by decide) ?_
          exact ih _ _ _ _ _ _ _  hf hP hD hS (lv_sub hl [2, 3, 4, 1, 0] rfl) hk
  have L77_3 : ∀ (fd : Nat → Int32) (x5 : Int32) (kx : Rf → Sv → Int32 → Option (Int32 × Rf × Sv × (Nat → Int32))) (k : Nat) (B : Rf) (S : Sv) (x6 : Int32) (x7 : Int32) (H : Heap) (locs : List Loc) (ls : Array Slot), fX6_rust_L77 3 X x5 kx k B S x6 x7 = some (r, B', S', fd') → va_P g.1 vwK (wV g v0 u0 u1 u2 u3 k0 k1 k2 k3 h0 h1 h2 h3 s0 s1 s2 s3 c0 c1 c2 p0 r0 t0 t1 t2 t3 z0 f0 ea R N B S C P Q K X fd tl ik) H → va_D A (wV g v0 u0 u1 u2 u3 k0 k1 k2 k3 h0 h1 h2 h3 s0 s1 s2 s3 c0 c1 c2 p0 r0 t0 t1 t2 t3 z0 f0 ea R N B S C P Q K X fd tl ik) → va_S A s.heap H locs → lv_has ls 8 [(0, .ref v0), (3, .ref (ea 3)), (5, .int x5), (6, .int x6), (7, .int x7)] → (∀ (B : Rf) (S : Sv) (x6 : Int32) (H : Heap) (locs : List Loc) (ls : Array Slot), kx B S x6 = some (r, B', S', fd') → va_P g.1 vwK (wV g v0 u0 u1 u2 u3 k0 k1 k2 k3 h0 h1 h2 h3 s0 s1 s2 s3 c0 c1 c2 p0 r0 t0 t1 t2 t3 z0 f0 ea R N B S C P Q K X fd tl ik) H → va_D A (wV g v0 u0 u1 u2 u3 k0 k1 k2 k3 h0 h1 h2 h3 s0 s1 s2 s3 c0 c1 c2 p0 r0 t0 t1 t2 t3 z0 f0 ea R N B S C P Q K X fd tl ik) → va_S A s.heap H locs → lv_has ls 8 [(6, .int x6)] → W p l e (rmm 5 124) s m args below meth c H locs 0 0 Qx (F0 m 113 ls [])) → W p l e (rmm 5 124) s m args below meth c H locs 0 0 Qx (F0 m 77 ls []) := by
    intro fd x5 kx k
    induction k with
    | zero => intro B S x6 x7 H locs ls hf; exact nomatch (show (none : Option (Int32 × Rf × Sv × (Nat → Int32))) = some _ from hf)
    | succ k ih =>
      intro B S x6 x7 H locs ls hf hP hD hS hl hk
      rw [fX6_rust_L77] at hf
      refine lv_iload hx hb dX6_rust_77 (lv_at hl 4 rfl) ?_
      refine lv_iload hx hb dX6_rust_79 (lv_at hl 2 rfl) ?_
      refine lv_icmp_ge (tgt := 113) hx hb dX6_rust_81 (by decide) (fun hc => ?_) (fun hc => ?_)
      · have hf := if_t hf hc
        exact hk _ _ _ _ _ _  hf hP hD hS (lv_sub hl [3] rfl)
      · have hf := if_f hf hc
        refine lv_aload_n hx hb dX6_rust_84 rfl (lv_at hl 0 rfl) ?_
        refine va_get (D := g.1) (ci := 6) (v := .ref s0) (C := RX6) (T := TX6) (N := 11) hx hb hts i_X6_rust_X6 hown hE.1 hP 0 rfl rfl 3 (by decide) w2 (fun _ h9 => h9) rfl dX6_rust_85 ?_
        refine lv_iload hx hb dX6_rust_88 (lv_at hl 4 rfl) ?_
        obtain ⟨S112, R113, hg, hf⟩ := o2_s hf
        refine Ct.callV (ws' := wV g v0 u0 u1 u2 u3 k0 k1 k2 k3 h0 h1 h2 h3 s0 s1 s2 s3 c0 c1 c2 p0 r0 t0 t1 t2 t3 z0 f0 ea R N R113 S112 C P Q K X fd tl ik) (As := [.int x7]) (rest := []) (st1 := []) (c_X3_passRain l g s0 s1 s2 s3 h0 h1 h2 h3 S B x7 hg) (cwV 1 hts gX6_rust_X3_passRain rfl rfl rfl q_X3_passRain ⟨Nat.le_of_ble_eq_true rfl, Nat.le_of_ble_eq_true rfl⟩) ⟨hx, hb, hml, hown, hts⟩ hE hP hD hS hA [13, 14, 15, 16, 9, 10, 11, 12] rfl rfl rfl rfl 3 13 rfl rfl rfl rfl hl.1 rfl rfl (Nat.le_of_ble_eq_true rfl) dX6_rust_90 (fun H locs hP hD hS => ?_)
        refine lv_aload_n hx hb dX6_rust_93 rfl (lv_at hl 0 rfl) ?_
        refine va_get (D := g.1) (ci := 6) (v := .ref h0) (C := RX6) (T := TX6) (N := 11) hx hb hts i_X6_rust_X6 hown hE.1 hP 0 rfl rfl 2 (by decide) w4 (fun _ h9 => h9) rfl dX6_rust_94 ?_
        refine lv_aload_n hx hb dX6_rust_97 rfl (lv_at hl 1 rfl) ?_
        obtain ⟨x114, hg, hf⟩ := o1_s hf
        refine Ct.callS (ws' := wV g v0 u0 u1 u2 u3 k0 k1 k2 k3 h0 h1 h2 h3 s0 s1 s2 s3 c0 c1 c2 p0 r0 t0 t1 t2 t3 z0 f0 ea R N R113 S112 C P Q K X fd tl ik) (As := [.ref h0, .ref (ea 3)]) (rest := []) (st1 := [.int x114]) (c_X6_hasLevelsOf l g h0 h1 h2 h3 (ea 3) (ea 7) R113 (X 3) hg) (va_cwS 2 hts gX6_rust_X6_hasLevelsOf rfl rfl rfl q_X6_hasLevelsOf.2 ⟨Nat.le_of_ble_eq_true rfl, Nat.le_of_ble_eq_true rfl⟩) ⟨hx, hb, hml, hown, hts⟩ hE hP hD hS hA [9, 10, 11, 12, 33, 34] rfl rfl rfl rfl rfl hl.1 rfl rfl (Nat.le_of_ble_eq_true rfl) dX6_rust_98 (fun H locs hP hD hS => ?_)
        refine lv_if_eq (tgt := 107) hx hb dX6_rust_101 (by decide) (fun hc => ?_) (fun hc => ?_)
        · have hf := if_t hf hc
          refine lv_iinc (v := (x7 + (1 : Int32))) (lv' := [(7, .int (x7 + (1 : Int32))), (0, .ref v0), (3, .ref (ea 3)), (5, .int x5), (6, .int x6)]) hx hb dX6_rust_107 hl (k := 4) rfl rfl (by decide) rfl (fun ls hl => ?_)
          refine lv_goto (tgt := 77) hx hb dX6_rust_110 (by decide) ?_
          exact ih _ _ _ _ _ _ _  hf hP hD hS (lv_sub hl [1, 2, 3, 4, 0] rfl) hk
        · have hf := if_f hf hc
          refine lv_iinc (v := (x6 + (1 : Int32))) (lv' := [(6, .int (x6 + (1 : Int32))), (0, .ref v0), (3, .ref (ea 3)), (5, .int x5), (7, .int x7)]) hx hb dX6_rust_104 hl (k := 3) rfl rfl (by decide) rfl (fun ls hl => ?_)
          refine lv_iinc (v := (x7 + (1 : Int32))) (lv' := [(7, .int (x7 + (1 : Int32))), (6, .int (x6 + (1 : Int32))), (0, .ref v0), (3, .ref (ea 3)), (5, .int x5)]) hx hb dX6_rust_107 hl (k := 4) rfl rfl (by decide) rfl (fun ls hl => ?_)
          refine lv_goto (tgt := 77) hx hb dX6_rust_110 (by decide) ?_
          exact ih _ _ _ _ _ _ _  hf hP hD hS (lv_sub hl [2, 3, 4, 1, 0] rfl) hk
  unfold fX6_rust at hf
  refine lv_aload_n hx hb dX6_rust_0 rfl (lv_at hl 0 rfl) ?_
  refine lv_iload_n hx hb dX6_rust_1 rfl (lv_at hl 1 rfl) ?_
  rcases sh_s hf with ⟨hs, hf⟩ | ⟨hs, hf⟩ | ⟨hs, hf⟩ | ⟨hs, hf⟩ | ⟨hs, hf⟩
  · refine Ct.callV0 (ws' := wV g v0 u0 u1 u2 u3 k0 k1 k2 k3 h0 h1 h2 h3 s0 s1 s2 s3 c0 c1 c2 p0 r0 t0 t1 t2 t3 z0 f0 ea R N B S C P Q K X fd tl ik) (As := [.int a1]) (rest := []) (st1 := [.null]) (c_X6_sheetAt_null l g v0 u0 u1 u2 u3 k0 k1 k2 k3 h0 h1 h2 h3 s0 s1 s2 s3 c0 c1 c2 p0 r0 t0 t1 t2 t3 z0 f0 ea R N B S C P Q K X fd tl ik a1 hs) (cwV 1 hts gX6_rust_X6_sheetAt rfl rfl rfl q_X6_sheetAt ⟨Nat.le_of_ble_eq_true rfl, Nat.le_of_ble_eq_true rfl⟩) ⟨hx, hb, hml, hown, hts⟩ hE hP hD hS hA 6 0 rfl rfl rfl rfl hl.1 rfl rfl (Nat.le_of_ble_eq_true rfl) dX6_rust_2 (fun H locs hP hD hS => ?_)
    refine lv_astore_nN (lv' := [(3, .null), (0, .ref v0), (1, .int a1), (2, .int a2)]) hx hb dX6_rust_5 rfl hl (by decide) rfl (fun ls hl => ?_)
    refine lv_aload_nN hx hb dX6_rust_6 rfl (lv_at hl 0 rfl) ?_
    refine lv_ifnonnullN hx hb dX6_rust_7 ?_
    refine lv_aload_n hx hb dX6_rust_10 rfl (lv_at hl 1 rfl) ?_
    refine lv_ldc hx hb hown w1 dX6_rust_11 ?_
    obtain ⟨x101, fd102, hg, hf⟩ := o2_s hf
    refine Ct.callV0 (ws' := wV g v0 u0 u1 u2 u3 k0 k1 k2 k3 h0 h1 h2 h3 s0 s1 s2 s3 c0 c1 c2 p0 r0 t0 t1 t2 t3 z0 f0 ea R N B S C P Q K X fd102 tl ik) (As := [.int (-1000001 : Int32)]) (rest := []) (st1 := [.int x101]) (c_X6_finding l g v0 u0 u1 u2 u3 k0 k1 k2 k3 h0 h1 h2 h3 s0 s1 s2 s3 c0 c1 c2 p0 r0 t0 t1 t2 t3 z0 f0 ea R N B S C P Q K X fd tl ik (-1000001 : Int32) hg) (cwV 1 hts gX6_rust_X6_finding rfl rfl rfl q_X6_finding ⟨Nat.le_of_ble_eq_true rfl, Nat.le_of_ble_eq_true rfl⟩) ⟨hx, hb, hml, hown, hts⟩ hE hP hD hS hA 6 0 rfl rfl rfl rfl hl.1 rfl rfl (Nat.le_of_ble_eq_true rfl) dX6_rust_13 (fun H locs hP hD hS => ?_)
    obtain ⟨rfl, rfl, rfl, rfl⟩ := some_p4 hf
    rw [hQ]; exact Ct.iret hx hb hr hlocks hAe hP hD hS dX6_rust_16
  · refine Ct.callV0 (ws' := wV g v0 u0 u1 u2 u3 k0 k1 k2 k3 h0 h1 h2 h3 s0 s1 s2 s3 c0 c1 c2 p0 r0 t0 t1 t2 t3 z0 f0 ea R N B S C P Q K X fd tl ik) (As := [.int a1]) (rest := []) (st1 := [.ref (ea 0)]) (c_X6_sheetAt l g v0 u0 u1 u2 u3 k0 k1 k2 k3 h0 h1 h2 h3 s0 s1 s2 s3 c0 c1 c2 p0 r0 t0 t1 t2 t3 z0 f0 ea R N B S C P Q K X fd tl ik 0 (by decide) a1 hs) (cwV 1 hts gX6_rust_X6_sheetAt rfl rfl rfl q_X6_sheetAt ⟨Nat.le_of_ble_eq_true rfl, Nat.le_of_ble_eq_true rfl⟩) ⟨hx, hb, hml, hown, hts⟩ hE hP hD hS hA 6 0 rfl rfl rfl rfl hl.1 rfl rfl (Nat.le_of_ble_eq_true rfl) dX6_rust_2 (fun H locs hP hD hS => ?_)
    refine lv_astore_n (lv' := [(3, .ref (ea 0)), (0, .ref v0), (1, .int a1), (2, .int a2)]) hx hb dX6_rust_5 rfl hl (by decide) rfl (fun ls hl => ?_)
    refine lv_aload_n hx hb dX6_rust_6 rfl (lv_at hl 0 rfl) ?_
    refine lv_ifnonnull (tgt := 17) hx hb dX6_rust_7 (by decide) ?_
    refine lv_aload_n hx hb dX6_rust_17 rfl (lv_at hl 0 rfl) ?_
    obtain ⟨x104, hg, hf⟩ := o1_s hf
    refine Ct.callV (ws' := wV g v0 u0 u1 u2 u3 k0 k1 k2 k3 h0 h1 h2 h3 s0 s1 s2 s3 c0 c1 c2 p0 r0 t0 t1 t2 t3 z0 f0 ea R N B S C P Q K X fd tl ik) (As := []) (rest := []) (st1 := [.int x104]) (c_X2_isMissing l g (ea 0) (ea 4) (X 0) hg) (cwV 0 hts gX6_rust_X2_isMissing rfl rfl rfl q_X2_isMissing ⟨Nat.le_of_ble_eq_true rfl, Nat.le_of_ble_eq_true rfl⟩) ⟨hx, hb, hml, hown, hts⟩ hE hP hD hS hA [27, 28] rfl rfl rfl rfl 2 27 rfl rfl rfl rfl hl.1 rfl rfl (Nat.le_of_ble_eq_true rfl) dX6_rust_18 (fun H locs hP hD hS => ?_)
    refine lv_if_eq (tgt := 31) hx hb dX6_rust_21 (by decide) (fun hc => ?_) (fun hc => ?_)
    · have hf := if_t hf hc
      refine lv_aload_n hx hb dX6_rust_31 rfl (lv_at hl 1 rfl) ?_
      refine lv_iload_n hx hb dX6_rust_32 rfl (lv_at hl 3 rfl) ?_
      obtain ⟨x105, hg, hf⟩ := o1_s hf
      refine Ct.callV0 (ws' := wV g v0 u0 u1 u2 u3 k0 k1 k2 k3 h0 h1 h2 h3 s0 s1 s2 s3 c0 c1 c2 p0 r0 t0 t1 t2 t3 z0 f0 ea R N B S C P Q K X fd tl ik) (As := [.int a2]) (rest := []) (st1 := [.int x105]) (c_X6_faultOfRains l g v0 u0 u1 u2 u3 k0 k1 k2 k3 h0 h1 h2 h3 s0 s1 s2 s3 c0 c1 c2 p0 r0 t0 t1 t2 t3 z0 f0 ea R N B S C P Q K X fd tl ik a2 hg) (cwV 1 hts gX6_rust_X6_faultOfRains rfl rfl rfl q_X6_faultOfRains ⟨Nat.le_of_ble_eq_true rfl, Nat.le_of_ble_eq_true rfl⟩) ⟨hx, hb, hml, hown, hts⟩ hE hP hD hS hA 6 0 rfl rfl rfl rfl hl.1 rfl rfl (Nat.le_of_ble_eq_true rfl) dX6_rust_33 (fun H locs hP hD hS => ?_)
      refine lv_istore (lv' := [(4, .int x105), (3, .ref (ea 0)), (0, .ref v0), (1, .int a1), (2, .int a2)]) hx hb dX6_rust_36 hl (by decide) rfl (fun ls hl => ?_)
      refine lv_iload hx hb dX6_rust_38 (lv_at hl 0 rfl) ?_
      refine lv_if_eq (tgt := 50) hx hb dX6_rust_40 (by decide) (fun hc => ?_) (fun hc => ?_)
      · have hf := if_t hf hc
        refine lv_aload_n hx hb dX6_rust_50 rfl (lv_at hl 2 rfl) ?_
        refine va_get (D := g.1) (ci := 6) (v := .ref s0) (C := RX6) (T := TX6) (N := 11) hx hb hts i_X6_rust_X6 hown hE.1 hP 0 rfl rfl 3 (by decide) w2 (fun _ h9 => h9) rfl dX6_rust_51 ?_
        refine lv_aload_n hx hb dX6_rust_54 rfl (lv_at hl 2 rfl) ?_
        refine va_get (D := g.1) (ci := 6) (v := .ref u0) (C := RX6) (T := TX6) (N := 11) hx hb hts i_X6_rust_X6 hown hE.1 hP 0 rfl rfl 0 (by decide) w3 (fun _ h9 => h9) rfl dX6_rust_55 ?_
        refine lv_iload_n hx hb dX6_rust_58 rfl (lv_at hl 4 rfl) ?_
        obtain ⟨S106, R107, hg, hf⟩ := o2_s hf
        refine Ct.callV (ws' := wV g v0 u0 u1 u2 u3 k0 k1 k2 k3 h0 h1 h2 h3 s0 s1 s2 s3 c0 c1 c2 p0 r0 t0 t1 t2 t3 z0 f0 ea R N R107 S106 C P Q K X fd tl ik) (As := [.ref u0, .int a2]) (rest := []) (st1 := []) (c_X3_begin l g s0 s1 s2 s3 h0 h1 h2 h3 u0 u1 u2 u3 S B R a2 hg) (cwV 2 hts gX6_rust_X3_begin rfl rfl rfl q_X3_begin ⟨Nat.le_of_ble_eq_true rfl, Nat.le_of_ble_eq_true rfl⟩) ⟨hx, hb, hml, hown, hts⟩ hE hP hD hS hA [13, 14, 15, 16, 9, 10, 11, 12, 1, 2, 3, 4] rfl rfl rfl rfl 3 13 rfl rfl rfl rfl hl.1 rfl rfl (Nat.le_of_ble_eq_true rfl) dX6_rust_59 (fun H locs hP hD hS => ?_)
        refine lv_aload_n hx hb dX6_rust_62 rfl (lv_at hl 2 rfl) ?_
        refine va_get (D := g.1) (ci := 6) (v := .ref s0) (C := RX6) (T := TX6) (N := 11) hx hb hts i_X6_rust_X6 hown hE.1 hP 0 rfl rfl 3 (by decide) w2 (fun _ h9 => h9) rfl dX6_rust_63 ?_
        obtain ⟨x108, hg, hf⟩ := o1_s hf
        refine Ct.callV (ws' := wV g v0 u0 u1 u2 u3 k0 k1 k2 k3 h0 h1 h2 h3 s0 s1 s2 s3 c0 c1 c2 p0 r0 t0 t1 t2 t3 z0 f0 ea R N R107 S106 C P Q K X fd tl ik) (As := []) (rest := []) (st1 := [.int x108]) (c_X3_howMany l g s0 s1 s2 s3 h0 h1 h2 h3 S106 R107 hg) (cwV 0 hts gX6_rust_X3_howMany rfl rfl rfl q_X3_howMany ⟨Nat.le_of_ble_eq_true rfl, Nat.le_of_ble_eq_true rfl⟩) ⟨hx, hb, hml, hown, hts⟩ hE hP hD hS hA [13, 14, 15, 16, 9, 10, 11, 12] rfl rfl rfl rfl 3 13 rfl rfl rfl rfl hl.1 rfl rfl (Nat.le_of_ble_eq_true rfl) dX6_rust_66 (fun H locs hP hD hS => ?_)
        refine lv_istore (lv' := [(5, .int x108), (4, .int x105), (3, .ref (ea 0)), (0, .ref v0), (1, .int a1), (2, .int a2)]) hx hb dX6_rust_69 hl (by decide) rfl (fun ls hl => ?_)
        refine lv_iconst (v := (0 : Int32)) hx hb dX6_rust_71 (by decide) ?_
        refine lv_istore (lv' := [(6, .int (0 : Int32)), (5, .int x108), (4, .int x105), (3, .ref (ea 0)), (0, .ref v0), (1, .int a1), (2, .int a2)]) hx hb dX6_rust_72 hl (by decide) rfl (fun ls hl => ?_)
        refine lv_iconst (v := (0 : Int32)) hx hb dX6_rust_74 (by decide) ?_
        refine lv_istore (lv' := [(7, .int (0 : Int32)), (6, .int (0 : Int32)), (5, .int x108), (4, .int x105), (3, .ref (ea 0)), (0, .ref v0), (1, .int a1), (2, .int a2)]) hx hb dX6_rust_75 hl (by decide) rfl (fun ls hl => ?_)
        refine L77_0 _ _ _ _ _ _ _ _ _ _ _  hf hP hD hS (lv_sub hl [5, 4, 2, 1, 0] rfl) (fun B115 S116 x117 H locs ls hf hP hD hS hl => ?_)
        refine lv_iload hx hb dX6_rust_113 (lv_at hl 0 rfl) ?_
        obtain ⟨rfl, rfl, rfl, rfl⟩ := some_p4 hf
        rw [hQ]; exact Ct.iret hx hb hr hlocks hAe hP hD hS dX6_rust_115
      · have hf := if_f hf hc
        refine lv_aload_n hx hb dX6_rust_43 rfl (lv_at hl 2 rfl) ?_
        refine lv_iload hx hb dX6_rust_44 (lv_at hl 0 rfl) ?_
        obtain ⟨x118, fd119, hg, hf⟩ := o2_s hf
        refine Ct.callV0 (ws' := wV g v0 u0 u1 u2 u3 k0 k1 k2 k3 h0 h1 h2 h3 s0 s1 s2 s3 c0 c1 c2 p0 r0 t0 t1 t2 t3 z0 f0 ea R N B S C P Q K X fd119 tl ik) (As := [.int x105]) (rest := []) (st1 := [.int x118]) (c_X6_finding l g v0 u0 u1 u2 u3 k0 k1 k2 k3 h0 h1 h2 h3 s0 s1 s2 s3 c0 c1 c2 p0 r0 t0 t1 t2 t3 z0 f0 ea R N B S C P Q K X fd tl ik x105 hg) (cwV 1 hts gX6_rust_X6_finding rfl rfl rfl q_X6_finding ⟨Nat.le_of_ble_eq_true rfl, Nat.le_of_ble_eq_true rfl⟩) ⟨hx, hb, hml, hown, hts⟩ hE hP hD hS hA 6 0 rfl rfl rfl rfl hl.1 rfl rfl (Nat.le_of_ble_eq_true rfl) dX6_rust_46 (fun H locs hP hD hS => ?_)
        obtain ⟨rfl, rfl, rfl, rfl⟩ := some_p4 hf
        rw [hQ]; exact Ct.iret hx hb hr hlocks hAe hP hD hS dX6_rust_49
    · have hf := if_f hf hc
      refine lv_aload_n hx hb dX6_rust_24 rfl (lv_at hl 1 rfl) ?_
      refine lv_ldc hx hb hown w5 dX6_rust_25 ?_
      obtain ⟨x120, fd121, hg, hf⟩ := o2_s hf
      refine Ct.callV0 (ws' := wV g v0 u0 u1 u2 u3 k0 k1 k2 k3 h0 h1 h2 h3 s0 s1 s2 s3 c0 c1 c2 p0 r0 t0 t1 t2 t3 z0 f0 ea R N B S C P Q K X fd121 tl ik) (As := [.int (-1000006 : Int32)]) (rest := []) (st1 := [.int x120]) (c_X6_finding l g v0 u0 u1 u2 u3 k0 k1 k2 k3 h0 h1 h2 h3 s0 s1 s2 s3 c0 c1 c2 p0 r0 t0 t1 t2 t3 z0 f0 ea R N B S C P Q K X fd tl ik (-1000006 : Int32) hg) (cwV 1 hts gX6_rust_X6_finding rfl rfl rfl q_X6_finding ⟨Nat.le_of_ble_eq_true rfl, Nat.le_of_ble_eq_true rfl⟩) ⟨hx, hb, hml, hown, hts⟩ hE hP hD hS hA 6 0 rfl rfl rfl rfl hl.1 rfl rfl (Nat.le_of_ble_eq_true rfl) dX6_rust_27 (fun H locs hP hD hS => ?_)
      obtain ⟨rfl, rfl, rfl, rfl⟩ := some_p4 hf
      rw [hQ]; exact Ct.iret hx hb hr hlocks hAe hP hD hS dX6_rust_30
  · refine Ct.callV0 (ws' := wV g v0 u0 u1 u2 u3 k0 k1 k2 k3 h0 h1 h2 h3 s0 s1 s2 s3 c0 c1 c2 p0 r0 t0 t1 t2 t3 z0 f0 ea R N B S C P Q K X fd tl ik) (As := [.int a1]) (rest := []) (st1 := [.ref (ea 1)]) (c_X6_sheetAt l g v0 u0 u1 u2 u3 k0 k1 k2 k3 h0 h1 h2 h3 s0 s1 s2 s3 c0 c1 c2 p0 r0 t0 t1 t2 t3 z0 f0 ea R N B S C P Q K X fd tl ik 1 (by decide) a1 hs) (cwV 1 hts gX6_rust_X6_sheetAt rfl rfl rfl q_X6_sheetAt ⟨Nat.le_of_ble_eq_true rfl, Nat.le_of_ble_eq_true rfl⟩) ⟨hx, hb, hml, hown, hts⟩ hE hP hD hS hA 6 0 rfl rfl rfl rfl hl.1 rfl rfl (Nat.le_of_ble_eq_true rfl) dX6_rust_2 (fun H locs hP hD hS => ?_)
    refine lv_astore_n (lv' := [(3, .ref (ea 1)), (0, .ref v0), (1, .int a1), (2, .int a2)]) hx hb dX6_rust_5 rfl hl (by decide) rfl (fun ls hl => ?_)
    refine lv_aload_n hx hb dX6_rust_6 rfl (lv_at hl 0 rfl) ?_
    refine lv_ifnonnull (tgt := 17) hx hb dX6_rust_7 (by decide) ?_
    refine lv_aload_n hx hb dX6_rust_17 rfl (lv_at hl 0 rfl) ?_
    obtain ⟨x104, hg, hf⟩ := o1_s hf
    refine Ct.callV (ws' := wV g v0 u0 u1 u2 u3 k0 k1 k2 k3 h0 h1 h2 h3 s0 s1 s2 s3 c0 c1 c2 p0 r0 t0 t1 t2 t3 z0 f0 ea R N B S C P Q K X fd tl ik) (As := []) (rest := []) (st1 := [.int x104]) (c_X2_isMissing l g (ea 1) (ea 5) (X 1) hg) (cwV 0 hts gX6_rust_X2_isMissing rfl rfl rfl q_X2_isMissing ⟨Nat.le_of_ble_eq_true rfl, Nat.le_of_ble_eq_true rfl⟩) ⟨hx, hb, hml, hown, hts⟩ hE hP hD hS hA [29, 30] rfl rfl rfl rfl 2 29 rfl rfl rfl rfl hl.1 rfl rfl (Nat.le_of_ble_eq_true rfl) dX6_rust_18 (fun H locs hP hD hS => ?_)
    refine lv_if_eq (tgt := 31) hx hb dX6_rust_21 (by decide) (fun hc => ?_) (fun hc => ?_)
    · have hf := if_t hf hc
      refine lv_aload_n hx hb dX6_rust_31 rfl (lv_at hl 1 rfl) ?_
      refine lv_iload_n hx hb dX6_rust_32 rfl (lv_at hl 3 rfl) ?_
      obtain ⟨x105, hg, hf⟩ := o1_s hf
      refine Ct.callV0 (ws' := wV g v0 u0 u1 u2 u3 k0 k1 k2 k3 h0 h1 h2 h3 s0 s1 s2 s3 c0 c1 c2 p0 r0 t0 t1 t2 t3 z0 f0 ea R N B S C P Q K X fd tl ik) (As := [.int a2]) (rest := []) (st1 := [.int x105]) (c_X6_faultOfRains l g v0 u0 u1 u2 u3 k0 k1 k2 k3 h0 h1 h2 h3 s0 s1 s2 s3 c0 c1 c2 p0 r0 t0 t1 t2 t3 z0 f0 ea R N B S C P Q K X fd tl ik a2 hg) (cwV 1 hts gX6_rust_X6_faultOfRains rfl rfl rfl q_X6_faultOfRains ⟨Nat.le_of_ble_eq_true rfl, Nat.le_of_ble_eq_true rfl⟩) ⟨hx, hb, hml, hown, hts⟩ hE hP hD hS hA 6 0 rfl rfl rfl rfl hl.1 rfl rfl (Nat.le_of_ble_eq_true rfl) dX6_rust_33 (fun H locs hP hD hS => ?_)
      refine lv_istore (lv' := [(4, .int x105), (3, .ref (ea 1)), (0, .ref v0), (1, .int a1), (2, .int a2)]) hx hb dX6_rust_36 hl (by decide) rfl (fun ls hl => ?_)
      refine lv_iload hx hb dX6_rust_38 (lv_at hl 0 rfl) ?_
      refine lv_if_eq (tgt := 50) hx hb dX6_rust_40 (by decide) (fun hc => ?_) (fun hc => ?_)
      · have hf := if_t hf hc
        refine lv_aload_n hx hb dX6_rust_50 rfl (lv_at hl 2 rfl) ?_
        refine va_get (D := g.1) (ci := 6) (v := .ref s0) (C := RX6) (T := TX6) (N := 11) hx hb hts i_X6_rust_X6 hown hE.1 hP 0 rfl rfl 3 (by decide) w2 (fun _ h9 => h9) rfl dX6_rust_51 ?_
        refine lv_aload_n hx hb dX6_rust_54 rfl (lv_at hl 2 rfl) ?_
        refine va_get (D := g.1) (ci := 6) (v := .ref u0) (C := RX6) (T := TX6) (N := 11) hx hb hts i_X6_rust_X6 hown hE.1 hP 0 rfl rfl 0 (by decide) w3 (fun _ h9 => h9) rfl dX6_rust_55 ?_
        refine lv_iload_n hx hb dX6_rust_58 rfl (lv_at hl 4 rfl) ?_
        obtain ⟨S106, R107, hg, hf⟩ := o2_s hf
        refine Ct.callV (ws' := wV g v0 u0 u1 u2 u3 k0 k1 k2 k3 h0 h1 h2 h3 s0 s1 s2 s3 c0 c1 c2 p0 r0 t0 t1 t2 t3 z0 f0 ea R N R107 S106 C P Q K X fd tl ik) (As := [.ref u0, .int a2]) (rest := []) (st1 := []) (c_X3_begin l g s0 s1 s2 s3 h0 h1 h2 h3 u0 u1 u2 u3 S B R a2 hg) (cwV 2 hts gX6_rust_X3_begin rfl rfl rfl q_X3_begin ⟨Nat.le_of_ble_eq_true rfl, Nat.le_of_ble_eq_true rfl⟩) ⟨hx, hb, hml, hown, hts⟩ hE hP hD hS hA [13, 14, 15, 16, 9, 10, 11, 12, 1, 2, 3, 4] rfl rfl rfl rfl 3 13 rfl rfl rfl rfl hl.1 rfl rfl (Nat.le_of_ble_eq_true rfl) dX6_rust_59 (fun H locs hP hD hS => ?_)
        refine lv_aload_n hx hb dX6_rust_62 rfl (lv_at hl 2 rfl) ?_
        refine va_get (D := g.1) (ci := 6) (v := .ref s0) (C := RX6) (T := TX6) (N := 11) hx hb hts i_X6_rust_X6 hown hE.1 hP 0 rfl rfl 3 (by decide) w2 (fun _ h9 => h9) rfl dX6_rust_63 ?_
        obtain ⟨x108, hg, hf⟩ := o1_s hf
        refine Ct.callV (ws' := wV g v0 u0 u1 u2 u3 k0 k1 k2 k3 h0 h1 h2 h3 s0 s1 s2 s3 c0 c1 c2 p0 r0 t0 t1 t2 t3 z0 f0 ea R N R107 S106 C P Q K X fd tl ik) (As := []) (rest := []) (st1 := [.int x108]) (c_X3_howMany l g s0 s1 s2 s3 h0 h1 h2 h3 S106 R107 hg) (cwV 0 hts gX6_rust_X3_howMany rfl rfl rfl q_X3_howMany ⟨Nat.le_of_ble_eq_true rfl, Nat.le_of_ble_eq_true rfl⟩) ⟨hx, hb, hml, hown, hts⟩ hE hP hD hS hA [13, 14, 15, 16, 9, 10, 11, 12] rfl rfl rfl rfl 3 13 rfl rfl rfl rfl hl.1 rfl rfl (Nat.le_of_ble_eq_true rfl) dX6_rust_66 (fun H locs hP hD hS => ?_)
        refine lv_istore (lv' := [(5, .int x108), (4, .int x105), (3, .ref (ea 1)), (0, .ref v0), (1, .int a1), (2, .int a2)]) hx hb dX6_rust_69 hl (by decide) rfl (fun ls hl => ?_)
        refine lv_iconst (v := (0 : Int32)) hx hb dX6_rust_71 (by decide) ?_
        refine lv_istore (lv' := [(6, .int (0 : Int32)), (5, .int x108), (4, .int x105), (3, .ref (ea 1)), (0, .ref v0), (1, .int a1), (2, .int a2)]) hx hb dX6_rust_72 hl (by decide) rfl (fun ls hl => ?_)
        refine lv_iconst (v := (0 : Int32)) hx hb dX6_rust_74 (by decide) ?_
        refine lv_istore (lv' := [(7, .int (0 : Int32)), (6, .int (0 : Int32)), (5, .int x108), (4, .int x105), (3, .ref (ea 1)), (0, .ref v0), (1, .int a1), (2, .int a2)]) hx hb dX6_rust_75 hl (by decide) rfl (fun ls hl => ?_)
        refine L77_1 _ _ _ _ _ _ _ _ _ _ _  hf hP hD hS (lv_sub hl [5, 4, 2, 1, 0] rfl) (fun B115 S116 x117 H locs ls hf hP hD hS hl => ?_)
        refine lv_iload hx hb dX6_rust_113 (lv_at hl 0 rfl) ?_
        obtain ⟨rfl, rfl, rfl, rfl⟩ := some_p4 hf
        rw [hQ]; exact Ct.iret hx hb hr hlocks hAe hP hD hS dX6_rust_115
      · have hf := if_f hf hc
        refine lv_aload_n hx hb dX6_rust_43 rfl (lv_at hl 2 rfl) ?_
        refine lv_iload hx hb dX6_rust_44 (lv_at hl 0 rfl) ?_
        obtain ⟨x118, fd119, hg, hf⟩ := o2_s hf
        refine Ct.callV0 (ws' := wV g v0 u0 u1 u2 u3 k0 k1 k2 k3 h0 h1 h2 h3 s0 s1 s2 s3 c0 c1 c2 p0 r0 t0 t1 t2 t3 z0 f0 ea R N B S C P Q K X fd119 tl ik) (As := [.int x105]) (rest := []) (st1 := [.int x118]) (c_X6_finding l g v0 u0 u1 u2 u3 k0 k1 k2 k3 h0 h1 h2 h3 s0 s1 s2 s3 c0 c1 c2 p0 r0 t0 t1 t2 t3 z0 f0 ea R N B S C P Q K X fd tl ik x105 hg) (cwV 1 hts gX6_rust_X6_finding rfl rfl rfl q_X6_finding ⟨Nat.le_of_ble_eq_true rfl, Nat.le_of_ble_eq_true rfl⟩) ⟨hx, hb, hml, hown, hts⟩ hE hP hD hS hA 6 0 rfl rfl rfl rfl hl.1 rfl rfl (Nat.le_of_ble_eq_true rfl) dX6_rust_46 (fun H locs hP hD hS => ?_)
        obtain ⟨rfl, rfl, rfl, rfl⟩ := some_p4 hf
        rw [hQ]; exact Ct.iret hx hb hr hlocks hAe hP hD hS dX6_rust_49
    · have hf := if_f hf hc
      refine lv_aload_n hx hb dX6_rust_24 rfl (lv_at hl 1 rfl) ?_
      refine lv_ldc hx hb hown w5 dX6_rust_25 ?_
      obtain ⟨x120, fd121, hg, hf⟩ := o2_s hf
      refine Ct.callV0 (ws' := wV g v0 u0 u1 u2 u3 k0 k1 k2 k3 h0 h1 h2 h3 s0 s1 s2 s3 c0 c1 c2 p0 r0 t0 t1 t2 t3 z0 f0 ea R N B S C P Q K X fd121 tl ik) (As := [.int (-1000006 : Int32)]) (rest := []) (st1 := [.int x120]) (c_X6_finding l g v0 u0 u1 u2 u3 k0 k1 k2 k3 h0 h1 h2 h3 s0 s1 s2 s3 c0 c1 c2 p0 r0 t0 t1 t2 t3 z0 f0 ea R N B S C P Q K X fd tl ik (-1000006 : Int32) hg) (cwV 1 hts gX6_rust_X6_finding rfl rfl rfl q_X6_finding ⟨Nat.le_of_ble_eq_true rfl, Nat.le_of_ble_eq_true rfl⟩) ⟨hx, hb, hml, hown, hts⟩ hE hP hD hS hA 6 0 rfl rfl rfl rfl hl.1 rfl rfl (Nat.le_of_ble_eq_true rfl) dX6_rust_27 (fun H locs hP hD hS => ?_)
      obtain ⟨rfl, rfl, rfl, rfl⟩ := some_p4 hf
      rw [hQ]; exact Ct.iret hx hb hr hlocks hAe hP hD hS dX6_rust_30
  · refine Ct.callV0 (ws' := wV g v0 u0 u1 u2 u3 k0 k1 k2 k3 h0 h1 h2 h3 s0 s1 s2 s3 c0 c1 c2 p0 r0 t0 t1 t2 t3 z0 f0 ea R N B S C P Q K X fd tl ik) (As := [.int a1]) (rest := []) (st1 := [.ref (ea 2)]) (c_X6_sheetAt l g v0 u0 u1 u2 u3 k0 k1 k2 k3 h0 h1 h2 h3 s0 s1 s2 s3 c0 c1 c2 p0 r0 t0 t1 t2 t3 z0 f0 ea R N B S C P Q K X fd tl ik 2 (by decide) a1 hs) (cwV 1 hts gX6_rust_X6_sheetAt rfl rfl rfl q_X6_sheetAt ⟨Nat.le_of_ble_eq_true rfl, Nat.le_of_ble_eq_true rfl⟩) ⟨hx, hb, hml, hown, hts⟩ hE hP hD hS hA 6 0 rfl rfl rfl rfl hl.1 rfl rfl (Nat.le_of_ble_eq_true rfl) dX6_rust_2 (fun H locs hP hD hS => ?_)
    refine lv_astore_n (lv' := [(3, .ref (ea 2)), (0, .ref v0), (1, .int a1), (2, .int a2)]) hx hb dX6_rust_5 rfl hl (by decide) rfl (fun ls hl => ?_)
    refine lv_aload_n hx hb dX6_rust_6 rfl (lv_at hl 0 rfl) ?_
    refine lv_ifnonnull (tgt := 17) hx hb dX6_rust_7 (by decide) ?_
    refine lv_aload_n hx hb dX6_rust_17 rfl (lv_at hl 0 rfl) ?_
    obtain ⟨x104, hg, hf⟩ := o1_s hf
    refine Ct.callV (ws' := wV g v0 u0 u1 u2 u3 k0 k1 k2 k3 h0 h1 h2 h3 s0 s1 s2 s3 c0 c1 c2 p0 r0 t0 t1 t2 t3 z0 f0 ea R N B S C P Q K X fd tl ik) (As := []) (rest := []) (st1 := [.int x104]) (c_X2_isMissing l g (ea 2) (ea 6) (X 2) hg) (cwV 0 hts gX6_rust_X2_isMissing rfl rfl rfl q_X2_isMissing ⟨Nat.le_of_ble_eq_true rfl, Nat.le_of_ble_eq_true rfl⟩) ⟨hx, hb, hml, hown, hts⟩ hE hP hD hS hA [31, 32] rfl rfl rfl rfl 2 31 rfl rfl rfl rfl hl.1 rfl rfl (Nat.le_of_ble_eq_true rfl) dX6_rust_18 (fun H locs hP hD hS => ?_)
    refine lv_if_eq (tgt := 31) hx hb dX6_rust_21 (by decide) (fun hc => ?_) (fun hc => ?_)
    · have hf := if_t hf hc
      refine lv_aload_n hx hb dX6_rust_31 rfl (lv_at hl 1 rfl) ?_
      refine lv_iload_n hx hb dX6_rust_32 rfl (lv_at hl 3 rfl) ?_
      obtain ⟨x105, hg, hf⟩ := o1_s hf
      refine Ct.callV0 (ws' := wV g v0 u0 u1 u2 u3 k0 k1 k2 k3 h0 h1 h2 h3 s0 s1 s2 s3 c0 c1 c2 p0 r0 t0 t1 t2 t3 z0 f0 ea R N B S C P Q K X fd tl ik) (As := [.int a2]) (rest := []) (st1 := [.int x105]) (c_X6_faultOfRains l g v0 u0 u1 u2 u3 k0 k1 k2 k3 h0 h1 h2 h3 s0 s1 s2 s3 c0 c1 c2 p0 r0 t0 t1 t2 t3 z0 f0 ea R N B S C P Q K X fd tl ik a2 hg) (cwV 1 hts gX6_rust_X6_faultOfRains rfl rfl rfl q_X6_faultOfRains ⟨Nat.le_of_ble_eq_true rfl, Nat.le_of_ble_eq_true rfl⟩) ⟨hx, hb, hml, hown, hts⟩ hE hP hD hS hA 6 0 rfl rfl rfl rfl hl.1 rfl rfl (Nat.le_of_ble_eq_true rfl) dX6_rust_33 (fun H locs hP hD hS => ?_)
      refine lv_istore (lv' := [(4, .int x105), (3, .ref (ea 2)), (0, .ref v0), (1, .int a1), (2, .int a2)]) hx hb dX6_rust_36 hl (by decide) rfl (fun ls hl => ?_)
      refine lv_iload hx hb dX6_rust_38 (lv_at hl 0 rfl) ?_
      refine lv_if_eq (tgt := 50) hx hb dX6_rust_40 (by decide) (fun hc => ?_) (fun hc => ?_)
      · have hf := if_t hf hc
        refine lv_aload_n hx hb dX6_rust_50 rfl (lv_at hl 2 rfl) ?_
        refine va_get (D := g.1) (ci := 6) (v := .ref s0) (C := RX6) (T := TX6) (N := 11) hx hb hts i_X6_rust_X6 hown hE.1 hP 0 rfl rfl 3 (by decide) w2 (fun _ h9 => h9) rfl dX6_rust_51 ?_
        refine lv_aload_n hx hb dX6_rust_54 rfl (lv_at hl 2 rfl) ?_
        refine va_get (D := g.1) (ci := 6) (v := .ref u0) (C := RX6) (T := TX6) (N := 11) hx hb hts i_X6_rust_X6 hown hE.1 hP 0 rfl rfl 0 (by decide) w3 (fun _ h9 => h9) rfl dX6_rust_55 ?_
        refine lv_iload_n hx hb dX6_rust_58 rfl (lv_at hl 4 rfl) ?_
        obtain ⟨S106, R107, hg, hf⟩ := o2_s hf
        refine Ct.callV (ws' := wV g v0 u0 u1 u2 u3 k0 k1 k2 k3 h0 h1 h2 h3 s0 s1 s2 s3 c0 c1 c2 p0 r0 t0 t1 t2 t3 z0 f0 ea R N R107 S106 C P Q K X fd tl ik) (As := [.ref u0, .int a2]) (rest := []) (st1 := []) (c_X3_begin l g s0 s1 s2 s3 h0 h1 h2 h3 u0 u1 u2 u3 S B R a2 hg) (cwV 2 hts gX6_rust_X3_begin rfl rfl rfl q_X3_begin ⟨Nat.le_of_ble_eq_true rfl, Nat.le_of_ble_eq_true rfl⟩) ⟨hx, hb, hml, hown, hts⟩ hE hP hD hS hA [13, 14, 15, 16, 9, 10, 11, 12, 1, 2, 3, 4] rfl rfl rfl rfl 3 13 rfl rfl rfl rfl hl.1 rfl rfl (Nat.le_of_ble_eq_true rfl) dX6_rust_59 (fun H locs hP hD hS => ?_)
        refine lv_aload_n hx hb dX6_rust_62 rfl (lv_at hl 2 rfl) ?_
        refine va_get (D := g.1) (ci := 6) (v := .ref s0) (C := RX6) (T := TX6) (N := 11) hx hb hts i_X6_rust_X6 hown hE.1 hP 0 rfl rfl 3 (by decide) w2 (fun _ h9 => h9) rfl dX6_rust_63 ?_
        obtain ⟨x108, hg, hf⟩ := o1_s hf
        refine Ct.callV (ws' := wV g v0 u0 u1 u2 u3 k0 k1 k2 k3 h0 h1 h2 h3 s0 s1 s2 s3 c0 c1 c2 p0 r0 t0 t1 t2 t3 z0 f0 ea R N R107 S106 C P Q K X fd tl ik) (As := []) (rest := []) (st1 := [.int x108]) (c_X3_howMany l g s0 s1 s2 s3 h0 h1 h2 h3 S106 R107 hg) (cwV 0 hts gX6_rust_X3_howMany rfl rfl rfl q_X3_howMany ⟨Nat.le_of_ble_eq_true rfl, Nat.le_of_ble_eq_true rfl⟩) ⟨hx, hb, hml, hown, hts⟩ hE hP hD hS hA [13, 14, 15, 16, 9, 10, 11, 12] rfl rfl rfl rfl 3 13 rfl rfl rfl rfl hl.1 rfl rfl (Nat.le_of_ble_eq_true rfl) dX6_rust_66 (fun H locs hP hD hS => ?_)
        refine lv_istore (lv' := [(5, .int x108), (4, .int x105), (3, .ref (ea 2)), (0, .ref v0), (1, .int a1), (2, .int a2)]) hx hb dX6_rust_69 hl (by decide) rfl (fun ls hl => ?_)
        refine lv_iconst (v := (0 : Int32)) hx hb dX6_rust_71 (by decide) ?_
        refine lv_istore (lv' := [(6, .int (0 : Int32)), (5, .int x108), (4, .int x105), (3, .ref (ea 2)), (0, .ref v0), (1, .int a1), (2, .int a2)]) hx hb dX6_rust_72 hl (by decide) rfl (fun ls hl => ?_)
        refine lv_iconst (v := (0 : Int32)) hx hb dX6_rust_74 (by decide) ?_
        refine lv_istore (lv' := [(7, .int (0 : Int32)), (6, .int (0 : Int32)), (5, .int x108), (4, .int x105), (3, .ref (ea 2)), (0, .ref v0), (1, .int a1), (2, .int a2)]) hx hb dX6_rust_75 hl (by decide) rfl (fun ls hl => ?_)
        refine L77_2 _ _ _ _ _ _ _ _ _ _ _  hf hP hD hS (lv_sub hl [5, 4, 2, 1, 0] rfl) (fun B115 S116 x117 H locs ls hf hP hD hS hl => ?_)
        refine lv_iload hx hb dX6_rust_113 (lv_at hl 0 rfl) ?_
        obtain ⟨rfl, rfl, rfl, rfl⟩ := some_p4 hf
        rw [hQ]; exact Ct.iret hx hb hr hlocks hAe hP hD hS dX6_rust_115
      · have hf := if_f hf hc
        refine lv_aload_n hx hb dX6_rust_43 rfl (lv_at hl 2 rfl) ?_
        refine lv_iload hx hb dX6_rust_44 (lv_at hl 0 rfl) ?_
        obtain ⟨x118, fd119, hg, hf⟩ := o2_s hf
        refine Ct.callV0 (ws' := wV g v0 u0 u1 u2 u3 k0 k1 k2 k3 h0 h1 h2 h3 s0 s1 s2 s3 c0 c1 c2 p0 r0 t0 t1 t2 t3 z0 f0 ea R N B S C P Q K X fd119 tl ik) (As := [.int x105]) (rest := []) (st1 := [.int x118]) (c_X6_finding l g v0 u0 u1 u2 u3 k0 k1 k2 k3 h0 h1 h2 h3 s0 s1 s2 s3 c0 c1 c2 p0 r0 t0 t1 t2 t3 z0 f0 ea R N B S C P Q K X fd tl ik x105 hg) (cwV 1 hts gX6_rust_X6_finding rfl rfl rfl q_X6_finding ⟨Nat.le_of_ble_eq_true rfl, Nat.le_of_ble_eq_true rfl⟩) ⟨hx, hb, hml, hown, hts⟩ hE hP hD hS hA 6 0 rfl rfl rfl rfl hl.1 rfl rfl (Nat.le_of_ble_eq_true rfl) dX6_rust_46 (fun H locs hP hD hS => ?_)
        obtain ⟨rfl, rfl, rfl, rfl⟩ := some_p4 hf
        rw [hQ]; exact Ct.iret hx hb hr hlocks hAe hP hD hS dX6_rust_49
    · have hf := if_f hf hc
      refine lv_aload_n hx hb dX6_rust_24 rfl (lv_at hl 1 rfl) ?_
      refine lv_ldc hx hb hown w5 dX6_rust_25 ?_
      obtain ⟨x120, fd121, hg, hf⟩ := o2_s hf
      refine Ct.callV0 (ws' := wV g v0 u0 u1 u2 u3 k0 k1 k2 k3 h0 h1 h2 h3 s0 s1 s2 s3 c0 c1 c2 p0 r0 t0 t1 t2 t3 z0 f0 ea R N B S C P Q K X fd121 tl ik) (As := [.int (-1000006 : Int32)]) (rest := []) (st1 := [.int x120]) (c_X6_finding l g v0 u0 u1 u2 u3 k0 k1 k2 k3 h0 h1 h2 h3 s0 s1 s2 s3 c0 c1 c2 p0 r0 t0 t1 t2 t3 z0 f0 ea R N B S C P Q K X fd tl ik (-1000006 : Int32) hg) (cwV 1 hts gX6_rust_X6_finding rfl rfl rfl q_X6_finding ⟨Nat.le_of_ble_eq_true rfl, Nat.le_of_ble_eq_true rfl⟩) ⟨hx, hb, hml, hown, hts⟩ hE hP hD hS hA 6 0 rfl rfl rfl rfl hl.1 rfl rfl (Nat.le_of_ble_eq_true rfl) dX6_rust_27 (fun H locs hP hD hS => ?_)
      obtain ⟨rfl, rfl, rfl, rfl⟩ := some_p4 hf
      rw [hQ]; exact Ct.iret hx hb hr hlocks hAe hP hD hS dX6_rust_30
  · refine Ct.callV0 (ws' := wV g v0 u0 u1 u2 u3 k0 k1 k2 k3 h0 h1 h2 h3 s0 s1 s2 s3 c0 c1 c2 p0 r0 t0 t1 t2 t3 z0 f0 ea R N B S C P Q K X fd tl ik) (As := [.int a1]) (rest := []) (st1 := [.ref (ea 3)]) (c_X6_sheetAt l g v0 u0 u1 u2 u3 k0 k1 k2 k3 h0 h1 h2 h3 s0 s1 s2 s3 c0 c1 c2 p0 r0 t0 t1 t2 t3 z0 f0 ea R N B S C P Q K X fd tl ik 3 (by decide) a1 hs) (cwV 1 hts gX6_rust_X6_sheetAt rfl rfl rfl q_X6_sheetAt ⟨Nat.le_of_ble_eq_true rfl, Nat.le_of_ble_eq_true rfl⟩) ⟨hx, hb, hml, hown, hts⟩ hE hP hD hS hA 6 0 rfl rfl rfl rfl hl.1 rfl rfl (Nat.le_of_ble_eq_true rfl) dX6_rust_2 (fun H locs hP hD hS => ?_)
    refine lv_astore_n (lv' := [(3, .ref (ea 3)), (0, .ref v0), (1, .int a1), (2, .int a2)]) hx hb dX6_rust_5 rfl hl (by decide) rfl (fun ls hl => ?_)
    refine lv_aload_n hx hb dX6_rust_6 rfl (lv_at hl 0 rfl) ?_
    refine lv_ifnonnull (tgt := 17) hx hb dX6_rust_7 (by decide) ?_
    refine lv_aload_n hx hb dX6_rust_17 rfl (lv_at hl 0 rfl) ?_
    obtain ⟨x104, hg, hf⟩ := o1_s hf
    refine Ct.callV (ws' := wV g v0 u0 u1 u2 u3 k0 k1 k2 k3 h0 h1 h2 h3 s0 s1 s2 s3 c0 c1 c2 p0 r0 t0 t1 t2 t3 z0 f0 ea R N B S C P Q K X fd tl ik) (As := []) (rest := []) (st1 := [.int x104]) (c_X2_isMissing l g (ea 3) (ea 7) (X 3) hg) (cwV 0 hts gX6_rust_X2_isMissing rfl rfl rfl q_X2_isMissing ⟨Nat.le_of_ble_eq_true rfl, Nat.le_of_ble_eq_true rfl⟩) ⟨hx, hb, hml, hown, hts⟩ hE hP hD hS hA [33, 34] rfl rfl rfl rfl 2 33 rfl rfl rfl rfl hl.1 rfl rfl (Nat.le_of_ble_eq_true rfl) dX6_rust_18 (fun H locs hP hD hS => ?_)
    refine lv_if_eq (tgt := 31) hx hb dX6_rust_21 (by decide) (fun hc => ?_) (fun hc => ?_)
    · have hf := if_t hf hc
      refine lv_aload_n hx hb dX6_rust_31 rfl (lv_at hl 1 rfl) ?_
      refine lv_iload_n hx hb dX6_rust_32 rfl (lv_at hl 3 rfl) ?_
      obtain ⟨x105, hg, hf⟩ := o1_s hf
      refine Ct.callV0 (ws' := wV g v0 u0 u1 u2 u3 k0 k1 k2 k3 h0 h1 h2 h3 s0 s1 s2 s3 c0 c1 c2 p0 r0 t0 t1 t2 t3 z0 f0 ea R N B S C P Q K X fd tl ik) (As := [.int a2]) (rest := []) (st1 := [.int x105]) (c_X6_faultOfRains l g v0 u0 u1 u2 u3 k0 k1 k2 k3 h0 h1 h2 h3 s0 s1 s2 s3 c0 c1 c2 p0 r0 t0 t1 t2 t3 z0 f0 ea R N B S C P Q K X fd tl ik a2 hg) (cwV 1 hts gX6_rust_X6_faultOfRains rfl rfl rfl q_X6_faultOfRains ⟨Nat.le_of_ble_eq_true rfl, Nat.le_of_ble_eq_true rfl⟩) ⟨hx, hb, hml, hown, hts⟩ hE hP hD hS hA 6 0 rfl rfl rfl rfl hl.1 rfl rfl (Nat.le_of_ble_eq_true rfl) dX6_rust_33 (fun H locs hP hD hS => ?_)
      refine lv_istore (lv' := [(4, .int x105), (3, .ref (ea 3)), (0, .ref v0), (1, .int a1), (2, .int a2)]) hx hb dX6_rust_36 hl (by decide) rfl (fun ls hl => ?_)
      refine lv_iload hx hb dX6_rust_38 (lv_at hl 0 rfl) ?_
      refine lv_if_eq (tgt := 50) hx hb dX6_rust_40 (by decide) (fun hc => ?_) (fun hc => ?_)
      · have hf := if_t hf hc
        refine lv_aload_n hx hb dX6_rust_50 rfl (lv_at hl 2 rfl) ?_
        refine va_get (D := g.1) (ci := 6) (v := .ref s0) (C := RX6) (T := TX6) (N := 11) hx hb hts i_X6_rust_X6 hown hE.1 hP 0 rfl rfl 3 (by decide) w2 (fun _ h9 => h9) rfl dX6_rust_51 ?_
        refine lv_aload_n hx hb dX6_rust_54 rfl (lv_at hl 2 rfl) ?_
        refine va_get (D := g.1) (ci := 6) (v := .ref u0) (C := RX6) (T := TX6) (N := 11) hx hb hts i_X6_rust_X6 hown hE.1 hP 0 rfl rfl 0 (by decide) w3 (fun _ h9 => h9) rfl dX6_rust_55 ?_
        refine lv_iload_n hx hb dX6_rust_58 rfl (lv_at hl 4 rfl) ?_
        obtain ⟨S106, R107, hg, hf⟩ := o2_s hf
        refine Ct.callV (ws' := wV g v0 u0 u1 u2 u3 k0 k1 k2 k3 h0 h1 h2 h3 s0 s1 s2 s3 c0 c1 c2 p0 r0 t0 t1 t2 t3 z0 f0 ea R N R107 S106 C P Q K X fd tl ik) (As := [.ref u0, .int a2]) (rest := []) (st1 := []) (c_X3_begin l g s0 s1 s2 s3 h0 h1 h2 h3 u0 u1 u2 u3 S B R a2 hg) (cwV 2 hts gX6_rust_X3_begin rfl rfl rfl q_X3_begin ⟨Nat.le_of_ble_eq_true rfl, Nat.le_of_ble_eq_true rfl⟩) ⟨hx, hb, hml, hown, hts⟩ hE hP hD hS hA [13, 14, 15, 16, 9, 10, 11, 12, 1, 2, 3, 4] rfl rfl rfl rfl 3 13 rfl rfl rfl rfl hl.1 rfl rfl (Nat.le_of_ble_eq_true rfl) dX6_rust_59 (fun H locs hP hD hS => ?_)
        refine lv_aload_n hx hb dX6_rust_62 rfl (lv_at hl 2 rfl) ?_
        refine va_get (D := g.1) (ci := 6) (v := .ref s0) (C := RX6) (T := TX6) (N := 11) hx hb hts i_X6_rust_X6 hown hE.1 hP 0 rfl rfl 3 (by decide) w2 (fun _ h9 => h9) rfl dX6_rust_63 ?_
        obtain ⟨x108, hg, hf⟩ := o1_s hf
        refine Ct.callV (ws' := wV g v0 u0 u1 u2 u3 k0 k1 k2 k3 h0 h1 h2 h3 s0 s1 s2 s3 c0 c1 c2 p0 r0 t0 t1 t2 t3 z0 f0 ea R N R107 S106 C P Q K X fd tl ik) (As := []) (rest := []) (st1 := [.int x108]) (c_X3_howMany l g s0 s1 s2 s3 h0 h1 h2 h3 S106 R107 hg) (cwV 0 hts gX6_rust_X3_howMany rfl rfl rfl q_X3_howMany ⟨Nat.le_of_ble_eq_true rfl, Nat.le_of_ble_eq_true rfl⟩) ⟨hx, hb, hml, hown, hts⟩ hE hP hD hS hA [13, 14, 15, 16, 9, 10, 11, 12] rfl rfl rfl rfl 3 13 rfl rfl rfl rfl hl.1 rfl rfl (Nat.le_of_ble_eq_true rfl) dX6_rust_66 (fun H locs hP hD hS => ?_)
        refine lv_istore (lv' := [(5, .int x108), (4, .int x105), (3, .ref (ea 3)), (0, .ref v0), (1, .int a1), (2, .int a2)]) hx hb dX6_rust_69 hl (by decide) rfl (fun ls hl => ?_)
        refine lv_iconst (v := (0 : Int32)) hx hb dX6_rust_71 (by decide) ?_
        refine lv_istore (lv' := [(6, .int (0 : Int32)), (5, .int x108), (4, .int x105), (3, .ref (ea 3)), (0, .ref v0), (1, .int a1), (2, .int a2)]) hx hb dX6_rust_72 hl (by decide) rfl (fun ls hl => ?_)
        refine lv_iconst (v := (0 : Int32)) hx hb dX6_rust_74 (by decide) ?_
        refine lv_istore (lv' := [(7, .int (0 : Int32)), (6, .int (0 : Int32)), (5, .int x108), (4, .int x105), (3, .ref (ea 3)), (0, .ref v0), (1, .int a1), (2, .int a2)]) hx hb dX6_rust_75 hl (by decide) rfl (fun ls hl => ?_)
        refine L77_3 _ _ _ _ _ _ _ _ _ _ _  hf hP hD hS (lv_sub hl [5, 4, 2, 1, 0] rfl) (fun B115 S116 x117 H locs ls hf hP hD hS hl => ?_)
        refine lv_iload hx hb dX6_rust_113 (lv_at hl 0 rfl) ?_
        obtain ⟨rfl, rfl, rfl, rfl⟩ := some_p4 hf
        rw [hQ]; exact Ct.iret hx hb hr hlocks hAe hP hD hS dX6_rust_115
      · have hf := if_f hf hc
        refine lv_aload_n hx hb dX6_rust_43 rfl (lv_at hl 2 rfl) ?_
        refine lv_iload hx hb dX6_rust_44 (lv_at hl 0 rfl) ?_
        obtain ⟨x118, fd119, hg, hf⟩ := o2_s hf
        refine Ct.callV0 (ws' := wV g v0 u0 u1 u2 u3 k0 k1 k2 k3 h0 h1 h2 h3 s0 s1 s2 s3 c0 c1 c2 p0 r0 t0 t1 t2 t3 z0 f0 ea R N B S C P Q K X fd119 tl ik) (As := [.int x105]) (rest := []) (st1 := [.int x118]) (c_X6_finding l g v0 u0 u1 u2 u3 k0 k1 k2 k3 h0 h1 h2 h3 s0 s1 s2 s3 c0 c1 c2 p0 r0 t0 t1 t2 t3 z0 f0 ea R N B S C P Q K X fd tl ik x105 hg) (cwV 1 hts gX6_rust_X6_finding rfl rfl rfl q_X6_finding ⟨Nat.le_of_ble_eq_true rfl, Nat.le_of_ble_eq_true rfl⟩) ⟨hx, hb, hml, hown, hts⟩ hE hP hD hS hA 6 0 rfl rfl rfl rfl hl.1 rfl rfl (Nat.le_of_ble_eq_true rfl) dX6_rust_46 (fun H locs hP hD hS => ?_)
        obtain ⟨rfl, rfl, rfl, rfl⟩ := some_p4 hf
        rw [hQ]; exact Ct.iret hx hb hr hlocks hAe hP hD hS dX6_rust_49
    · have hf := if_f hf hc
      refine lv_aload_n hx hb dX6_rust_24 rfl (lv_at hl 1 rfl) ?_
      refine lv_ldc hx hb hown w5 dX6_rust_25 ?_
      obtain ⟨x120, fd121, hg, hf⟩ := o2_s hf
      refine Ct.callV0 (ws' := wV g v0 u0 u1 u2 u3 k0 k1 k2 k3 h0 h1 h2 h3 s0 s1 s2 s3 c0 c1 c2 p0 r0 t0 t1 t2 t3 z0 f0 ea R N B S C P Q K X fd121 tl ik) (As := [.int (-1000006 : Int32)]) (rest := []) (st1 := [.int x120]) (c_X6_finding l g v0 u0 u1 u2 u3 k0 k1 k2 k3 h0 h1 h2 h3 s0 s1 s2 s3 c0 c1 c2 p0 r0 t0 t1 t2 t3 z0 f0 ea R N B S C P Q K X fd tl ik (-1000006 : Int32) hg) (cwV 1 hts gX6_rust_X6_finding rfl rfl rfl q_X6_finding ⟨Nat.le_of_ble_eq_true rfl, Nat.le_of_ble_eq_true rfl⟩) ⟨hx, hb, hml, hown, hts⟩ hE hP hD hS hA 6 0 rfl rfl rfl rfl hl.1 rfl rfl (Nat.le_of_ble_eq_true rfl) dX6_rust_27 (fun H locs hP hD hS => ?_)
      obtain ⟨rfl, rfl, rfl, rfl⟩ := some_p4 hf
      rw [hQ]; exact Ct.iret hx hb hr hlocks hAe hP hD hS dX6_rust_30
