def fX6_when_L66 (fd : Nat → Int32) (x1 : Int32) (x2 : Int32) (x3 : Int32) (kx : Rf → Option (Int32 × Rf × (Nat → Int32))) : Nat → Rf → Int32 → Option (Int32 × Rf × (Nat → Int32))
  | 0, _, _ => none
  | k + 1, B, x4 => if x3 < x4 then (kx B) else (o1 (fX1_passHour B x1 x2) (fun R110 => o1 (fX1_isOpen R110) (fun x111 => if x111 = 0 then (fX6_when_L66 fd x1 x2 x3 kx k R110 (x4 + (1 : Int32))) else (some (x4, R110, fd)))))
def fX6_when (R : Rf) (B : Rf) (fd : Nat → Int32) (a1 : Int32) (a2 : Int32) (a3 : Int32) : Option (Int32 × Rf × (Nat → Int32)) := o1 (fX6_isRain a1 a2) (fun x101 => if x101 = 0 then (o2 (fX6_finding fd (-1000001 : Int32)) (fun x102 fd103 => some (x102, B, fd103))) else (o1 (fX6_isWithin a3 (1 : Int32) (100 : Int32)) (fun x104 => if x104 = 0 then (o2 (fX6_finding fd (-1000001 : Int32)) (fun x117 fd118 => some (x117, B, fd118))) else (o1 (fX6_isTooLate R a3) (fun x105 => if x105 = 0 then (o1 (fX1_become B R) (fun R106 => o1 (fX1_isOpen R106) (fun x107 => if x107 = 0 then (fX6_when_L66 fd a1 a2 a3 (fun B112 => o2 (fX6_finding fd (-1000004 : Int32)) (fun x113 fd114 => some (x113, B112, fd114))) fu R106 (1 : Int32)) else (some ((0 : Int32), R106, fd))))) else (o2 (fX6_finding fd (-1000005 : Int32)) (fun x115 fd116 => some (x115, B, fd116))))))))
theorem q_X6_when : yX6_when.cls = RX6 ∧ yX6_when.cls ≠ "java/lang/invoke/MethodHandle" ∧ yX6_when.cls ≠ "java/lang/invoke/VarHandle" ∧ (parseMethodDescriptor yX6_when.desc).map (fun d => d.parameters.length) = some 3 := by decide +kernel
theorem i_X6_when_X6 : ∀ w ∈ u_ws RX6 TX6 11, w ∈ wsX6_when := fun _ h => List.mem_cons_of_mem _ (List.mem_append_left _ (List.mem_append_right _ (h)))
set_option maxHeartbeats 4000000 in
set_option maxRecDepth 100000 in
theorem c_X6_when (l : Launch) (g : gG) (v0 u0 u1 u2 u3 k0 k1 k2 k3 h0 h1 h2 h3 s0 s1 s2 s3 c0 c1 c2 p0 r0 t0 t1 t2 t3 z0 f0 : Nat) (ea : Nat → Nat) (R : Rf) (N : Rf) (B : Rf) (S : Sv) (C : Ca) (P : Nat → Int32) (Q : Tr) (K : Tk) (X : F4) (fd : Nat → Int32) (tl : Int32) (ik : Int32) (a1 : Int32) (a2 : Int32) (a3 : Int32) {r : Int32} {B' : Rf} {fd' : Nat → Int32} (hf : fX6_when R B fd a1 a2 a3 = some (r, B', fd')) : Ct l yX6_when wsX6_when (rmm 5 112) g (wV g v0 u0 u1 u2 u3 k0 k1 k2 k3 h0 h1 h2 h3 s0 s1 s2 s3 c0 c1 c2 p0 r0 t0 t1 t2 t3 z0 f0 ea R N B S C P Q K X fd tl ik) (wV g v0 u0 u1 u2 u3 k0 k1 k2 k3 h0 h1 h2 h3 s0 s1 s2 s3 c0 c1 c2 p0 r0 t0 t1 t2 t3 z0 f0 ea R N (B') S C P Q K X (fd') tl ik) [.ref v0, .int a1, .int a2, .int a3] (some (.int r)) := by
  refine Ct.mk (by decide) rfl (Nat.le_of_ble_eq_true rfl) ?_
  intro p e s m args below meth c A ls hx hb hr hml hts hown hlocks hA hE hP hD hS hl hAe
  obtain ⟨Qx, hQ⟩ : ∃ Qx : State → Prop, Qx = MQ below (QcG g (wV g v0 u0 u1 u2 u3 k0 k1 k2 k3 h0 h1 h2 h3 s0 s1 s2 s3 c0 c1 c2 p0 r0 t0 t1 t2 t3 z0 f0 ea R N B S C P Q K X fd tl ik) (wV g v0 u0 u1 u2 u3 k0 k1 k2 k3 h0 h1 h2 h3 s0 s1 s2 s3 c0 c1 c2 p0 r0 t0 t1 t2 t3 z0 f0 ea R N (B') S C P Q K X (fd') tl ik) (some (.int r)) s.heap.size) args s 0 0 A := ⟨_, rfl⟩
  rw [← hQ]
  have hown : s.vm.findClass RX6 = some m.cls := hown
  have hl : lv_has ls 5 [(0, .ref v0), (1, .int a1), (2, .int a2), (3, .int a3)] := hl
  have w1 := hts (.constant RX6 73 (-1000001)) (List.mem_of_getElem? (i := 1) rfl)
  have w2 := hts (.fieldLink RX6 19 "RainVault" "trial" "LRainVault$Roof;") (List.mem_of_getElem? (i := 3) rfl)
  have w3 := hts (.fieldLink RX6 10 "RainVault" "roof" "LRainVault$Roof;") (List.mem_of_getElem? (i := 4) rfl)
  have w4 := hts (.constant RX6 164 (-1000004)) (List.mem_of_getElem? (i := 5) rfl)
  have w5 := hts (.constant RX6 143 (-1000005)) (List.mem_of_getElem? (i := 2) rfl)
  have L66 : ∀ (fd : Nat → Int32) (x1 : Int32) (x2 : Int32) (x3 : Int32) (kx : Rf → Option (Int32 × Rf × (Nat → Int32))) (k : Nat) (B : Rf) (x4 : Int32) (H : Heap) (locs : List Loc) (ls : Array Slot), fX6_when_L66 fd x1 x2 x3 kx k B x4 = some (r, B', fd') → va_P g.1 vwK (wV g v0 u0 u1 u2 u3 k0 k1 k2 k3 h0 h1 h2 h3 s0 s1 s2 s3 c0 c1 c2 p0 r0 t0 t1 t2 t3 z0 f0 ea R N B S C P Q K X fd tl ik) H → va_D A (wV g v0 u0 u1 u2 u3 k0 k1 k2 k3 h0 h1 h2 h3 s0 s1 s2 s3 c0 c1 c2 p0 r0 t0 t1 t2 t3 z0 f0 ea R N B S C P Q K X fd tl ik) → va_S A s.heap H locs → lv_has ls 5 [(0, .ref v0), (1, .int x1), (2, .int x2), (3, .int x3), (4, .int x4)] → (∀ (B : Rf) (H : Heap) (locs : List Loc) (ls : Array Slot), kx B = some (r, B', fd') → va_P g.1 vwK (wV g v0 u0 u1 u2 u3 k0 k1 k2 k3 h0 h1 h2 h3 s0 s1 s2 s3 c0 c1 c2 p0 r0 t0 t1 t2 t3 z0 f0 ea R N B S C P Q K X fd tl ik) H → va_D A (wV g v0 u0 u1 u2 u3 k0 k1 k2 k3 h0 h1 h2 h3 s0 s1 s2 s3 c0 c1 c2 p0 r0 t0 t1 t2 t3 z0 f0 ea R N B S C P Q K X fd tl ik) → va_S A s.heap H locs → lv_has ls 5 [(0, .ref v0)] → W p l e (rmm 5 112) s m args below meth c H locs 0 0 Qx (F0 m 100 ls [])) → W p l e (rmm 5 112) s m args below meth c H locs 0 0 Qx (F0 m 66 ls []) := by
    intro fd x1 x2 x3 kx k
    induction k with
    | zero => intro B x4 H locs ls hf; exact nomatch (show (none : Option (Int32 × Rf × (Nat → Int32))) = some _ from hf)
    | succ k ih =>
      intro B x4 H locs ls hf hP hD hS hl hk
      rw [fX6_when_L66] at hf
      refine lv_iload hx hb dX6_when_66 (lv_at hl 4 rfl) ?_
      refine lv_iload_n hx hb dX6_when_68 rfl (lv_at hl 3 rfl) ?_
      refine lv_icmp_gt (tgt := 100) hx hb dX6_when_69 (by decide) (fun hc => ?_) (fun hc => ?_)
      · have hf := if_t hf hc
        exact hk _ _ _ _  hf hP hD hS (lv_sub hl [0] rfl)
      · have hf := if_f hf hc
        refine lv_aload_n hx hb dX6_when_72 rfl (lv_at hl 0 rfl) ?_
        refine va_get (D := g.1) (ci := 6) (v := .ref h0) (C := RX6) (T := TX6) (N := 11) hx hb hts i_X6_when_X6 hown hE.1 hP 0 rfl rfl 2 (by decide) w2 (fun _ h9 => h9) rfl dX6_when_73 ?_
        refine lv_iload_n hx hb dX6_when_76 rfl (lv_at hl 1 rfl) ?_
        refine lv_iload_n hx hb dX6_when_77 rfl (lv_at hl 2 rfl) ?_
        obtain ⟨R110, hg, hf⟩ := o1_s hf
        refine Ct.callV (ws' := wV g v0 u0 u1 u2 u3 k0 k1 k2 k3 h0 h1 h2 h3 s0 s1 s2 s3 c0 c1 c2 p0 r0 t0 t1 t2 t3 z0 f0 ea R N R110 S C P Q K X fd tl ik) (As := [.int x1, .int x2]) (rest := []) (st1 := []) (c_X1_passHour l g h0 h1 h2 h3 B x1 x2 hg) (cwV 2 hts gX6_when_X1_passHour rfl rfl rfl q_X1_passHour ⟨Nat.le_of_ble_eq_true rfl, Nat.le_of_ble_eq_true rfl⟩) ⟨hx, hb, hml, hown, hts⟩ hE hP hD hS hA [9, 10, 11, 12] rfl rfl rfl rfl 1 9 rfl rfl rfl rfl hl.1 rfl rfl (Nat.le_of_ble_eq_true rfl) dX6_when_78 (fun H locs hP hD hS => ?_)
        refine lv_aload_n hx hb dX6_when_81 rfl (lv_at hl 0 rfl) ?_
        refine va_get (D := g.1) (ci := 6) (v := .ref h0) (C := RX6) (T := TX6) (N := 11) hx hb hts i_X6_when_X6 hown hE.1 hP 0 rfl rfl 2 (by decide) w2 (fun _ h9 => h9) rfl dX6_when_82 ?_
        obtain ⟨x111, hg, hf⟩ := o1_s hf
        refine Ct.callV (ws' := wV g v0 u0 u1 u2 u3 k0 k1 k2 k3 h0 h1 h2 h3 s0 s1 s2 s3 c0 c1 c2 p0 r0 t0 t1 t2 t3 z0 f0 ea R N R110 S C P Q K X fd tl ik) (As := []) (rest := []) (st1 := [.int x111]) (c_X1_isOpen l g h0 h1 h2 h3 R110 hg) (cwV 0 hts gX6_when_X1_isOpen rfl rfl rfl q_X1_isOpen ⟨Nat.le_of_ble_eq_true rfl, Nat.le_of_ble_eq_true rfl⟩) ⟨hx, hb, hml, hown, hts⟩ hE hP hD hS hA [9, 10, 11, 12] rfl rfl rfl rfl 1 9 rfl rfl rfl rfl hl.1 rfl rfl (Nat.le_of_ble_eq_true rfl) dX6_when_85 (fun H locs hP hD hS => ?_)
        refine lv_if_eq (tgt := 94) hx hb dX6_when_88 (by decide) (fun hc => ?_) (fun hc => ?_)
        · have hf := if_t hf hc
          refine lv_iinc (v := (x4 + (1 : Int32))) (lv' := [(4, .int (x4 + (1 : Int32))), (0, .ref v0), (1, .int x1), (2, .int x2), (3, .int x3)]) hx hb dX6_when_94 hl (k := 4) rfl rfl (by decide) rfl (fun ls hl => ?_)
          refine lv_goto (tgt := 66) hx hb dX6_when_97 (by decide) ?_
          exact ih _ _ _ _ _  hf hP hD hS (lv_sub hl [1, 2, 3, 4, 0] rfl) hk
        · have hf := if_f hf hc
          refine lv_iload hx hb dX6_when_91 (lv_at hl 4 rfl) ?_
          obtain ⟨rfl, rfl, rfl⟩ := some_p3 hf
          rw [hQ]; exact Ct.iret hx hb hr hlocks hAe hP hD hS dX6_when_93
  unfold fX6_when at hf
  refine lv_iload_n hx hb dX6_when_0 rfl (lv_at hl 1 rfl) ?_
  refine lv_iload_n hx hb dX6_when_1 rfl (lv_at hl 2 rfl) ?_
  obtain ⟨x101, hg, hf⟩ := o1_s hf
  refine Ct.callS (ws' := wV g v0 u0 u1 u2 u3 k0 k1 k2 k3 h0 h1 h2 h3 s0 s1 s2 s3 c0 c1 c2 p0 r0 t0 t1 t2 t3 z0 f0 ea R N B S C P Q K X fd tl ik) (As := [.int a1, .int a2]) (rest := []) (st1 := [.int x101]) (c_X6_isRain l g a1 a2 hg) (va_cwS 2 hts gX6_when_X6_isRain rfl rfl rfl q_X6_isRain.2 ⟨Nat.le_of_ble_eq_true rfl, Nat.le_of_ble_eq_true rfl⟩) ⟨hx, hb, hml, hown, hts⟩ hE hP hD hS hA [] rfl rfl rfl rfl rfl hl.1 rfl rfl (Nat.le_of_ble_eq_true rfl) dX6_when_2 (fun H locs hP hD hS => ?_)
  refine lv_if_eq (tgt := 18) hx hb dX6_when_5 (by decide) (fun hc => ?_) (fun hc => ?_)
  · have hf := if_t hf hc
    refine lv_aload_n hx hb dX6_when_18 rfl (lv_at hl 0 rfl) ?_
    refine lv_ldc hx hb hown w1 dX6_when_19 ?_
    obtain ⟨x102, fd103, hg, hf⟩ := o2_s hf
    refine Ct.callV0 (ws' := wV g v0 u0 u1 u2 u3 k0 k1 k2 k3 h0 h1 h2 h3 s0 s1 s2 s3 c0 c1 c2 p0 r0 t0 t1 t2 t3 z0 f0 ea R N B S C P Q K X fd103 tl ik) (As := [.int (-1000001 : Int32)]) (rest := []) (st1 := [.int x102]) (c_X6_finding l g v0 u0 u1 u2 u3 k0 k1 k2 k3 h0 h1 h2 h3 s0 s1 s2 s3 c0 c1 c2 p0 r0 t0 t1 t2 t3 z0 f0 ea R N B S C P Q K X fd tl ik (-1000001 : Int32) hg) (cwV 1 hts gX6_when_X6_finding rfl rfl rfl q_X6_finding ⟨Nat.le_of_ble_eq_true rfl, Nat.le_of_ble_eq_true rfl⟩) ⟨hx, hb, hml, hown, hts⟩ hE hP hD hS hA 6 0 rfl rfl rfl rfl hl.1 rfl rfl (Nat.le_of_ble_eq_true rfl) dX6_when_21 (fun H locs hP hD hS => ?_)
    obtain ⟨rfl, rfl, rfl⟩ := some_p3 hf
    rw [hQ]; exact Ct.iret hx hb hr hlocks hAe hP hD hS dX6_when_24
  · have hf := if_f hf hc
    refine lv_iload_n hx hb dX6_when_8 rfl (lv_at hl 3 rfl) ?_
    refine lv_iconst (v := (1 : Int32)) hx hb dX6_when_9 (by decide) ?_
    refine lv_bipush (v := (100 : Int32)) hx hb dX6_when_10 (by decide) ?_
    obtain ⟨x104, hg, hf⟩ := o1_s hf
    refine Ct.callS (ws' := wV g v0 u0 u1 u2 u3 k0 k1 k2 k3 h0 h1 h2 h3 s0 s1 s2 s3 c0 c1 c2 p0 r0 t0 t1 t2 t3 z0 f0 ea R N B S C P Q K X fd tl ik) (As := [.int a3, .int (1 : Int32), .int (100 : Int32)]) (rest := []) (st1 := [.int x104]) (c_X6_isWithin l g a3 (1 : Int32) (100 : Int32) hg) (va_cwS 3 hts gX6_when_X6_isWithin rfl rfl rfl q_X6_isWithin.2 ⟨Nat.le_of_ble_eq_true rfl, Nat.le_of_ble_eq_true rfl⟩) ⟨hx, hb, hml, hown, hts⟩ hE hP hD hS hA [] rfl rfl rfl rfl rfl hl.1 rfl rfl (Nat.le_of_ble_eq_true rfl) dX6_when_12 (fun H locs hP hD hS => ?_)
    refine lv_if_ne (tgt := 25) hx hb dX6_when_15 (by decide) (fun hc => ?_) (fun hc => ?_)
    · have hf := if_f hf hc
      refine lv_aload_n hx hb dX6_when_25 rfl (lv_at hl 0 rfl) ?_
      refine lv_iload_n hx hb dX6_when_26 rfl (lv_at hl 3 rfl) ?_
      obtain ⟨x105, hg, hf⟩ := o1_s hf
      refine Ct.callV0 (ws' := wV g v0 u0 u1 u2 u3 k0 k1 k2 k3 h0 h1 h2 h3 s0 s1 s2 s3 c0 c1 c2 p0 r0 t0 t1 t2 t3 z0 f0 ea R N B S C P Q K X fd tl ik) (As := [.int a3]) (rest := []) (st1 := [.int x105]) (c_X6_isTooLate l g v0 u0 u1 u2 u3 k0 k1 k2 k3 h0 h1 h2 h3 s0 s1 s2 s3 c0 c1 c2 p0 r0 t0 t1 t2 t3 z0 f0 ea R N B S C P Q K X fd tl ik a3 hg) (cwV 1 hts gX6_when_X6_isTooLate rfl rfl rfl q_X6_isTooLate ⟨Nat.le_of_ble_eq_true rfl, Nat.le_of_ble_eq_true rfl⟩) ⟨hx, hb, hml, hown, hts⟩ hE hP hD hS hA 6 0 rfl rfl rfl rfl hl.1 rfl rfl (Nat.le_of_ble_eq_true rfl) dX6_when_27 (fun H locs hP hD hS => ?_)
      refine lv_if_eq (tgt := 40) hx hb dX6_when_30 (by decide) (fun hc => ?_) (fun hc => ?_)
      · have hf := if_t hf hc
        refine lv_aload_n hx hb dX6_when_40 rfl (lv_at hl 0 rfl) ?_
        refine va_get (D := g.1) (ci := 6) (v := .ref h0) (C := RX6) (T := TX6) (N := 11) hx hb hts i_X6_when_X6 hown hE.1 hP 0 rfl rfl 2 (by decide) w2 (fun _ h9 => h9) rfl dX6_when_41 ?_
        refine lv_aload_n hx hb dX6_when_44 rfl (lv_at hl 0 rfl) ?_
        refine va_get (D := g.1) (ci := 6) (v := .ref u0) (C := RX6) (T := TX6) (N := 11) hx hb hts i_X6_when_X6 hown hE.1 hP 0 rfl rfl 0 (by decide) w3 (fun _ h9 => h9) rfl dX6_when_45 ?_
        obtain ⟨R106, hg, hf⟩ := o1_s hf
        refine Ct.callV (ws' := wV g v0 u0 u1 u2 u3 k0 k1 k2 k3 h0 h1 h2 h3 s0 s1 s2 s3 c0 c1 c2 p0 r0 t0 t1 t2 t3 z0 f0 ea R N R106 S C P Q K X fd tl ik) (As := [.ref u0]) (rest := []) (st1 := []) (c_X1_become l g h0 h1 h2 h3 u0 u1 u2 u3 B R hg) (cwV 1 hts gX6_when_X1_become rfl rfl rfl q_X1_become ⟨Nat.le_of_ble_eq_true rfl, Nat.le_of_ble_eq_true rfl⟩) ⟨hx, hb, hml, hown, hts⟩ hE hP hD hS hA [9, 10, 11, 12, 1, 2, 3, 4] rfl rfl rfl rfl 1 9 rfl rfl rfl rfl hl.1 rfl rfl (Nat.le_of_ble_eq_true rfl) dX6_when_48 (fun H locs hP hD hS => ?_)
        refine lv_aload_n hx hb dX6_when_51 rfl (lv_at hl 0 rfl) ?_
        refine va_get (D := g.1) (ci := 6) (v := .ref h0) (C := RX6) (T := TX6) (N := 11) hx hb hts i_X6_when_X6 hown hE.1 hP 0 rfl rfl 2 (by decide) w2 (fun _ h9 => h9) rfl dX6_when_52 ?_
        obtain ⟨x107, hg, hf⟩ := o1_s hf
        refine Ct.callV (ws' := wV g v0 u0 u1 u2 u3 k0 k1 k2 k3 h0 h1 h2 h3 s0 s1 s2 s3 c0 c1 c2 p0 r0 t0 t1 t2 t3 z0 f0 ea R N R106 S C P Q K X fd tl ik) (As := []) (rest := []) (st1 := [.int x107]) (c_X1_isOpen l g h0 h1 h2 h3 R106 hg) (cwV 0 hts gX6_when_X1_isOpen rfl rfl rfl q_X1_isOpen ⟨Nat.le_of_ble_eq_true rfl, Nat.le_of_ble_eq_true rfl⟩) ⟨hx, hb, hml, hown, hts⟩ hE hP hD hS hA [9, 10, 11, 12] rfl rfl rfl rfl 1 9 rfl rfl rfl rfl hl.1 rfl rfl (Nat.le_of_ble_eq_true rfl) dX6_when_55 (fun H locs hP hD hS => ?_)
        refine lv_if_eq (tgt := 63) hx hb dX6_when_58 (by decide) (fun hc => ?_) (fun hc => ?_)
        · have hf := if_t hf hc
          refine lv_iconst (v := (1 : Int32)) hx hb dX6_when_63 (by decide) ?_
          refine lv_istore (lv' := [(4, .int (1 : Int32)), (0, .ref v0), (1, .int a1), (2, .int a2), (3, .int a3)]) hx hb dX6_when_64 hl (by decide) rfl (fun ls hl => ?_)
          refine L66 _ _ _ _ _ _ _ _ _ _ _  hf hP hD hS (lv_sub hl [1, 2, 3, 4, 0] rfl) (fun B112 H locs ls hf hP hD hS hl => ?_)
          refine lv_aload_n hx hb dX6_when_100 rfl (lv_at hl 0 rfl) ?_
          refine lv_ldc hx hb hown w4 dX6_when_101 ?_
          obtain ⟨x113, fd114, hg, hf⟩ := o2_s hf
          refine Ct.callV0 (ws' := wV g v0 u0 u1 u2 u3 k0 k1 k2 k3 h0 h1 h2 h3 s0 s1 s2 s3 c0 c1 c2 p0 r0 t0 t1 t2 t3 z0 f0 ea R N B112 S C P Q K X fd114 tl ik) (As := [.int (-1000004 : Int32)]) (rest := []) (st1 := [.int x113]) (c_X6_finding l g v0 u0 u1 u2 u3 k0 k1 k2 k3 h0 h1 h2 h3 s0 s1 s2 s3 c0 c1 c2 p0 r0 t0 t1 t2 t3 z0 f0 ea R N B112 S C P Q K X fd tl ik (-1000004 : Int32) hg) (cwV 1 hts gX6_when_X6_finding rfl rfl rfl q_X6_finding ⟨Nat.le_of_ble_eq_true rfl, Nat.le_of_ble_eq_true rfl⟩) ⟨hx, hb, hml, hown, hts⟩ hE hP hD hS hA 6 0 rfl rfl rfl rfl hl.1 rfl rfl (Nat.le_of_ble_eq_true rfl) dX6_when_103 (fun H locs hP hD hS => ?_)
          obtain ⟨rfl, rfl, rfl⟩ := some_p3 hf
          rw [hQ]; exact Ct.iret hx hb hr hlocks hAe hP hD hS dX6_when_106
        · have hf := if_f hf hc
          refine lv_iconst (v := (0 : Int32)) hx hb dX6_when_61 (by decide) ?_
          obtain ⟨rfl, rfl, rfl⟩ := some_p3 hf
          rw [hQ]; exact Ct.iret hx hb hr hlocks hAe hP hD hS dX6_when_62
      · have hf := if_f hf hc
        refine lv_aload_n hx hb dX6_when_33 rfl (lv_at hl 0 rfl) ?_
        refine lv_ldc hx hb hown w5 dX6_when_34 ?_
        obtain ⟨x115, fd116, hg, hf⟩ := o2_s hf
        refine Ct.callV0 (ws' := wV g v0 u0 u1 u2 u3 k0 k1 k2 k3 h0 h1 h2 h3 s0 s1 s2 s3 c0 c1 c2 p0 r0 t0 t1 t2 t3 z0 f0 ea R N B S C P Q K X fd116 tl ik) (As := [.int (-1000005 : Int32)]) (rest := []) (st1 := [.int x115]) (c_X6_finding l g v0 u0 u1 u2 u3 k0 k1 k2 k3 h0 h1 h2 h3 s0 s1 s2 s3 c0 c1 c2 p0 r0 t0 t1 t2 t3 z0 f0 ea R N B S C P Q K X fd tl ik (-1000005 : Int32) hg) (cwV 1 hts gX6_when_X6_finding rfl rfl rfl q_X6_finding ⟨Nat.le_of_ble_eq_true rfl, Nat.le_of_ble_eq_true rfl⟩) ⟨hx, hb, hml, hown, hts⟩ hE hP hD hS hA 6 0 rfl rfl rfl rfl hl.1 rfl rfl (Nat.le_of_ble_eq_true rfl) dX6_when_36 (fun H locs hP hD hS => ?_)
        obtain ⟨rfl, rfl, rfl⟩ := some_p3 hf
        rw [hQ]; exact Ct.iret hx hb hr hlocks hAe hP hD hS dX6_when_39
    · have hf := if_t hf hc
      refine lv_aload_n hx hb dX6_when_18 rfl (lv_at hl 0 rfl) ?_
      refine lv_ldc hx hb hown w1 dX6_when_19 ?_
      obtain ⟨x117, fd118, hg, hf⟩ := o2_s hf
      refine Ct.callV0 (ws' := wV g v0 u0 u1 u2 u3 k0 k1 k2 k3 h0 h1 h2 h3 s0 s1 s2 s3 c0 c1 c2 p0 r0 t0 t1 t2 t3 z0 f0 ea R N B S C P Q K X fd118 tl ik) (As := [.int (-1000001 : Int32)]) (rest := []) (st1 := [.int x117]) (c_X6_finding l g v0 u0 u1 u2 u3 k0 k1 k2 k3 h0 h1 h2 h3 s0 s1 s2 s3 c0 c1 c2 p0 r0 t0 t1 t2 t3 z0 f0 ea R N B S C P Q K X fd tl ik (-1000001 : Int32) hg) (cwV 1 hts gX6_when_X6_finding rfl rfl rfl q_X6_finding ⟨Nat.le_of_ble_eq_true rfl, Nat.le_of_ble_eq_true rfl⟩) ⟨hx, hb, hml, hown, hts⟩ hE hP hD hS hA 6 0 rfl rfl rfl rfl hl.1 rfl rfl (Nat.le_of_ble_eq_true rfl) dX6_when_21 (fun H locs hP hD hS => ?_)
      obtain ⟨rfl, rfl, rfl⟩ := some_p3 hf
      rw [hQ]; exact Ct.iret hx hb hr hlocks hAe hP hD hS dX6_when_24
def fX6_faultOfRains (R : Rf) (a1 : Int32) : Option (Int32) := o1 (fX6_isWithin a1 (0 : Int32) (5 : Int32)) (fun x101 => if x101 = 0 then (some (-1000001 : Int32)) else (o1 (fX6_isTooLate R a1) (fun x102 => if x102 = 0 then (some (0 : Int32)) else (some (-1000005 : Int32)))))
theorem q_X6_faultOfRains : yX6_faultOfRains.cls = RX6 ∧ yX6_faultOfRains.cls ≠ "java/lang/invoke/MethodHandle" ∧ yX6_faultOfRains.cls ≠ "java/lang/invoke/VarHandle" ∧ (parseMethodDescriptor yX6_faultOfRains.desc).map (fun d => d.parameters.length) = some 1 := by decide +kernel
set_option maxHeartbeats 4000000 in
set_option maxRecDepth 100000 in
theorem c_X6_faultOfRains (l : Launch) (g : gG) (v0 u0 u1 u2 u3 k0 k1 k2 k3 h0 h1 h2 h3 s0 s1 s2 s3 c0 c1 c2 p0 r0 t0 t1 t2 t3 z0 f0 : Nat) (ea : Nat → Nat) (R : Rf) (N : Rf) (B : Rf) (S : Sv) (C : Ca) (P : Nat → Int32) (Q : Tr) (K : Tk) (X : F4) (fd : Nat → Int32) (tl : Int32) (ik : Int32) (a1 : Int32) {r : Int32} (hf : fX6_faultOfRains R a1 = some r) : Ct l yX6_faultOfRains wsX6_faultOfRains (rmm 1 22) g (wV g v0 u0 u1 u2 u3 k0 k1 k2 k3 h0 h1 h2 h3 s0 s1 s2 s3 c0 c1 c2 p0 r0 t0 t1 t2 t3 z0 f0 ea R N B S C P Q K X fd tl ik) (wV g v0 u0 u1 u2 u3 k0 k1 k2 k3 h0 h1 h2 h3 s0 s1 s2 s3 c0 c1 c2 p0 r0 t0 t1 t2 t3 z0 f0 ea R N B S C P Q K X fd tl ik) [.ref v0, .int a1] (some (.int r)) := by
  refine Ct.mk (by decide) rfl (Nat.le_of_ble_eq_true rfl) ?_
  intro p e s m args below meth c A ls hx hb hr hml hts hown hlocks hA hE hP hD hS hl hAe
  obtain ⟨Qx, hQ⟩ : ∃ Qx : State → Prop, Qx = MQ below (QcG g (wV g v0 u0 u1 u2 u3 k0 k1 k2 k3 h0 h1 h2 h3 s0 s1 s2 s3 c0 c1 c2 p0 r0 t0 t1 t2 t3 z0 f0 ea R N B S C P Q K X fd tl ik) (wV g v0 u0 u1 u2 u3 k0 k1 k2 k3 h0 h1 h2 h3 s0 s1 s2 s3 c0 c1 c2 p0 r0 t0 t1 t2 t3 z0 f0 ea R N B S C P Q K X fd tl ik) (some (.int r)) s.heap.size) args s 0 0 A := ⟨_, rfl⟩
  rw [← hQ]
  have hown : s.vm.findClass RX6 = some m.cls := hown
  have hl : lv_has ls 2 [(0, .ref v0), (1, .int a1)] := hl
  have w1 := hts (.constant RX6 143 (-1000005)) (List.mem_of_getElem? (i := 2) rfl)
  have w2 := hts (.constant RX6 73 (-1000001)) (List.mem_of_getElem? (i := 1) rfl)
  unfold fX6_faultOfRains at hf
  refine lv_iload_n hx hb dX6_faultOfRains_0 rfl (lv_at hl 1 rfl) ?_
  refine lv_iconst (v := (0 : Int32)) hx hb dX6_faultOfRains_1 (by decide) ?_
  refine lv_iconst (v := (5 : Int32)) hx hb dX6_faultOfRains_2 (by decide) ?_
  obtain ⟨x101, hg, hf⟩ := o1_s hf
  refine Ct.callS (ws' := wV g v0 u0 u1 u2 u3 k0 k1 k2 k3 h0 h1 h2 h3 s0 s1 s2 s3 c0 c1 c2 p0 r0 t0 t1 t2 t3 z0 f0 ea R N B S C P Q K X fd tl ik) (As := [.int a1, .int (0 : Int32), .int (5 : Int32)]) (rest := []) (st1 := [.int x101]) (c_X6_isWithin l g a1 (0 : Int32) (5 : Int32) hg) (va_cwS 3 hts gX6_faultOfRains_X6_isWithin rfl rfl rfl q_X6_isWithin.2 ⟨Nat.le_of_ble_eq_true rfl, Nat.le_of_ble_eq_true rfl⟩) ⟨hx, hb, hml, hown, hts⟩ hE hP hD hS hA [] rfl rfl rfl rfl rfl hl.1 rfl rfl (Nat.le_of_ble_eq_true rfl) dX6_faultOfRains_3 (fun H locs hP hD hS => ?_)
  refine lv_if_ne (tgt := 12) hx hb dX6_faultOfRains_6 (by decide) (fun hc => ?_) (fun hc => ?_)
  · have hf := if_f hf hc
    refine lv_aload_n hx hb dX6_faultOfRains_12 rfl (lv_at hl 0 rfl) ?_
    refine lv_iload_n hx hb dX6_faultOfRains_13 rfl (lv_at hl 1 rfl) ?_
    obtain ⟨x102, hg, hf⟩ := o1_s hf
    refine Ct.callV0 (ws' := wV g v0 u0 u1 u2 u3 k0 k1 k2 k3 h0 h1 h2 h3 s0 s1 s2 s3 c0 c1 c2 p0 r0 t0 t1 t2 t3 z0 f0 ea R N B S C P Q K X fd tl ik) (As := [.int a1]) (rest := []) (st1 := [.int x102]) (c_X6_isTooLate l g v0 u0 u1 u2 u3 k0 k1 k2 k3 h0 h1 h2 h3 s0 s1 s2 s3 c0 c1 c2 p0 r0 t0 t1 t2 t3 z0 f0 ea R N B S C P Q K X fd tl ik a1 hg) (cwV 1 hts gX6_faultOfRains_X6_isTooLate rfl rfl rfl q_X6_isTooLate ⟨Nat.le_of_ble_eq_true rfl, Nat.le_of_ble_eq_true rfl⟩) ⟨hx, hb, hml, hown, hts⟩ hE hP hD hS hA 6 0 rfl rfl rfl rfl hl.1 rfl rfl (Nat.le_of_ble_eq_true rfl) dX6_faultOfRains_14 (fun H locs hP hD hS => ?_)
    refine lv_if_eq (tgt := 25) hx hb dX6_faultOfRains_17 (by decide) (fun hc => ?_) (fun hc => ?_)
    · have hf := if_t hf hc
      refine lv_iconst (v := (0 : Int32)) hx hb dX6_faultOfRains_25 (by decide) ?_
      obtain rfl := Option.some.inj hf
      rw [hQ]; exact Ct.iret hx hb hr hlocks hAe hP hD hS dX6_faultOfRains_26
    · have hf := if_f hf hc
      refine lv_ldc hx hb hown w1 dX6_faultOfRains_20 ?_
      refine lv_goto (tgt := 26) hx hb dX6_faultOfRains_22 (by decide) ?_
      obtain rfl := Option.some.inj hf
      rw [hQ]; exact Ct.iret hx hb hr hlocks hAe hP hD hS dX6_faultOfRains_26
  · have hf := if_t hf hc
    refine lv_ldc hx hb hown w2 dX6_faultOfRains_9 ?_
    obtain rfl := Option.some.inj hf
    rw [hQ]; exact Ct.iret hx hb hr hlocks hAe hP hD hS dX6_faultOfRains_11
def fX6_rains (R : Rf) (B : Rf) (S : Sv) (fd : Nat → Int32) (a1 : Int32) : Option (Int32 × Rf × Sv × (Nat → Int32)) := o1 (fX6_faultOfRains R a1) (fun x101 => if x101 = 0 then (o2 (fX3_lookThrough S B R a1) (fun S102 R103 => some (S102.2.2.2.2.1, R103, S102, fd))) else (o2 (fX6_finding fd x101) (fun x104 fd105 => some (x104, B, S, fd105))))
theorem q_X6_rains : yX6_rains.cls = RX6 ∧ yX6_rains.cls ≠ "java/lang/invoke/MethodHandle" ∧ yX6_rains.cls ≠ "java/lang/invoke/VarHandle" ∧ (parseMethodDescriptor yX6_rains.desc).map (fun d => d.parameters.length) = some 1 := by decide +kernel
theorem i_X6_rains_X6 : ∀ w ∈ u_ws RX6 TX6 11, w ∈ wsX6_rains := fun _ h => List.mem_cons_of_mem _ (List.mem_append_left _ (List.mem_append_left _ (List.mem_append_right _ (h))))
theorem i_X6_rains_X3 : ∀ w ∈ u_ws RX3 TX3 8, w ∈ wsX6_rains := fun _ h => List.mem_cons_of_mem _ (List.mem_append_left _ (List.mem_append_right _ (h)))
set_option maxHeartbeats 4000000 in
set_option maxRecDepth 100000 in
theorem c_X6_rains (l : Launch) (g : gG) (v0 u0 u1 u2 u3 k0 k1 k2 k3 h0 h1 h2 h3 s0 s1 s2 s3 c0 c1 c2 p0 r0 t0 t1 t2 t3 z0 f0 : Nat) (ea : Nat → Nat) (R : Rf) (N : Rf) (B : Rf) (S : Sv) (C : Ca) (P : Nat → Int32) (Q : Tr) (K : Tk) (X : F4) (fd : Nat → Int32) (tl : Int32) (ik : Int32) (a1 : Int32) {r : Int32} {B' : Rf} {S' : Sv} {fd' : Nat → Int32} (hf : fX6_rains R B S fd a1 = some (r, B', S', fd')) : Ct l yX6_rains wsX6_rains (rmm 6 148) g (wV g v0 u0 u1 u2 u3 k0 k1 k2 k3 h0 h1 h2 h3 s0 s1 s2 s3 c0 c1 c2 p0 r0 t0 t1 t2 t3 z0 f0 ea R N B S C P Q K X fd tl ik) (wV g v0 u0 u1 u2 u3 k0 k1 k2 k3 h0 h1 h2 h3 s0 s1 s2 s3 c0 c1 c2 p0 r0 t0 t1 t2 t3 z0 f0 ea R N (B') (S') C P Q K X (fd') tl ik) [.ref v0, .int a1] (some (.int r)) := by
  refine Ct.mk (by decide) rfl (Nat.le_of_ble_eq_true rfl) ?_
  intro p e s m args below meth c A ls hx hb hr hml hts hown hlocks hA hE hP hD hS hl hAe
  obtain ⟨Qx, hQ⟩ : ∃ Qx : State → Prop, Qx = MQ below (QcG g (wV g v0 u0 u1 u2 u3 k0 k1 k2 k3 h0 h1 h2 h3 s0 s1 s2 s3 c0 c1 c2 p0 r0 t0 t1 t2 t3 z0 f0 ea R N B S C P Q K X fd tl ik) (wV g v0 u0 u1 u2 u3 k0 k1 k2 k3 h0 h1 h2 h3 s0 s1 s2 s3 c0 c1 c2 p0 r0 t0 t1 t2 t3 z0 f0 ea R N (B') (S') C P Q K X (fd') tl ik) (some (.int r)) s.heap.size) args s 0 0 A := ⟨_, rfl⟩
  rw [← hQ]
  have hown : s.vm.findClass RX6 = some m.cls := hown
  have hl : lv_has ls 3 [(0, .ref v0), (1, .int a1)] := hl
  have w1 := hts (.fieldLink RX6 27 "RainVault" "survey" "LRainVault$Survey;") (List.mem_of_getElem? (i := 1) rfl)
  have w2 := hts (.fieldLink RX6 10 "RainVault" "roof" "LRainVault$Roof;") (List.mem_of_getElem? (i := 2) rfl)
  unfold fX6_rains at hf
  refine lv_aload_n hx hb dX6_rains_0 rfl (lv_at hl 0 rfl) ?_
  refine lv_iload_n hx hb dX6_rains_1 rfl (lv_at hl 1 rfl) ?_
  obtain ⟨x101, hg, hf⟩ := o1_s hf
  refine Ct.callV0 (ws' := wV g v0 u0 u1 u2 u3 k0 k1 k2 k3 h0 h1 h2 h3 s0 s1 s2 s3 c0 c1 c2 p0 r0 t0 t1 t2 t3 z0 f0 ea R N B S C P Q K X fd tl ik) (As := [.int a1]) (rest := []) (st1 := [.int x101]) (c_X6_faultOfRains l g v0 u0 u1 u2 u3 k0 k1 k2 k3 h0 h1 h2 h3 s0 s1 s2 s3 c0 c1 c2 p0 r0 t0 t1 t2 t3 z0 f0 ea R N B S C P Q K X fd tl ik a1 hg) (cwV 1 hts gX6_rains_X6_faultOfRains rfl rfl rfl q_X6_faultOfRains ⟨Nat.le_of_ble_eq_true rfl, Nat.le_of_ble_eq_true rfl⟩) ⟨hx, hb, hml, hown, hts⟩ hE hP hD hS hA 6 0 rfl rfl rfl rfl hl.1 rfl rfl (Nat.le_of_ble_eq_true rfl) dX6_rains_2 (fun H locs hP hD hS => ?_)
  refine lv_istore_n (lv' := [(2, .int x101), (0, .ref v0), (1, .int a1)]) hx hb dX6_rains_5 rfl hl (by decide) rfl (fun ls hl => ?_)
  refine lv_iload_n hx hb dX6_rains_6 rfl (lv_at hl 0 rfl) ?_
  refine lv_if_eq (tgt := 16) hx hb dX6_rains_7 (by decide) (fun hc => ?_) (fun hc => ?_)
  · have hf := if_t hf hc
    refine lv_aload_n hx hb dX6_rains_16 rfl (lv_at hl 1 rfl) ?_
    refine va_get (D := g.1) (ci := 6) (v := .ref s0) (C := RX6) (T := TX6) (N := 11) hx hb hts i_X6_rains_X6 hown hE.1 hP 0 rfl rfl 3 (by decide) w1 (fun _ h9 => h9) rfl dX6_rains_17 ?_
    refine lv_aload_n hx hb dX6_rains_20 rfl (lv_at hl 1 rfl) ?_
    refine va_get (D := g.1) (ci := 6) (v := .ref u0) (C := RX6) (T := TX6) (N := 11) hx hb hts i_X6_rains_X6 hown hE.1 hP 0 rfl rfl 0 (by decide) w2 (fun _ h9 => h9) rfl dX6_rains_21 ?_
    refine lv_iload_n hx hb dX6_rains_24 rfl (lv_at hl 2 rfl) ?_
    obtain ⟨S102, R103, hg, hf⟩ := o2_s hf
    refine Ct.callV (ws' := wV g v0 u0 u1 u2 u3 k0 k1 k2 k3 h0 h1 h2 h3 s0 s1 s2 s3 c0 c1 c2 p0 r0 t0 t1 t2 t3 z0 f0 ea R N R103 S102 C P Q K X fd tl ik) (As := [.ref u0, .int a1]) (rest := []) (st1 := []) (c_X3_lookThrough l g s0 s1 s2 s3 h0 h1 h2 h3 u0 u1 u2 u3 S B R a1 hg) (cwV 2 hts gX6_rains_X3_lookThrough rfl rfl rfl q_X3_lookThrough ⟨Nat.le_of_ble_eq_true rfl, Nat.le_of_ble_eq_true rfl⟩) ⟨hx, hb, hml, hown, hts⟩ hE hP hD hS hA [13, 14, 15, 16, 9, 10, 11, 12, 1, 2, 3, 4] rfl rfl rfl rfl 3 13 rfl rfl rfl rfl hl.1 rfl rfl (Nat.le_of_ble_eq_true rfl) dX6_rains_25 (fun H locs hP hD hS => ?_)
    refine lv_aload_n hx hb dX6_rains_28 rfl (lv_at hl 1 rfl) ?_
    refine va_get (D := g.1) (ci := 6) (v := .ref s0) (C := RX6) (T := TX6) (N := 11) hx hb hts i_X6_rains_X6 hown hE.1 hP 0 rfl rfl 3 (by decide) w1 (fun _ h9 => h9) rfl dX6_rains_29 ?_
    refine va_getN (D := g.1) (ci := 3) (v := .int S102.2.2.2.2.1) (C := RX3) (T := TX3) (N := 8) hx hb hts i_X6_rains_X3 hown hE.1 hP 13 rfl rfl 5 (by decide) (va_Nw.use rfl (hE.2.1 _ (List.mem_of_getElem? (i := 11) rfl))) (fun _ h9 => h9) rfl dX6_rains_32 ?_
    obtain ⟨rfl, rfl, rfl, rfl⟩ := some_p4 hf
    rw [hQ]; exact Ct.iret hx hb hr hlocks hAe hP hD hS dX6_rains_35
  · have hf := if_f hf hc
    refine lv_aload_n hx hb dX6_rains_10 rfl (lv_at hl 1 rfl) ?_
    refine lv_iload_n hx hb dX6_rains_11 rfl (lv_at hl 0 rfl) ?_
    obtain ⟨x104, fd105, hg, hf⟩ := o2_s hf
    refine Ct.callV0 (ws' := wV g v0 u0 u1 u2 u3 k0 k1 k2 k3 h0 h1 h2 h3 s0 s1 s2 s3 c0 c1 c2 p0 r0 t0 t1 t2 t3 z0 f0 ea R N B S C P Q K X fd105 tl ik) (As := [.int x101]) (rest := []) (st1 := [.int x104]) (c_X6_finding l g v0 u0 u1 u2 u3 k0 k1 k2 k3 h0 h1 h2 h3 s0 s1 s2 s3 c0 c1 c2 p0 r0 t0 t1 t2 t3 z0 f0 ea R N B S C P Q K X fd tl ik x101 hg) (cwV 1 hts gX6_rains_X6_finding rfl rfl rfl q_X6_finding ⟨Nat.le_of_ble_eq_true rfl, Nat.le_of_ble_eq_true rfl⟩) ⟨hx, hb, hml, hown, hts⟩ hE hP hD hS hA 6 0 rfl rfl rfl rfl hl.1 rfl rfl (Nat.le_of_ble_eq_true rfl) dX6_rains_12 (fun H locs hP hD hS => ?_)
    obtain ⟨rfl, rfl, rfl, rfl⟩ := some_p4 hf
    rw [hQ]; exact Ct.iret hx hb hr hlocks hAe hP hD hS dX6_rains_15
def fX6_first_J21 (R : Rf) (B : Rf) (S : Sv) (fd : Nat → Int32) (x1 : Int32) (x2 : Int32) (y0 : Int32) : Option (Int32 × Rf × Sv × (Nat → Int32)) := if y0 = 0 then (o2 (fX3_lookThrough S B R x1) (fun S102 R103 => if S102.2.2.2.2.1 = 0 then (o2 (fX6_finding fd (-1000004 : Int32)) (fun x105 fd106 => some (x105, R103, S102, fd106))) else (o1 (fX6_at 5 S102.2.2.1 x2) (fun x104 => some (x104, R103, S102, fd))))) else (o2 (fX6_finding fd y0) (fun x107 fd108 => some (x107, B, S, fd108)))
def fX6_first (R : Rf) (B : Rf) (S : Sv) (fd : Nat → Int32) (a1 : Int32) (a2 : Int32) : Option (Int32 × Rf × Sv × (Nat → Int32)) := o1 (fX6_isWithin a2 (0 : Int32) (a1 - (1 : Int32))) (fun x101 => if x101 = 0 then (fX6_first_J21 R B S fd a1 a2 (-1000001 : Int32)) else (o1 (fX6_faultOfRains R a1) (fun x109 => fX6_first_J21 R B S fd a1 a2 x109)))
theorem q_X6_first : yX6_first.cls = RX6 ∧ yX6_first.cls ≠ "java/lang/invoke/MethodHandle" ∧ yX6_first.cls ≠ "java/lang/invoke/VarHandle" ∧ (parseMethodDescriptor yX6_first.desc).map (fun d => d.parameters.length) = some 2 := by decide +kernel
theorem i_X6_first_X6 : ∀ w ∈ u_ws RX6 TX6 11, w ∈ wsX6_first := fun _ h => List.mem_cons_of_mem _ (List.mem_append_left _ (List.mem_append_left _ (List.mem_append_right _ (h))))
theorem i_X6_first_X3 : ∀ w ∈ u_ws RX3 TX3 8, w ∈ wsX6_first := fun _ h => List.mem_cons_of_mem _ (List.mem_append_left _ (List.mem_append_right _ (h)))
set_option maxHeartbeats 4000000 in
set_option maxRecDepth 100000 in
theorem c_X6_first (l : Launch) (g : gG) (v0 u0 u1 u2 u3 k0 k1 k2 k3 h0 h1 h2 h3 s0 s1 s2 s3 c0 c1 c2 p0 r0 t0 t1 t2 t3 z0 f0 : Nat) (ea : Nat → Nat) (R : Rf) (N : Rf) (B : Rf) (S : Sv) (C : Ca) (P : Nat → Int32) (Q : Tr) (K : Tk) (X : F4) (fd : Nat → Int32) (tl : Int32) (ik : Int32) (a1 : Int32) (a2 : Int32) {r : Int32} {B' : Rf} {S' : Sv} {fd' : Nat → Int32} (hf : fX6_first R B S fd a1 a2 = some (r, B', S', fd')) : Ct l yX6_first wsX6_first (rmm 6 148) g (wV g v0 u0 u1 u2 u3 k0 k1 k2 k3 h0 h1 h2 h3 s0 s1 s2 s3 c0 c1 c2 p0 r0 t0 t1 t2 t3 z0 f0 ea R N B S C P Q K X fd tl ik) (wV g v0 u0 u1 u2 u3 k0 k1 k2 k3 h0 h1 h2 h3 s0 s1 s2 s3 c0 c1 c2 p0 r0 t0 t1 t2 t3 z0 f0 ea R N (B') (S') C P Q K X (fd') tl ik) [.ref v0, .int a1, .int a2] (some (.int r)) := by
  refine Ct.mk (by decide) rfl (Nat.le_of_ble_eq_true rfl) ?_
  intro p e s m args below meth c A ls hx hb hr hml hts hown hlocks hA hE hP hD hS hl hAe
  obtain ⟨Qx, hQ⟩ : ∃ Qx : State → Prop, Qx = MQ below (QcG g (wV g v0 u0 u1 u2 u3 k0 k1 k2 k3 h0 h1 h2 h3 s0 s1 s2 s3 c0 c1 c2 p0 r0 t0 t1 t2 t3 z0 f0 ea R N B S C P Q K X fd tl ik) (wV g v0 u0 u1 u2 u3 k0 k1 k2 k3 h0 h1 h2 h3 s0 s1 s2 s3 c0 c1 c2 p0 r0 t0 t1 t2 t3 z0 f0 ea R N (B') (S') C P Q K X (fd') tl ik) (some (.int r)) s.heap.size) args s 0 0 A := ⟨_, rfl⟩
  rw [← hQ]
  have hown : s.vm.findClass RX6 = some m.cls := hown
  have hl : lv_has ls 4 [(0, .ref v0), (1, .int a1), (2, .int a2)] := hl
  have w1 := hts (.constant RX6 73 (-1000001)) (List.mem_of_getElem? (i := 1) rfl)
  have w2 := hts (.fieldLink RX6 27 "RainVault" "survey" "LRainVault$Survey;") (List.mem_of_getElem? (i := 2) rfl)
  have w3 := hts (.fieldLink RX6 10 "RainVault" "roof" "LRainVault$Roof;") (List.mem_of_getElem? (i := 3) rfl)
  have w4 := hts (.constant RX6 164 (-1000004)) (List.mem_of_getElem? (i := 4) rfl)
  have J21 : ∀ (B : Rf) (S : Sv) (fd : Nat → Int32) (x1 : Int32) (x2 : Int32) (y0 : Int32) (H : Heap) (locs : List Loc) (ls : Array Slot), fX6_first_J21 R B S fd x1 x2 y0 = some (r, B', S', fd') → va_P g.1 vwK (wV g v0 u0 u1 u2 u3 k0 k1 k2 k3 h0 h1 h2 h3 s0 s1 s2 s3 c0 c1 c2 p0 r0 t0 t1 t2 t3 z0 f0 ea R N B S C P Q K X fd tl ik) H → va_D A (wV g v0 u0 u1 u2 u3 k0 k1 k2 k3 h0 h1 h2 h3 s0 s1 s2 s3 c0 c1 c2 p0 r0 t0 t1 t2 t3 z0 f0 ea R N B S C P Q K X fd tl ik) → va_S A s.heap H locs → lv_has ls 4 [(0, .ref v0), (1, .int x1), (2, .int x2)] → W p l e (rmm 6 148) s m args below meth c H locs 0 0 Qx (F0 m 21 ls [.int y0]) := by
    intro B S fd x1 x2 y0 H locs ls hf hP hD hS hl
    unfold fX6_first_J21 at hf
    refine lv_istore_n (lv' := [(3, .int y0), (0, .ref v0), (1, .int x1), (2, .int x2)]) hx hb dX6_first_21 rfl hl (by decide) rfl (fun ls hl => ?_)
    refine lv_iload_n hx hb dX6_first_22 rfl (lv_at hl 0 rfl) ?_
    refine lv_if_eq (tgt := 32) hx hb dX6_first_23 (by decide) (fun hc => ?_) (fun hc => ?_)
    · have hf := if_t hf hc
      refine lv_aload_n hx hb dX6_first_32 rfl (lv_at hl 1 rfl) ?_
      refine va_get (D := g.1) (ci := 6) (v := .ref s0) (C := RX6) (T := TX6) (N := 11) hx hb hts i_X6_first_X6 hown hE.1 hP 0 rfl rfl 3 (by decide) w2 (fun _ h9 => h9) rfl dX6_first_33 ?_
      refine lv_aload_n hx hb dX6_first_36 rfl (lv_at hl 1 rfl) ?_
      refine va_get (D := g.1) (ci := 6) (v := .ref u0) (C := RX6) (T := TX6) (N := 11) hx hb hts i_X6_first_X6 hown hE.1 hP 0 rfl rfl 0 (by decide) w3 (fun _ h9 => h9) rfl dX6_first_37 ?_
      refine lv_iload_n hx hb dX6_first_40 rfl (lv_at hl 2 rfl) ?_
      obtain ⟨S102, R103, hg, hf⟩ := o2_s hf
      refine Ct.callV (ws' := wV g v0 u0 u1 u2 u3 k0 k1 k2 k3 h0 h1 h2 h3 s0 s1 s2 s3 c0 c1 c2 p0 r0 t0 t1 t2 t3 z0 f0 ea R N R103 S102 C P Q K X fd tl ik) (As := [.ref u0, .int x1]) (rest := []) (st1 := []) (c_X3_lookThrough l g s0 s1 s2 s3 h0 h1 h2 h3 u0 u1 u2 u3 S B R x1 hg) (cwV 2 hts gX6_first_X3_lookThrough rfl rfl rfl q_X3_lookThrough ⟨Nat.le_of_ble_eq_true rfl, Nat.le_of_ble_eq_true rfl⟩) ⟨hx, hb, hml, hown, hts⟩ hE hP hD hS hA [13, 14, 15, 16, 9, 10, 11, 12, 1, 2, 3, 4] rfl rfl rfl rfl 3 13 rfl rfl rfl rfl hl.1 rfl rfl (Nat.le_of_ble_eq_true rfl) dX6_first_41 (fun H locs hP hD hS => ?_)
      refine lv_aload_n hx hb dX6_first_44 rfl (lv_at hl 1 rfl) ?_
      refine va_get (D := g.1) (ci := 6) (v := .ref s0) (C := RX6) (T := TX6) (N := 11) hx hb hts i_X6_first_X6 hown hE.1 hP 0 rfl rfl 3 (by decide) w2 (fun _ h9 => h9) rfl dX6_first_45 ?_
      refine va_getN (D := g.1) (ci := 3) (v := .int S102.2.2.2.2.1) (C := RX3) (T := TX3) (N := 8) hx hb hts i_X6_first_X3 hown hE.1 hP 13 rfl rfl 5 (by decide) (va_Nw.use rfl (hE.2.1 _ (List.mem_of_getElem? (i := 11) rfl))) (fun _ h9 => h9) rfl dX6_first_48 ?_
      refine lv_if_ne (tgt := 63) hx hb dX6_first_51 (by decide) (fun hc => ?_) (fun hc => ?_)
      · have hf := if_f hf hc
        refine lv_aload_n hx hb dX6_first_63 rfl (lv_at hl 1 rfl) ?_
        refine va_get (D := g.1) (ci := 6) (v := .ref s0) (C := RX6) (T := TX6) (N := 11) hx hb hts i_X6_first_X6 hown hE.1 hP 0 rfl rfl 3 (by decide) w2 (fun _ h9 => h9) rfl dX6_first_64 ?_
        refine va_getN (D := g.1) (ci := 3) (v := .ref s3) (C := RX3) (T := TX3) (N := 8) hx hb hts i_X6_first_X3 hown hE.1 hP 13 rfl rfl 3 (by decide) (va_Nw.use rfl (hE.2.1 _ (List.mem_of_getElem? (i := 10) rfl))) (fun _ h9 => h9) rfl dX6_first_67 ?_
        refine lv_iload_n hx hb dX6_first_70 rfl (lv_at hl 3 rfl) ?_
        obtain ⟨x104, hg, hf⟩ := o1_s hf
        refine Ct.callS (ws' := wV g v0 u0 u1 u2 u3 k0 k1 k2 k3 h0 h1 h2 h3 s0 s1 s2 s3 c0 c1 c2 p0 r0 t0 t1 t2 t3 z0 f0 ea R N R103 S102 C P Q K X fd tl ik) (As := [.ref s3, .int x2]) (rest := []) (st1 := [.int x104]) (c_X6_at l g s3 5 S102.2.2.1 x2 hg) (va_cwS 2 hts gX6_first_X6_at rfl rfl rfl q_X6_at.2 ⟨Nat.le_of_ble_eq_true rfl, Nat.le_of_ble_eq_true rfl⟩) ⟨hx, hb, hml, hown, hts⟩ hE hP hD hS hA [16] rfl rfl rfl rfl rfl hl.1 rfl rfl (Nat.le_of_ble_eq_true rfl) dX6_first_71 (fun H locs hP hD hS => ?_)
        obtain ⟨rfl, rfl, rfl, rfl⟩ := some_p4 hf
        rw [hQ]; exact Ct.iret hx hb hr hlocks hAe hP hD hS dX6_first_74
      · have hf := if_t hf hc
        refine lv_aload_n hx hb dX6_first_54 rfl (lv_at hl 1 rfl) ?_
        refine lv_ldc hx hb hown w4 dX6_first_55 ?_
        obtain ⟨x105, fd106, hg, hf⟩ := o2_s hf
        refine Ct.callV0 (ws' := wV g v0 u0 u1 u2 u3 k0 k1 k2 k3 h0 h1 h2 h3 s0 s1 s2 s3 c0 c1 c2 p0 r0 t0 t1 t2 t3 z0 f0 ea R N R103 S102 C P Q K X fd106 tl ik) (As := [.int (-1000004 : Int32)]) (rest := []) (st1 := [.int x105]) (c_X6_finding l g v0 u0 u1 u2 u3 k0 k1 k2 k3 h0 h1 h2 h3 s0 s1 s2 s3 c0 c1 c2 p0 r0 t0 t1 t2 t3 z0 f0 ea R N R103 S102 C P Q K X fd tl ik (-1000004 : Int32) hg) (cwV 1 hts gX6_first_X6_finding rfl rfl rfl q_X6_finding ⟨Nat.le_of_ble_eq_true rfl, Nat.le_of_ble_eq_true rfl⟩) ⟨hx, hb, hml, hown, hts⟩ hE hP hD hS hA 6 0 rfl rfl rfl rfl hl.1 rfl rfl (Nat.le_of_ble_eq_true rfl) dX6_first_57 (fun H locs hP hD hS => ?_)
        refine lv_goto (tgt := 74) hx hb dX6_first_60 (by decide) ?_
        obtain ⟨rfl, rfl, rfl, rfl⟩ := some_p4 hf
        rw [hQ]; exact Ct.iret hx hb hr hlocks hAe hP hD hS dX6_first_74
    · have hf := if_f hf hc
      refine lv_aload_n hx hb dX6_first_26 rfl (lv_at hl 1 rfl) ?_
      refine lv_iload_n hx hb dX6_first_27 rfl (lv_at hl 0 rfl) ?_
      obtain ⟨x107, fd108, hg, hf⟩ := o2_s hf
      refine Ct.callV0 (ws' := wV g v0 u0 u1 u2 u3 k0 k1 k2 k3 h0 h1 h2 h3 s0 s1 s2 s3 c0 c1 c2 p0 r0 t0 t1 t2 t3 z0 f0 ea R N B S C P Q K X fd108 tl ik) (As := [.int y0]) (rest := []) (st1 := [.int x107]) (c_X6_finding l g v0 u0 u1 u2 u3 k0 k1 k2 k3 h0 h1 h2 h3 s0 s1 s2 s3 c0 c1 c2 p0 r0 t0 t1 t2 t3 z0 f0 ea R N B S C P Q K X fd tl ik y0 hg) (cwV 1 hts gX6_first_X6_finding rfl rfl rfl q_X6_finding ⟨Nat.le_of_ble_eq_true rfl, Nat.le_of_ble_eq_true rfl⟩) ⟨hx, hb, hml, hown, hts⟩ hE hP hD hS hA 6 0 rfl rfl rfl rfl hl.1 rfl rfl (Nat.le_of_ble_eq_true rfl) dX6_first_28 (fun H locs hP hD hS => ?_)
      obtain ⟨rfl, rfl, rfl, rfl⟩ := some_p4 hf
      rw [hQ]; exact Ct.iret hx hb hr hlocks hAe hP hD hS dX6_first_31
  unfold fX6_first at hf
  refine lv_iload_n hx hb dX6_first_0 rfl (lv_at hl 2 rfl) ?_
  refine lv_iconst (v := (0 : Int32)) hx hb dX6_first_1 (by decide) ?_
  refine lv_iload_n hx hb dX6_first_2 rfl (lv_at hl 1 rfl) ?_
  refine lv_iconst (v := (1 : Int32)) hx hb dX6_first_3 (by decide) ?_
  refine lv_isub hx hb dX6_first_4 ?_
  obtain ⟨x101, hg, hf⟩ := o1_s hf
  refine Ct.callS (ws' := wV g v0 u0 u1 u2 u3 k0 k1 k2 k3 h0 h1 h2 h3 s0 s1 s2 s3 c0 c1 c2 p0 r0 t0 t1 t2 t3 z0 f0 ea R N B S C P Q K X fd tl ik) (As := [.int a2, .int (0 : Int32), .int (a1 - (1 : Int32))]) (rest := []) (st1 := [.int x101]) (c_X6_isWithin l g a2 (0 : Int32) (a1 - (1 : Int32)) hg) (va_cwS 3 hts gX6_first_X6_isWithin rfl rfl rfl q_X6_isWithin.2 ⟨Nat.le_of_ble_eq_true rfl, Nat.le_of_ble_eq_true rfl⟩) ⟨hx, hb, hml, hown, hts⟩ hE hP hD hS hA [] rfl rfl rfl rfl rfl hl.1 rfl rfl (Nat.le_of_ble_eq_true rfl) dX6_first_5 (fun H locs hP hD hS => ?_)
  refine lv_if_eq (tgt := 19) hx hb dX6_first_8 (by decide) (fun hc => ?_) (fun hc => ?_)
  · have hf := if_t hf hc
    refine lv_ldc hx hb hown w1 dX6_first_19 ?_
    exact J21 _ _ _ _ _ _ _ _ _  hf hP hD hS (lv_sub hl [0, 1, 2] rfl)
  · have hf := if_f hf hc
    refine lv_aload_n hx hb dX6_first_11 rfl (lv_at hl 0 rfl) ?_
    refine lv_iload_n hx hb dX6_first_12 rfl (lv_at hl 1 rfl) ?_
    obtain ⟨x109, hg, hf⟩ := o1_s hf
    refine Ct.callV0 (ws' := wV g v0 u0 u1 u2 u3 k0 k1 k2 k3 h0 h1 h2 h3 s0 s1 s2 s3 c0 c1 c2 p0 r0 t0 t1 t2 t3 z0 f0 ea R N B S C P Q K X fd tl ik) (As := [.int a1]) (rest := []) (st1 := [.int x109]) (c_X6_faultOfRains l g v0 u0 u1 u2 u3 k0 k1 k2 k3 h0 h1 h2 h3 s0 s1 s2 s3 c0 c1 c2 p0 r0 t0 t1 t2 t3 z0 f0 ea R N B S C P Q K X fd tl ik a1 hg) (cwV 1 hts gX6_first_X6_faultOfRains rfl rfl rfl q_X6_faultOfRains ⟨Nat.le_of_ble_eq_true rfl, Nat.le_of_ble_eq_true rfl⟩) ⟨hx, hb, hml, hown, hts⟩ hE hP hD hS hA 6 0 rfl rfl rfl rfl hl.1 rfl rfl (Nat.le_of_ble_eq_true rfl) dX6_first_13 (fun H locs hP hD hS => ?_)
    refine lv_goto (tgt := 21) hx hb dX6_first_16 (by decide) ?_
    exact J21 _ _ _ _ _ _ _ _ _  hf hP hD hS (lv_sub hl [0, 1, 2] rfl)
def fX6_driest (R : Rf) (B : Rf) (S : Sv) (fd : Nat → Int32) (a1 : Int32) : Option (Int32 × Rf × Sv × (Nat → Int32)) := o1 (fX6_faultOfRains R a1) (fun x101 => if x101 = 0 then (o2 (fX3_lookThrough S B R a1) (fun S102 R103 => if S102.2.2.2.2.1 = 0 then (o2 (fX6_finding fd (-1000004 : Int32)) (fun x104 fd105 => some (x104, R103, S102, fd105))) else (some (S102.2.2.2.2.2.1, R103, S102, fd)))) else (o2 (fX6_finding fd x101) (fun x106 fd107 => some (x106, B, S, fd107))))
theorem q_X6_driest : yX6_driest.cls = RX6 ∧ yX6_driest.cls ≠ "java/lang/invoke/MethodHandle" ∧ yX6_driest.cls ≠ "java/lang/invoke/VarHandle" ∧ (parseMethodDescriptor yX6_driest.desc).map (fun d => d.parameters.length) = some 1 := by decide +kernel
theorem i_X6_driest_X6 : ∀ w ∈ u_ws RX6 TX6 11, w ∈ wsX6_driest := fun _ h => List.mem_cons_of_mem _ (List.mem_append_left _ (List.mem_append_left _ (List.mem_append_right _ (h))))
theorem i_X6_driest_X3 : ∀ w ∈ u_ws RX3 TX3 8, w ∈ wsX6_driest := fun _ h => List.mem_cons_of_mem _ (List.mem_append_left _ (List.mem_append_right _ (h)))
set_option maxHeartbeats 4000000 in
set_option maxRecDepth 100000 in
theorem c_X6_driest (l : Launch) (g : gG) (v0 u0 u1 u2 u3 k0 k1 k2 k3 h0 h1 h2 h3 s0 s1 s2 s3 c0 c1 c2 p0 r0 t0 t1 t2 t3 z0 f0 : Nat) (ea : Nat → Nat) (R : Rf) (N : Rf) (B : Rf) (S : Sv) (C : Ca) (P : Nat → Int32) (Q : Tr) (K : Tk) (X : F4) (fd : Nat → Int32) (tl : Int32) (ik : Int32) (a1 : Int32) {r : Int32} {B' : Rf} {S' : Sv} {fd' : Nat → Int32} (hf : fX6_driest R B S fd a1 = some (r, B', S', fd')) : Ct l yX6_driest wsX6_driest (rmm 6 148) g (wV g v0 u0 u1 u2 u3 k0 k1 k2 k3 h0 h1 h2 h3 s0 s1 s2 s3 c0 c1 c2 p0 r0 t0 t1 t2 t3 z0 f0 ea R N B S C P Q K X fd tl ik) (wV g v0 u0 u1 u2 u3 k0 k1 k2 k3 h0 h1 h2 h3 s0 s1 s2 s3 c0 c1 c2 p0 r0 t0 t1 t2 t3 z0 f0 ea R N (B') (S') C P Q K X (fd') tl ik) [.ref v0, .int a1] (some (.int r)) := by
  refine Ct.mk (by decide) rfl (Nat.le_of_ble_eq_true rfl) ?_
  intro p e s m args below meth c A ls hx hb hr hml hts hown hlocks hA hE hP hD hS hl hAe
  obtain ⟨Qx, hQ⟩ : ∃ Qx : State → Prop, Qx = MQ below (QcG g (wV g v0 u0 u1 u2 u3 k0 k1 k2 k3 h0 h1 h2 h3 s0 s1 s2 s3 c0 c1 c2 p0 r0 t0 t1 t2 t3 z0 f0 ea R N B S C P Q K X fd tl ik) (wV g v0 u0 u1 u2 u3 k0 k1 k2 k3 h0 h1 h2 h3 s0 s1 s2 s3 c0 c1 c2 p0 r0 t0 t1 t2 t3 z0 f0 ea R N (B') (S') C P Q K X (fd') tl ik) (some (.int r)) s.heap.size) args s 0 0 A := ⟨_, rfl⟩
  rw [← hQ]
  have hown : s.vm.findClass RX6 = some m.cls := hown
  have hl : lv_has ls 3 [(0, .ref v0), (1, .int a1)] := hl
  have w1 := hts (.fieldLink RX6 27 "RainVault" "survey" "LRainVault$Survey;") (List.mem_of_getElem? (i := 1) rfl)
  have w2 := hts (.fieldLink RX6 10 "RainVault" "roof" "LRainVault$Roof;") (List.mem_of_getElem? (i := 2) rfl)
  have w3 := hts (.constant RX6 164 (-1000004)) (List.mem_of_getElem? (i := 3) rfl)
  unfold fX6_driest at hf
  refine lv_aload_n hx hb dX6_driest_0 rfl (lv_at hl 0 rfl) ?_
  refine lv_iload_n hx hb dX6_driest_1 rfl (lv_at hl 1 rfl) ?_
  obtain ⟨x101, hg, hf⟩ := o1_s hf
  refine Ct.callV0 (ws' := wV g v0 u0 u1 u2 u3 k0 k1 k2 k3 h0 h1 h2 h3 s0 s1 s2 s3 c0 c1 c2 p0 r0 t0 t1 t2 t3 z0 f0 ea R N B S C P Q K X fd tl ik) (As := [.int a1]) (rest := []) (st1 := [.int x101]) (c_X6_faultOfRains l g v0 u0 u1 u2 u3 k0 k1 k2 k3 h0 h1 h2 h3 s0 s1 s2 s3 c0 c1 c2 p0 r0 t0 t1 t2 t3 z0 f0 ea R N B S C P Q K X fd tl ik a1 hg) (cwV 1 hts gX6_driest_X6_faultOfRains rfl rfl rfl q_X6_faultOfRains ⟨Nat.le_of_ble_eq_true rfl, Nat.le_of_ble_eq_true rfl⟩) ⟨hx, hb, hml, hown, hts⟩ hE hP hD hS hA 6 0 rfl rfl rfl rfl hl.1 rfl rfl (Nat.le_of_ble_eq_true rfl) dX6_driest_2 (fun H locs hP hD hS => ?_)
  refine lv_istore_n (lv' := [(2, .int x101), (0, .ref v0), (1, .int a1)]) hx hb dX6_driest_5 rfl hl (by decide) rfl (fun ls hl => ?_)
  refine lv_iload_n hx hb dX6_driest_6 rfl (lv_at hl 0 rfl) ?_
  refine lv_if_eq (tgt := 16) hx hb dX6_driest_7 (by decide) (fun hc => ?_) (fun hc => ?_)
  · have hf := if_t hf hc
    refine lv_aload_n hx hb dX6_driest_16 rfl (lv_at hl 1 rfl) ?_
    refine va_get (D := g.1) (ci := 6) (v := .ref s0) (C := RX6) (T := TX6) (N := 11) hx hb hts i_X6_driest_X6 hown hE.1 hP 0 rfl rfl 3 (by decide) w1 (fun _ h9 => h9) rfl dX6_driest_17 ?_
    refine lv_aload_n hx hb dX6_driest_20 rfl (lv_at hl 1 rfl) ?_
    refine va_get (D := g.1) (ci := 6) (v := .ref u0) (C := RX6) (T := TX6) (N := 11) hx hb hts i_X6_driest_X6 hown hE.1 hP 0 rfl rfl 0 (by decide) w2 (fun _ h9 => h9) rfl dX6_driest_21 ?_
    refine lv_iload_n hx hb dX6_driest_24 rfl (lv_at hl 2 rfl) ?_
    obtain ⟨S102, R103, hg, hf⟩ := o2_s hf
    refine Ct.callV (ws' := wV g v0 u0 u1 u2 u3 k0 k1 k2 k3 h0 h1 h2 h3 s0 s1 s2 s3 c0 c1 c2 p0 r0 t0 t1 t2 t3 z0 f0 ea R N R103 S102 C P Q K X fd tl ik) (As := [.ref u0, .int a1]) (rest := []) (st1 := []) (c_X3_lookThrough l g s0 s1 s2 s3 h0 h1 h2 h3 u0 u1 u2 u3 S B R a1 hg) (cwV 2 hts gX6_driest_X3_lookThrough rfl rfl rfl q_X3_lookThrough ⟨Nat.le_of_ble_eq_true rfl, Nat.le_of_ble_eq_true rfl⟩) ⟨hx, hb, hml, hown, hts⟩ hE hP hD hS hA [13, 14, 15, 16, 9, 10, 11, 12, 1, 2, 3, 4] rfl rfl rfl rfl 3 13 rfl rfl rfl rfl hl.1 rfl rfl (Nat.le_of_ble_eq_true rfl) dX6_driest_25 (fun H locs hP hD hS => ?_)
    refine lv_aload_n hx hb dX6_driest_28 rfl (lv_at hl 1 rfl) ?_
    refine va_get (D := g.1) (ci := 6) (v := .ref s0) (C := RX6) (T := TX6) (N := 11) hx hb hts i_X6_driest_X6 hown hE.1 hP 0 rfl rfl 3 (by decide) w1 (fun _ h9 => h9) rfl dX6_driest_29 ?_
    refine va_getN (D := g.1) (ci := 3) (v := .int S102.2.2.2.2.1) (C := RX3) (T := TX3) (N := 8) hx hb hts i_X6_driest_X3 hown hE.1 hP 13 rfl rfl 5 (by decide) (va_Nw.use rfl (hE.2.1 _ (List.mem_of_getElem? (i := 11) rfl))) (fun _ h9 => h9) rfl dX6_driest_32 ?_
    refine lv_if_ne (tgt := 47) hx hb dX6_driest_35 (by decide) (fun hc => ?_) (fun hc => ?_)
    · have hf := if_f hf hc
      refine lv_aload_n hx hb dX6_driest_47 rfl (lv_at hl 1 rfl) ?_
      refine va_get (D := g.1) (ci := 6) (v := .ref s0) (C := RX6) (T := TX6) (N := 11) hx hb hts i_X6_driest_X6 hown hE.1 hP 0 rfl rfl 3 (by decide) w1 (fun _ h9 => h9) rfl dX6_driest_48 ?_
      refine va_getN (D := g.1) (ci := 3) (v := .int S102.2.2.2.2.2.1) (C := RX3) (T := TX3) (N := 8) hx hb hts i_X6_driest_X3 hown hE.1 hP 13 rfl rfl 6 (by decide) (va_Nw.use rfl (hE.2.1 _ (List.mem_of_getElem? (i := 12) rfl))) (fun _ h9 => h9) rfl dX6_driest_51 ?_
      obtain ⟨rfl, rfl, rfl, rfl⟩ := some_p4 hf
      rw [hQ]; exact Ct.iret hx hb hr hlocks hAe hP hD hS dX6_driest_54
    · have hf := if_t hf hc
      refine lv_aload_n hx hb dX6_driest_38 rfl (lv_at hl 1 rfl) ?_
      refine lv_ldc hx hb hown w3 dX6_driest_39 ?_
      obtain ⟨x104, fd105, hg, hf⟩ := o2_s hf
      refine Ct.callV0 (ws' := wV g v0 u0 u1 u2 u3 k0 k1 k2 k3 h0 h1 h2 h3 s0 s1 s2 s3 c0 c1 c2 p0 r0 t0 t1 t2 t3 z0 f0 ea R N R103 S102 C P Q K X fd105 tl ik) (As := [.int (-1000004 : Int32)]) (rest := []) (st1 := [.int x104]) (c_X6_finding l g v0 u0 u1 u2 u3 k0 k1 k2 k3 h0 h1 h2 h3 s0 s1 s2 s3 c0 c1 c2 p0 r0 t0 t1 t2 t3 z0 f0 ea R N R103 S102 C P Q K X fd tl ik (-1000004 : Int32) hg) (cwV 1 hts gX6_driest_X6_finding rfl rfl rfl q_X6_finding ⟨Nat.le_of_ble_eq_true rfl, Nat.le_of_ble_eq_true rfl⟩) ⟨hx, hb, hml, hown, hts⟩ hE hP hD hS hA 6 0 rfl rfl rfl rfl hl.1 rfl rfl (Nat.le_of_ble_eq_true rfl) dX6_driest_41 (fun H locs hP hD hS => ?_)
      refine lv_goto (tgt := 54) hx hb dX6_driest_44 (by decide) ?_
      obtain ⟨rfl, rfl, rfl, rfl⟩ := some_p4 hf
      rw [hQ]; exact Ct.iret hx hb hr hlocks hAe hP hD hS dX6_driest_54
  · have hf := if_f hf hc
    refine lv_aload_n hx hb dX6_driest_10 rfl (lv_at hl 1 rfl) ?_
    refine lv_iload_n hx hb dX6_driest_11 rfl (lv_at hl 0 rfl) ?_
    obtain ⟨x106, fd107, hg, hf⟩ := o2_s hf
    refine Ct.callV0 (ws' := wV g v0 u0 u1 u2 u3 k0 k1 k2 k3 h0 h1 h2 h3 s0 s1 s2 s3 c0 c1 c2 p0 r0 t0 t1 t2 t3 z0 f0 ea R N B S C P Q K X fd107 tl ik) (As := [.int x101]) (rest := []) (st1 := [.int x106]) (c_X6_finding l g v0 u0 u1 u2 u3 k0 k1 k2 k3 h0 h1 h2 h3 s0 s1 s2 s3 c0 c1 c2 p0 r0 t0 t1 t2 t3 z0 f0 ea R N B S C P Q K X fd tl ik x101 hg) (cwV 1 hts gX6_driest_X6_finding rfl rfl rfl q_X6_finding ⟨Nat.le_of_ble_eq_true rfl, Nat.le_of_ble_eq_true rfl⟩) ⟨hx, hb, hml, hown, hts⟩ hE hP hD hS hA 6 0 rfl rfl rfl rfl hl.1 rfl rfl (Nat.le_of_ble_eq_true rfl) dX6_driest_12 (fun H locs hP hD hS => ?_)
    obtain ⟨rfl, rfl, rfl, rfl⟩ := some_p4 hf
    rw [hQ]; exact Ct.iret hx hb hr hlocks hAe hP hD hS dX6_driest_15
def fX6_soonest_L17 (R : Rf) (fd : Nat → Int32) (kx : Rf → Sv → Option (Int32 × Rf × Sv × (Nat → Int32))) : Nat → Rf → Sv → Int32 → Option (Int32 × Rf × Sv × (Nat → Int32))
  | 0, _, _, _ => none
  | k + 1, B, S, x1 => if (5 : Int32) < x1 then (kx B S) else (o2 (fX3_lookThrough S B R x1) (fun S104 R105 => if S104.2.2.2.2.1 ≤ 0 then (fX6_soonest_L17 R fd kx k R105 S104 (x1 + (1 : Int32))) else (some (x1, R105, S104, fd))))
def fX6_soonest (R : Rf) (B : Rf) (S : Sv) (fd : Nat → Int32) : Option (Int32 × Rf × Sv × (Nat → Int32)) := o1 (fX6_isTooLate R (5 : Int32)) (fun x101 => if x101 = 0 then (fX6_soonest_L17 R fd (fun B106 S107 => o2 (fX6_finding fd (-1000004 : Int32)) (fun x108 fd109 => some (x108, B106, S107, fd109))) fu B S (0 : Int32)) else (o2 (fX6_finding fd (-1000005 : Int32)) (fun x110 fd111 => some (x110, B, S, fd111))))
theorem q_X6_soonest : yX6_soonest.cls = RX6 ∧ yX6_soonest.cls ≠ "java/lang/invoke/MethodHandle" ∧ yX6_soonest.cls ≠ "java/lang/invoke/VarHandle" ∧ (parseMethodDescriptor yX6_soonest.desc).map (fun d => d.parameters.length) = some 0 := by decide +kernel
theorem i_X6_soonest_X6 : ∀ w ∈ u_ws RX6 TX6 11, w ∈ wsX6_soonest := fun _ h => List.mem_cons_of_mem _ (List.mem_append_left _ (List.mem_append_left _ (List.mem_append_right _ (h))))
theorem i_X6_soonest_X3 : ∀ w ∈ u_ws RX3 TX3 8, w ∈ wsX6_soonest := fun _ h => List.mem_cons_of_mem _ (List.mem_append_left _ (List.mem_append_right _ (h)))
set_option maxHeartbeats 4000000 in
set_option maxRecDepth 100000 in
theorem c_X6_soonest (l : Launch) (g : gG) (v0 u0 u1 u2 u3 k0 k1 k2 k3 h0 h1 h2 h3 s0 s1 s2 s3 c0 c1 c2 p0 r0 t0 t1 t2 t3 z0 f0 : Nat) (ea : Nat → Nat) (R : Rf) (N : Rf) (B : Rf) (S : Sv) (C : Ca) (P : Nat → Int32) (Q : Tr) (K : Tk) (X : F4) (fd : Nat → Int32) (tl : Int32) (ik : Int32) {r : Int32} {B' : Rf} {S' : Sv} {fd' : Nat → Int32} (hf : fX6_soonest R B S fd = some (r, B', S', fd')) : Ct l yX6_soonest wsX6_soonest (rmm 6 148) g (wV g v0 u0 u1 u2 u3 k0 k1 k2 k3 h0 h1 h2 h3 s0 s1 s2 s3 c0 c1 c2 p0 r0 t0 t1 t2 t3 z0 f0 ea R N B S C P Q K X fd tl ik) (wV g v0 u0 u1 u2 u3 k0 k1 k2 k3 h0 h1 h2 h3 s0 s1 s2 s3 c0 c1 c2 p0 r0 t0 t1 t2 t3 z0 f0 ea R N (B') (S') C P Q K X (fd') tl ik) [.ref v0] (some (.int r)) := by
  refine Ct.mk (by decide) rfl (Nat.le_of_ble_eq_true rfl) ?_
  intro p e s m args below meth c A ls hx hb hr hml hts hown hlocks hA hE hP hD hS hl hAe
  obtain ⟨Qx, hQ⟩ : ∃ Qx : State → Prop, Qx = MQ below (QcG g (wV g v0 u0 u1 u2 u3 k0 k1 k2 k3 h0 h1 h2 h3 s0 s1 s2 s3 c0 c1 c2 p0 r0 t0 t1 t2 t3 z0 f0 ea R N B S C P Q K X fd tl ik) (wV g v0 u0 u1 u2 u3 k0 k1 k2 k3 h0 h1 h2 h3 s0 s1 s2 s3 c0 c1 c2 p0 r0 t0 t1 t2 t3 z0 f0 ea R N (B') (S') C P Q K X (fd') tl ik) (some (.int r)) s.heap.size) args s 0 0 A := ⟨_, rfl⟩
  rw [← hQ]
  have hown : s.vm.findClass RX6 = some m.cls := hown
  have hl : lv_has ls 2 [(0, .ref v0)] := hl
  have w1 := hts (.fieldLink RX6 27 "RainVault" "survey" "LRainVault$Survey;") (List.mem_of_getElem? (i := 2) rfl)
  have w2 := hts (.fieldLink RX6 10 "RainVault" "roof" "LRainVault$Roof;") (List.mem_of_getElem? (i := 3) rfl)
  have w3 := hts (.constant RX6 164 (-1000004)) (List.mem_of_getElem? (i := 4) rfl)
  have w4 := hts (.constant RX6 143 (-1000005)) (List.mem_of_getElem? (i := 1) rfl)
  have L17 : ∀ (fd : Nat → Int32) (kx : Rf → Sv → Option (Int32 × Rf × Sv × (Nat → Int32))) (k : Nat) (B : Rf) (S : Sv) (x1 : Int32) (H : Heap) (locs : List Loc) (ls : Array Slot), fX6_soonest_L17 R fd kx k B S x1 = some (r, B', S', fd') → va_P g.1 vwK (wV g v0 u0 u1 u2 u3 k0 k1 k2 k3 h0 h1 h2 h3 s0 s1 s2 s3 c0 c1 c2 p0 r0 t0 t1 t2 t3 z0 f0 ea R N B S C P Q K X fd tl ik) H → va_D A (wV g v0 u0 u1 u2 u3 k0 k1 k2 k3 h0 h1 h2 h3 s0 s1 s2 s3 c0 c1 c2 p0 r0 t0 t1 t2 t3 z0 f0 ea R N B S C P Q K X fd tl ik) → va_S A s.heap H locs → lv_has ls 2 [(0, .ref v0), (1, .int x1)] → (∀ (B : Rf) (S : Sv) (H : Heap) (locs : List Loc) (ls : Array Slot), kx B S = some (r, B', S', fd') → va_P g.1 vwK (wV g v0 u0 u1 u2 u3 k0 k1 k2 k3 h0 h1 h2 h3 s0 s1 s2 s3 c0 c1 c2 p0 r0 t0 t1 t2 t3 z0 f0 ea R N B S C P Q K X fd tl ik) H → va_D A (wV g v0 u0 u1 u2 u3 k0 k1 k2 k3 h0 h1 h2 h3 s0 s1 s2 s3 c0 c1 c2 p0 r0 t0 t1 t2 t3 z0 f0 ea R N B S C P Q K X fd tl ik) → va_S A s.heap H locs → lv_has ls 2 [(0, .ref v0)] → W p l e (rmm 6 148) s m args below meth c H locs 0 0 Qx (F0 m 52 ls [])) → W p l e (rmm 6 148) s m args below meth c H locs 0 0 Qx (F0 m 17 ls []) := by
    intro fd kx k
    induction k with
    | zero => intro B S x1 H locs ls hf; exact nomatch (show (none : Option (Int32 × Rf × Sv × (Nat → Int32))) = some _ from hf)
    | succ k ih =>
      intro B S x1 H locs ls hf hP hD hS hl hk
      rw [fX6_soonest_L17] at hf
      refine lv_iload_n hx hb dX6_soonest_17 rfl (lv_at hl 1 rfl) ?_
      refine lv_iconst (v := (5 : Int32)) hx hb dX6_soonest_18 (by decide) ?_
      refine lv_icmp_gt (tgt := 52) hx hb dX6_soonest_19 (by decide) (fun hc => ?_) (fun hc => ?_)
      · have hf := if_t hf hc
        exact hk _ _ _ _ _  hf hP hD hS (lv_sub hl [0] rfl)
      · have hf := if_f hf hc
        refine lv_aload_n hx hb dX6_soonest_22 rfl (lv_at hl 0 rfl) ?_
        refine va_get (D := g.1) (ci := 6) (v := .ref s0) (C := RX6) (T := TX6) (N := 11) hx hb hts i_X6_soonest_X6 hown hE.1 hP 0 rfl rfl 3 (by decide) w1 (fun _ h9 => h9) rfl dX6_soonest_23 ?_
        refine lv_aload_n hx hb dX6_soonest_26 rfl (lv_at hl 0 rfl) ?_
        refine va_get (D := g.1) (ci := 6) (v := .ref u0) (C := RX6) (T := TX6) (N := 11) hx hb hts i_X6_soonest_X6 hown hE.1 hP 0 rfl rfl 0 (by decide) w2 (fun _ h9 => h9) rfl dX6_soonest_27 ?_
        refine lv_iload_n hx hb dX6_soonest_30 rfl (lv_at hl 1 rfl) ?_
        obtain ⟨S104, R105, hg, hf⟩ := o2_s hf
        refine Ct.callV (ws' := wV g v0 u0 u1 u2 u3 k0 k1 k2 k3 h0 h1 h2 h3 s0 s1 s2 s3 c0 c1 c2 p0 r0 t0 t1 t2 t3 z0 f0 ea R N R105 S104 C P Q K X fd tl ik) (As := [.ref u0, .int x1]) (rest := []) (st1 := []) (c_X3_lookThrough l g s0 s1 s2 s3 h0 h1 h2 h3 u0 u1 u2 u3 S B R x1 hg) (cwV 2 hts gX6_soonest_X3_lookThrough rfl rfl rfl q_X3_lookThrough ⟨Nat.le_of_ble_eq_true rfl, Nat.le_of_ble_eq_true rfl⟩) ⟨hx, hb, hml, hown, hts⟩ hE hP hD hS hA [13, 14, 15, 16, 9, 10, 11, 12, 1, 2, 3, 4] rfl rfl rfl rfl 3 13 rfl rfl rfl rfl hl.1 rfl rfl (Nat.le_of_ble_eq_true rfl) dX6_soonest_31 (fun H locs hP hD hS => ?_)
        refine lv_aload_n hx hb dX6_soonest_34 rfl (lv_at hl 0 rfl) ?_
        refine va_get (D := g.1) (ci := 6) (v := .ref s0) (C := RX6) (T := TX6) (N := 11) hx hb hts i_X6_soonest_X6 hown hE.1 hP 0 rfl rfl 3 (by decide) w1 (fun _ h9 => h9) rfl dX6_soonest_35 ?_
        refine va_getN (D := g.1) (ci := 3) (v := .int S104.2.2.2.2.1) (C := RX3) (T := TX3) (N := 8) hx hb hts i_X6_soonest_X3 hown hE.1 hP 13 rfl rfl 5 (by decide) (va_Nw.use rfl (hE.2.1 _ (List.mem_of_getElem? (i := 11) rfl))) (fun _ h9 => h9) rfl dX6_soonest_38 ?_
        refine lv_if_le (tgt := 46) hx hb dX6_soonest_41 (by decide) (fun hc => ?_) (fun hc => ?_)
        · have hf := if_t hf hc
          refine lv_iinc (v := (x1 + (1 : Int32))) (lv' := [(1, .int (x1 + (1 : Int32))), (0, .ref v0)]) hx hb dX6_soonest_46 hl (k := 1) rfl rfl (by decide) rfl (fun ls hl => ?_)
          refine lv_goto (tgt := 17) hx hb dX6_soonest_49 (by decide) ?_
          exact ih _ _ _ _ _ _  hf hP hD hS (lv_sub hl [1, 0] rfl) hk
        · have hf := if_f hf hc
          refine lv_iload_n hx hb dX6_soonest_44 rfl (lv_at hl 1 rfl) ?_
          obtain ⟨rfl, rfl, rfl, rfl⟩ := some_p4 hf
          rw [hQ]; exact Ct.iret hx hb hr hlocks hAe hP hD hS dX6_soonest_45
  unfold fX6_soonest at hf
  refine lv_aload_n hx hb dX6_soonest_0 rfl (lv_at hl 0 rfl) ?_
  refine lv_iconst (v := (5 : Int32)) hx hb dX6_soonest_1 (by decide) ?_
  obtain ⟨x101, hg, hf⟩ := o1_s hf
  refine Ct.callV0 (ws' := wV g v0 u0 u1 u2 u3 k0 k1 k2 k3 h0 h1 h2 h3 s0 s1 s2 s3 c0 c1 c2 p0 r0 t0 t1 t2 t3 z0 f0 ea R N B S C P Q K X fd tl ik) (As := [.int (5 : Int32)]) (rest := []) (st1 := [.int x101]) (c_X6_isTooLate l g v0 u0 u1 u2 u3 k0 k1 k2 k3 h0 h1 h2 h3 s0 s1 s2 s3 c0 c1 c2 p0 r0 t0 t1 t2 t3 z0 f0 ea R N B S C P Q K X fd tl ik (5 : Int32) hg) (cwV 1 hts gX6_soonest_X6_isTooLate rfl rfl rfl q_X6_isTooLate ⟨Nat.le_of_ble_eq_true rfl, Nat.le_of_ble_eq_true rfl⟩) ⟨hx, hb, hml, hown, hts⟩ hE hP hD hS hA 6 0 rfl rfl rfl rfl hl.1 rfl rfl (Nat.le_of_ble_eq_true rfl) dX6_soonest_2 (fun H locs hP hD hS => ?_)
  refine lv_if_eq (tgt := 15) hx hb dX6_soonest_5 (by decide) (fun hc => ?_) (fun hc => ?_)
  · have hf := if_t hf hc
    refine lv_iconst (v := (0 : Int32)) hx hb dX6_soonest_15 (by decide) ?_
    refine lv_istore_n (lv' := [(1, .int (0 : Int32)), (0, .ref v0)]) hx hb dX6_soonest_16 rfl hl (by decide) rfl (fun ls hl => ?_)
    refine L17 _ _ _ _ _ _ _ _ _  hf hP hD hS (lv_sub hl [1, 0] rfl) (fun B106 S107 H locs ls hf hP hD hS hl => ?_)
    refine lv_aload_n hx hb dX6_soonest_52 rfl (lv_at hl 0 rfl) ?_
    refine lv_ldc hx hb hown w3 dX6_soonest_53 ?_
    obtain ⟨x108, fd109, hg, hf⟩ := o2_s hf
    refine Ct.callV0 (ws' := wV g v0 u0 u1 u2 u3 k0 k1 k2 k3 h0 h1 h2 h3 s0 s1 s2 s3 c0 c1 c2 p0 r0 t0 t1 t2 t3 z0 f0 ea R N B106 S107 C P Q K X fd109 tl ik) (As := [.int (-1000004 : Int32)]) (rest := []) (st1 := [.int x108]) (c_X6_finding l g v0 u0 u1 u2 u3 k0 k1 k2 k3 h0 h1 h2 h3 s0 s1 s2 s3 c0 c1 c2 p0 r0 t0 t1 t2 t3 z0 f0 ea R N B106 S107 C P Q K X fd tl ik (-1000004 : Int32) hg) (cwV 1 hts gX6_soonest_X6_finding rfl rfl rfl q_X6_finding ⟨Nat.le_of_ble_eq_true rfl, Nat.le_of_ble_eq_true rfl⟩) ⟨hx, hb, hml, hown, hts⟩ hE hP hD hS hA 6 0 rfl rfl rfl rfl hl.1 rfl rfl (Nat.le_of_ble_eq_true rfl) dX6_soonest_55 (fun H locs hP hD hS => ?_)
    obtain ⟨rfl, rfl, rfl, rfl⟩ := some_p4 hf
    rw [hQ]; exact Ct.iret hx hb hr hlocks hAe hP hD hS dX6_soonest_58
  · have hf := if_f hf hc
    refine lv_aload_n hx hb dX6_soonest_8 rfl (lv_at hl 0 rfl) ?_
    refine lv_ldc hx hb hown w4 dX6_soonest_9 ?_
    obtain ⟨x110, fd111, hg, hf⟩ := o2_s hf
    refine Ct.callV0 (ws' := wV g v0 u0 u1 u2 u3 k0 k1 k2 k3 h0 h1 h2 h3 s0 s1 s2 s3 c0 c1 c2 p0 r0 t0 t1 t2 t3 z0 f0 ea R N B S C P Q K X fd111 tl ik) (As := [.int (-1000005 : Int32)]) (rest := []) (st1 := [.int x110]) (c_X6_finding l g v0 u0 u1 u2 u3 k0 k1 k2 k3 h0 h1 h2 h3 s0 s1 s2 s3 c0 c1 c2 p0 r0 t0 t1 t2 t3 z0 f0 ea R N B S C P Q K X fd tl ik (-1000005 : Int32) hg) (cwV 1 hts gX6_soonest_X6_finding rfl rfl rfl q_X6_finding ⟨Nat.le_of_ble_eq_true rfl, Nat.le_of_ble_eq_true rfl⟩) ⟨hx, hb, hml, hown, hts⟩ hE hP hD hS hA 6 0 rfl rfl rfl rfl hl.1 rfl rfl (Nat.le_of_ble_eq_true rfl) dX6_soonest_11 (fun H locs hP hD hS => ?_)
    obtain ⟨rfl, rfl, rfl, rfl⟩ := some_p4 hf
    rw [hQ]; exact Ct.iret hx hb hr hlocks hAe hP hD hS dX6_soonest_14
def fX6_needed (R : Rf) (B : Rf) (S : Sv) (fd : Nat → Int32) (a1 : Int32) : Option (Int32 × Rf × Sv × (Nat → Int32)) := o1 (fX6_faultOfRains R a1) (fun x101 => if x101 = 0 then (o2 (fX3_lookThrough S B R a1) (fun S102 R103 => if S102.2.2.2.2.1 = 0 then (o2 (fX6_finding fd (-1000004 : Int32)) (fun x104 fd105 => some (x104, R103, S102, fd105))) else (some (S102.2.2.2.2.2.2, R103, S102, fd)))) else (o2 (fX6_finding fd x101) (fun x106 fd107 => some (x106, B, S, fd107))))
theorem q_X6_needed : yX6_needed.cls = RX6 ∧ yX6_needed.cls ≠ "java/lang/invoke/MethodHandle" ∧ yX6_needed.cls ≠ "java/lang/invoke/VarHandle" ∧ (parseMethodDescriptor yX6_needed.desc).map (fun d => d.parameters.length) = some 1 := by decide +kernel
theorem i_X6_needed_X6 : ∀ w ∈ u_ws RX6 TX6 11, w ∈ wsX6_needed := fun _ h => List.mem_cons_of_mem _ (List.mem_append_left _ (List.mem_append_left _ (List.mem_append_right _ (h))))
theorem i_X6_needed_X3 : ∀ w ∈ u_ws RX3 TX3 8, w ∈ wsX6_needed := fun _ h => List.mem_cons_of_mem _ (List.mem_append_left _ (List.mem_append_right _ (h)))
set_option maxHeartbeats 4000000 in
set_option maxRecDepth 100000 in
theorem c_X6_needed (l : Launch) (g : gG) (v0 u0 u1 u2 u3 k0 k1 k2 k3 h0 h1 h2 h3 s0 s1 s2 s3 c0 c1 c2 p0 r0 t0 t1 t2 t3 z0 f0 : Nat) (ea : Nat → Nat) (R : Rf) (N : Rf) (B : Rf) (S : Sv) (C : Ca) (P : Nat → Int32) (Q : Tr) (K : Tk) (X : F4) (fd : Nat → Int32) (tl : Int32) (ik : Int32) (a1 : Int32) {r : Int32} {B' : Rf} {S' : Sv} {fd' : Nat → Int32} (hf : fX6_needed R B S fd a1 = some (r, B', S', fd')) : Ct l yX6_needed wsX6_needed (rmm 6 148) g (wV g v0 u0 u1 u2 u3 k0 k1 k2 k3 h0 h1 h2 h3 s0 s1 s2 s3 c0 c1 c2 p0 r0 t0 t1 t2 t3 z0 f0 ea R N B S C P Q K X fd tl ik) (wV g v0 u0 u1 u2 u3 k0 k1 k2 k3 h0 h1 h2 h3 s0 s1 s2 s3 c0 c1 c2 p0 r0 t0 t1 t2 t3 z0 f0 ea R N (B') (S') C P Q K X (fd') tl ik) [.ref v0, .int a1] (some (.int r)) := by
  refine Ct.mk (by decide) rfl (Nat.le_of_ble_eq_true rfl) ?_
  intro p e s m args below meth c A ls hx hb hr hml hts hown hlocks hA hE hP hD hS hl hAe
  obtain ⟨Qx, hQ⟩ : ∃ Qx : State → Prop, Qx = MQ below (QcG g (wV g v0 u0 u1 u2 u3 k0 k1 k2 k3 h0 h1 h2 h3 s0 s1 s2 s3 c0 c1 c2 p0 r0 t0 t1 t2 t3 z0 f0 ea R N B S C P Q K X fd tl ik) (wV g v0 u0 u1 u2 u3 k0 k1 k2 k3 h0 h1 h2 h3 s0 s1 s2 s3 c0 c1 c2 p0 r0 t0 t1 t2 t3 z0 f0 ea R N (B') (S') C P Q K X (fd') tl ik) (some (.int r)) s.heap.size) args s 0 0 A := ⟨_, rfl⟩
  rw [← hQ]
  have hown : s.vm.findClass RX6 = some m.cls := hown
  have hl : lv_has ls 3 [(0, .ref v0), (1, .int a1)] := hl
  have w1 := hts (.fieldLink RX6 27 "RainVault" "survey" "LRainVault$Survey;") (List.mem_of_getElem? (i := 1) rfl)
  have w2 := hts (.fieldLink RX6 10 "RainVault" "roof" "LRainVault$Roof;") (List.mem_of_getElem? (i := 2) rfl)
  have w3 := hts (.constant RX6 164 (-1000004)) (List.mem_of_getElem? (i := 3) rfl)
  unfold fX6_needed at hf
  refine lv_aload_n hx hb dX6_needed_0 rfl (lv_at hl 0 rfl) ?_
  refine lv_iload_n hx hb dX6_needed_1 rfl (lv_at hl 1 rfl) ?_
  obtain ⟨x101, hg, hf⟩ := o1_s hf
  refine Ct.callV0 (ws' := wV g v0 u0 u1 u2 u3 k0 k1 k2 k3 h0 h1 h2 h3 s0 s1 s2 s3 c0 c1 c2 p0 r0 t0 t1 t2 t3 z0 f0 ea R N B S C P Q K X fd tl ik) (As := [.int a1]) (rest := []) (st1 := [.int x101]) (c_X6_faultOfRains l g v0 u0 u1 u2 u3 k0 k1 k2 k3 h0 h1 h2 h3 s0 s1 s2 s3 c0 c1 c2 p0 r0 t0 t1 t2 t3 z0 f0 ea R N B S C P Q K X fd tl ik a1 hg) (cwV 1 hts gX6_needed_X6_faultOfRains rfl rfl rfl q_X6_faultOfRains ⟨Nat.le_of_ble_eq_true rfl, Nat.le_of_ble_eq_true rfl⟩) ⟨hx, hb, hml, hown, hts⟩ hE hP hD hS hA 6 0 rfl rfl rfl rfl hl.1 rfl rfl (Nat.le_of_ble_eq_true rfl) dX6_needed_2 (fun H locs hP hD hS => ?_)
  refine lv_istore_n (lv' := [(2, .int x101), (0, .ref v0), (1, .int a1)]) hx hb dX6_needed_5 rfl hl (by decide) rfl (fun ls hl => ?_)
  refine lv_iload_n hx hb dX6_needed_6 rfl (lv_at hl 0 rfl) ?_
  refine lv_if_eq (tgt := 16) hx hb dX6_needed_7 (by decide) (fun hc => ?_) (fun hc => ?_)
  · have hf := if_t hf hc
    refine lv_aload_n hx hb dX6_needed_16 rfl (lv_at hl 1 rfl) ?_
    refine va_get (D := g.1) (ci := 6) (v := .ref s0) (C := RX6) (T := TX6) (N := 11) hx hb hts i_X6_needed_X6 hown hE.1 hP 0 rfl rfl 3 (by decide) w1 (fun _ h9 => h9) rfl dX6_needed_17 ?_
    refine lv_aload_n hx hb dX6_needed_20 rfl (lv_at hl 1 rfl) ?_
    refine va_get (D := g.1) (ci := 6) (v := .ref u0) (C := RX6) (T := TX6) (N := 11) hx hb hts i_X6_needed_X6 hown hE.1 hP 0 rfl rfl 0 (by decide) w2 (fun _ h9 => h9) rfl dX6_needed_21 ?_
    refine lv_iload_n hx hb dX6_needed_24 rfl (lv_at hl 2 rfl) ?_
    obtain ⟨S102, R103, hg, hf⟩ := o2_s hf
    refine Ct.callV (ws' := wV g v0 u0 u1 u2 u3 k0 k1 k2 k3 h0 h1 h2 h3 s0 s1 s2 s3 c0 c1 c2 p0 r0 t0 t1 t2 t3 z0 f0 ea R N R103 S102 C P Q K X fd tl ik) (As := [.ref u0, .int a1]) (rest := []) (st1 := []) (c_X3_lookThrough l g s0 s1 s2 s3 h0 h1 h2 h3 u0 u1 u2 u3 S B R a1 hg) (cwV 2 hts gX6_needed_X3_lookThrough rfl rfl rfl q_X3_lookThrough ⟨Nat.le_of_ble_eq_true rfl, Nat.le_of_ble_eq_true rfl⟩) ⟨hx, hb, hml, hown, hts⟩ hE hP hD hS hA [13, 14, 15, 16, 9, 10, 11, 12, 1, 2, 3, 4] rfl rfl rfl rfl 3 13 rfl rfl rfl rfl hl.1 rfl rfl (Nat.le_of_ble_eq_true rfl) dX6_needed_25 (fun H locs hP hD hS => ?_)
    refine lv_aload_n hx hb dX6_needed_28 rfl (lv_at hl 1 rfl) ?_
    refine va_get (D := g.1) (ci := 6) (v := .ref s0) (C := RX6) (T := TX6) (N := 11) hx hb hts i_X6_needed_X6 hown hE.1 hP 0 rfl rfl 3 (by decide) w1 (fun _ h9 => h9) rfl dX6_needed_29 ?_
    refine va_getN (D := g.1) (ci := 3) (v := .int S102.2.2.2.2.1) (C := RX3) (T := TX3) (N := 8) hx hb hts i_X6_needed_X3 hown hE.1 hP 13 rfl rfl 5 (by decide) (va_Nw.use rfl (hE.2.1 _ (List.mem_of_getElem? (i := 11) rfl))) (fun _ h9 => h9) rfl dX6_needed_32 ?_
    refine lv_if_ne (tgt := 47) hx hb dX6_needed_35 (by decide) (fun hc => ?_) (fun hc => ?_)
    · have hf := if_f hf hc
      refine lv_aload_n hx hb dX6_needed_47 rfl (lv_at hl 1 rfl) ?_
      refine va_get (D := g.1) (ci := 6) (v := .ref s0) (C := RX6) (T := TX6) (N := 11) hx hb hts i_X6_needed_X6 hown hE.1 hP 0 rfl rfl 3 (by decide) w1 (fun _ h9 => h9) rfl dX6_needed_48 ?_
      refine va_getN (D := g.1) (ci := 3) (v := .int S102.2.2.2.2.2.2) (C := RX3) (T := TX3) (N := 8) hx hb hts i_X6_needed_X3 hown hE.1 hP 13 rfl rfl 7 (by decide) (va_Nw.use rfl (hE.2.1 _ (List.mem_of_getElem? (i := 13) rfl))) (fun _ h9 => h9) rfl dX6_needed_51 ?_
      obtain ⟨rfl, rfl, rfl, rfl⟩ := some_p4 hf
      rw [hQ]; exact Ct.iret hx hb hr hlocks hAe hP hD hS dX6_needed_54
    · have hf := if_t hf hc
      refine lv_aload_n hx hb dX6_needed_38 rfl (lv_at hl 1 rfl) ?_
      refine lv_ldc hx hb hown w3 dX6_needed_39 ?_
      obtain ⟨x104, fd105, hg, hf⟩ := o2_s hf
      refine Ct.callV0 (ws' := wV g v0 u0 u1 u2 u3 k0 k1 k2 k3 h0 h1 h2 h3 s0 s1 s2 s3 c0 c1 c2 p0 r0 t0 t1 t2 t3 z0 f0 ea R N R103 S102 C P Q K X fd105 tl ik) (As := [.int (-1000004 : Int32)]) (rest := []) (st1 := [.int x104]) (c_X6_finding l g v0 u0 u1 u2 u3 k0 k1 k2 k3 h0 h1 h2 h3 s0 s1 s2 s3 c0 c1 c2 p0 r0 t0 t1 t2 t3 z0 f0 ea R N R103 S102 C P Q K X fd tl ik (-1000004 : Int32) hg) (cwV 1 hts gX6_needed_X6_finding rfl rfl rfl q_X6_finding ⟨Nat.le_of_ble_eq_true rfl, Nat.le_of_ble_eq_true rfl⟩) ⟨hx, hb, hml, hown, hts⟩ hE hP hD hS hA 6 0 rfl rfl rfl rfl hl.1 rfl rfl (Nat.le_of_ble_eq_true rfl) dX6_needed_41 (fun H locs hP hD hS => ?_)
      refine lv_goto (tgt := 54) hx hb dX6_needed_44 (by decide) ?_
      obtain ⟨rfl, rfl, rfl, rfl⟩ := some_p4 hf
      rw [hQ]; exact Ct.iret hx hb hr hlocks hAe hP hD hS dX6_needed_54
  · have hf := if_f hf hc
    refine lv_aload_n hx hb dX6_needed_10 rfl (lv_at hl 1 rfl) ?_
    refine lv_iload_n hx hb dX6_needed_11 rfl (lv_at hl 0 rfl) ?_
    obtain ⟨x106, fd107, hg, hf⟩ := o2_s hf
    refine Ct.callV0 (ws' := wV g v0 u0 u1 u2 u3 k0 k1 k2 k3 h0 h1 h2 h3 s0 s1 s2 s3 c0 c1 c2 p0 r0 t0 t1 t2 t3 z0 f0 ea R N B S C P Q K X fd107 tl ik) (As := [.int x101]) (rest := []) (st1 := [.int x106]) (c_X6_finding l g v0 u0 u1 u2 u3 k0 k1 k2 k3 h0 h1 h2 h3 s0 s1 s2 s3 c0 c1 c2 p0 r0 t0 t1 t2 t3 z0 f0 ea R N B S C P Q K X fd tl ik x101 hg) (cwV 1 hts gX6_needed_X6_finding rfl rfl rfl q_X6_finding ⟨Nat.le_of_ble_eq_true rfl, Nat.le_of_ble_eq_true rfl⟩) ⟨hx, hb, hml, hown, hts⟩ hE hP hD hS hA 6 0 rfl rfl rfl rfl hl.1 rfl rfl (Nat.le_of_ble_eq_true rfl) dX6_needed_12 (fun H locs hP hD hS => ?_)
    obtain ⟨rfl, rfl, rfl, rfl⟩ := some_p4 hf
    rw [hQ]; exact Ct.iret hx hb hr hlocks hAe hP hD hS dX6_needed_15
def fX6_buckets (R : Rf) (B : Rf) (C : Ca) (fd : Nat → Int32) : Option (Int32 × Rf × Ca × (Nat → Int32)) := o1 (fX1_become B R) (fun R101 => o3 (fX0_fewest C R101) (fun x102 C103 R104 => if 0 ≤ x102 then (some (x102, R104, C103, fd)) else (o2 (fX6_finding fd (-1000004 : Int32)) (fun x105 fd106 => some (x105, R104, C103, fd106)))))
theorem q_X6_buckets : yX6_buckets.cls = RX6 ∧ yX6_buckets.cls ≠ "java/lang/invoke/MethodHandle" ∧ yX6_buckets.cls ≠ "java/lang/invoke/VarHandle" ∧ (parseMethodDescriptor yX6_buckets.desc).map (fun d => d.parameters.length) = some 0 := by decide +kernel
theorem i_X6_buckets_X6 : ∀ w ∈ u_ws RX6 TX6 11, w ∈ wsX6_buckets := fun _ h => List.mem_cons_of_mem _ (List.mem_append_left _ (List.mem_append_left _ (List.mem_append_right _ (h))))
set_option maxHeartbeats 4000000 in
set_option maxRecDepth 100000 in
theorem c_X6_buckets (l : Launch) (g : gG) (v0 u0 u1 u2 u3 k0 k1 k2 k3 h0 h1 h2 h3 s0 s1 s2 s3 c0 c1 c2 p0 r0 t0 t1 t2 t3 z0 f0 : Nat) (ea : Nat → Nat) (R : Rf) (N : Rf) (B : Rf) (S : Sv) (C : Ca) (P : Nat → Int32) (Q : Tr) (K : Tk) (X : F4) (fd : Nat → Int32) (tl : Int32) (ik : Int32) {r : Int32} {B' : Rf} {C' : Ca} {fd' : Nat → Int32} (hf : fX6_buckets R B C fd = some (r, B', C', fd')) : Ct l yX6_buckets wsX6_buckets (rmm 6 135) g (wV g v0 u0 u1 u2 u3 k0 k1 k2 k3 h0 h1 h2 h3 s0 s1 s2 s3 c0 c1 c2 p0 r0 t0 t1 t2 t3 z0 f0 ea R N B S C P Q K X fd tl ik) (wV g v0 u0 u1 u2 u3 k0 k1 k2 k3 h0 h1 h2 h3 s0 s1 s2 s3 c0 c1 c2 p0 r0 t0 t1 t2 t3 z0 f0 ea R N (B') S (C') P Q K X (fd') tl ik) [.ref v0] (some (.int r)) := by
  refine Ct.mk (by decide) rfl (Nat.le_of_ble_eq_true rfl) ?_
  intro p e s m args below meth c A ls hx hb hr hml hts hown hlocks hA hE hP hD hS hl hAe
  obtain ⟨Qx, hQ⟩ : ∃ Qx : State → Prop, Qx = MQ below (QcG g (wV g v0 u0 u1 u2 u3 k0 k1 k2 k3 h0 h1 h2 h3 s0 s1 s2 s3 c0 c1 c2 p0 r0 t0 t1 t2 t3 z0 f0 ea R N B S C P Q K X fd tl ik) (wV g v0 u0 u1 u2 u3 k0 k1 k2 k3 h0 h1 h2 h3 s0 s1 s2 s3 c0 c1 c2 p0 r0 t0 t1 t2 t3 z0 f0 ea R N (B') S (C') P Q K X (fd') tl ik) (some (.int r)) s.heap.size) args s 0 0 A := ⟨_, rfl⟩
  rw [← hQ]
  have hown : s.vm.findClass RX6 = some m.cls := hown
  have hl : lv_has ls 2 [(0, .ref v0)] := hl
  have w1 := hts (.fieldLink RX6 19 "RainVault" "trial" "LRainVault$Roof;") (List.mem_of_getElem? (i := 1) rfl)
  have w2 := hts (.fieldLink RX6 10 "RainVault" "roof" "LRainVault$Roof;") (List.mem_of_getElem? (i := 2) rfl)
  have w3 := hts (.fieldLink RX6 34 "RainVault" "carrier" "LRainVault$Carrier;") (List.mem_of_getElem? (i := 3) rfl)
  have w4 := hts (.constant RX6 164 (-1000004)) (List.mem_of_getElem? (i := 4) rfl)
  unfold fX6_buckets at hf
  refine lv_aload_n hx hb dX6_buckets_0 rfl (lv_at hl 0 rfl) ?_
  refine va_get (D := g.1) (ci := 6) (v := .ref h0) (C := RX6) (T := TX6) (N := 11) hx hb hts i_X6_buckets_X6 hown hE.1 hP 0 rfl rfl 2 (by decide) w1 (fun _ h9 => h9) rfl dX6_buckets_1 ?_
  refine lv_aload_n hx hb dX6_buckets_4 rfl (lv_at hl 0 rfl) ?_
  refine va_get (D := g.1) (ci := 6) (v := .ref u0) (C := RX6) (T := TX6) (N := 11) hx hb hts i_X6_buckets_X6 hown hE.1 hP 0 rfl rfl 0 (by decide) w2 (fun _ h9 => h9) rfl dX6_buckets_5 ?_
  obtain ⟨R101, hg, hf⟩ := o1_s hf
  refine Ct.callV (ws' := wV g v0 u0 u1 u2 u3 k0 k1 k2 k3 h0 h1 h2 h3 s0 s1 s2 s3 c0 c1 c2 p0 r0 t0 t1 t2 t3 z0 f0 ea R N R101 S C P Q K X fd tl ik) (As := [.ref u0]) (rest := []) (st1 := []) (c_X1_become l g h0 h1 h2 h3 u0 u1 u2 u3 B R hg) (cwV 1 hts gX6_buckets_X1_become rfl rfl rfl q_X1_become ⟨Nat.le_of_ble_eq_true rfl, Nat.le_of_ble_eq_true rfl⟩) ⟨hx, hb, hml, hown, hts⟩ hE hP hD hS hA [9, 10, 11, 12, 1, 2, 3, 4] rfl rfl rfl rfl 1 9 rfl rfl rfl rfl hl.1 rfl rfl (Nat.le_of_ble_eq_true rfl) dX6_buckets_8 (fun H locs hP hD hS => ?_)
  refine lv_aload_n hx hb dX6_buckets_11 rfl (lv_at hl 0 rfl) ?_
  refine va_get (D := g.1) (ci := 6) (v := .ref c0) (C := RX6) (T := TX6) (N := 11) hx hb hts i_X6_buckets_X6 hown hE.1 hP 0 rfl rfl 4 (by decide) w3 (fun _ h9 => h9) rfl dX6_buckets_12 ?_
  obtain ⟨x102, C103, R104, hg, hf⟩ := o3_s hf
  refine Ct.callV (ws' := wV g v0 u0 u1 u2 u3 k0 k1 k2 k3 h0 h1 h2 h3 s0 s1 s2 s3 c0 c1 c2 p0 r0 t0 t1 t2 t3 z0 f0 ea R N R104 S C103 P Q K X fd tl ik) (As := []) (rest := []) (st1 := [.int x102]) (c_X0_fewest l g c0 c1 c2 h0 h1 h2 h3 C R101 hg) (cwV 0 hts gX6_buckets_X0_fewest rfl rfl rfl q_X0_fewest ⟨Nat.le_of_ble_eq_true rfl, Nat.le_of_ble_eq_true rfl⟩) ⟨hx, hb, hml, hown, hts⟩ hE hP hD hS hA [17, 18, 19, 9, 10, 11, 12] rfl rfl rfl rfl 0 17 rfl rfl rfl rfl hl.1 rfl rfl (Nat.le_of_ble_eq_true rfl) dX6_buckets_15 (fun H locs hP hD hS => ?_)
  refine lv_istore_n (lv' := [(1, .int x102), (0, .ref v0)]) hx hb dX6_buckets_18 rfl hl (by decide) rfl (fun ls hl => ?_)
  refine lv_iload_n hx hb dX6_buckets_19 rfl (lv_at hl 0 rfl) ?_
  refine lv_if_ge (tgt := 32) hx hb dX6_buckets_20 (by decide) (fun hc => ?_) (fun hc => ?_)
  · have hf := if_t hf hc
    refine lv_iload_n hx hb dX6_buckets_32 rfl (lv_at hl 0 rfl) ?_
    obtain ⟨rfl, rfl, rfl, rfl⟩ := some_p4 hf
    rw [hQ]; exact Ct.iret hx hb hr hlocks hAe hP hD hS dX6_buckets_33
  · have hf := if_f hf hc
    refine lv_aload_n hx hb dX6_buckets_23 rfl (lv_at hl 1 rfl) ?_
    refine lv_ldc hx hb hown w4 dX6_buckets_24 ?_
    obtain ⟨x105, fd106, hg, hf⟩ := o2_s hf
    refine Ct.callV0 (ws' := wV g v0 u0 u1 u2 u3 k0 k1 k2 k3 h0 h1 h2 h3 s0 s1 s2 s3 c0 c1 c2 p0 r0 t0 t1 t2 t3 z0 f0 ea R N R104 S C103 P Q K X fd106 tl ik) (As := [.int (-1000004 : Int32)]) (rest := []) (st1 := [.int x105]) (c_X6_finding l g v0 u0 u1 u2 u3 k0 k1 k2 k3 h0 h1 h2 h3 s0 s1 s2 s3 c0 c1 c2 p0 r0 t0 t1 t2 t3 z0 f0 ea R N R104 S C103 P Q K X fd tl ik (-1000004 : Int32) hg) (cwV 1 hts gX6_buckets_X6_finding rfl rfl rfl q_X6_finding ⟨Nat.le_of_ble_eq_true rfl, Nat.le_of_ble_eq_true rfl⟩) ⟨hx, hb, hml, hown, hts⟩ hE hP hD hS hA 6 0 rfl rfl rfl rfl hl.1 rfl rfl (Nat.le_of_ble_eq_true rfl) dX6_buckets_26 (fun H locs hP hD hS => ?_)
    refine lv_goto (tgt := 33) hx hb dX6_buckets_29 (by decide) ?_
    obtain ⟨rfl, rfl, rfl, rfl⟩ := some_p4 hf
    rw [hQ]; exact Ct.iret hx hb hr hlocks hAe hP hD hS dX6_buckets_33
