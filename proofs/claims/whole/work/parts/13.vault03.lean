def fX6_carry (R : Rf) (B : Rf) (C : Ca) (fd : Nat → Int32) (a1 : Int32) : Option (Int32 × Rf × Ca × (Nat → Int32)) := o1 (fX6_isWithin a1 (0 : Int32) (3 : Int32)) (fun x101 => if x101 = 0 then (o2 (fX6_finding fd (-1000001 : Int32)) (fun x109 fd110 => some (x109, B, C, fd110))) else (o1 (fX1_become B R) (fun R102 => o3 (fX0_fewest C R102) (fun x103 C104 R105 => if a1 < x103 then (o1 (fX6_at 4 C104.2 a1) (fun x106 => some (x106, R105, C104, fd))) else (o2 (fX6_finding fd (-1000004 : Int32)) (fun x107 fd108 => some (x107, R105, C104, fd108)))))))
theorem q_X6_carry : yX6_carry.cls = RX6 ∧ yX6_carry.cls ≠ "java/lang/invoke/MethodHandle" ∧ yX6_carry.cls ≠ "java/lang/invoke/VarHandle" ∧ (parseMethodDescriptor yX6_carry.desc).map (fun d => d.parameters.length) = some 1 := by decide +kernel
theorem i_X6_carry_X6 : ∀ w ∈ u_ws RX6 TX6 11, w ∈ wsX6_carry := fun _ h => List.mem_cons_of_mem _ (List.mem_append_left _ (List.mem_append_left _ (List.mem_append_right _ (h))))
theorem i_X6_carry_X0 : ∀ w ∈ u_ws RX0 TX0 3, w ∈ wsX6_carry := fun _ h => List.mem_cons_of_mem _ (List.mem_append_left _ (List.mem_append_right _ (h)))
set_option maxHeartbeats 4000000 in
set_option maxRecDepth 100000 in
theorem c_X6_carry (l : Launch) (g : gG) (v0 u0 u1 u2 u3 k0 k1 k2 k3 h0 h1 h2 h3 s0 s1 s2 s3 c0 c1 c2 p0 r0 t0 t1 t2 t3 z0 f0 : Nat) (ea : Nat → Nat) (R : Rf) (N : Rf) (B : Rf) (S : Sv) (C : Ca) (P : Nat → Int32) (Q : Tr) (K : Tk) (X : F4) (fd : Nat → Int32) (tl : Int32) (ik : Int32) (a1 : Int32) {r : Int32} {B' : Rf} {C' : Ca} {fd' : Nat → Int32} (hf : fX6_carry R B C fd a1 = some (r, B', C', fd')) : Ct l yX6_carry wsX6_carry (rmm 6 135) g (wV g v0 u0 u1 u2 u3 k0 k1 k2 k3 h0 h1 h2 h3 s0 s1 s2 s3 c0 c1 c2 p0 r0 t0 t1 t2 t3 z0 f0 ea R N B S C P Q K X fd tl ik) (wV g v0 u0 u1 u2 u3 k0 k1 k2 k3 h0 h1 h2 h3 s0 s1 s2 s3 c0 c1 c2 p0 r0 t0 t1 t2 t3 z0 f0 ea R N (B') S (C') P Q K X (fd') tl ik) [.ref v0, .int a1] (some (.int r)) := by
  refine Ct.mk (by decide) rfl (Nat.le_of_ble_eq_true rfl) ?_
  intro p e s m args below meth c A ls hx hb hr hml hts hown hlocks hA hE hP hD hS hl hAe
  obtain ⟨Qx, hQ⟩ : ∃ Qx : State → Prop, Qx = MQ below (QcG g (wV g v0 u0 u1 u2 u3 k0 k1 k2 k3 h0 h1 h2 h3 s0 s1 s2 s3 c0 c1 c2 p0 r0 t0 t1 t2 t3 z0 f0 ea R N B S C P Q K X fd tl ik) (wV g v0 u0 u1 u2 u3 k0 k1 k2 k3 h0 h1 h2 h3 s0 s1 s2 s3 c0 c1 c2 p0 r0 t0 t1 t2 t3 z0 f0 ea R N (B') S (C') P Q K X (fd') tl ik) (some (.int r)) s.heap.size) args s 0 0 A := ⟨_, rfl⟩
  rw [← hQ]
  have hown : s.vm.findClass RX6 = some m.cls := hown
  have hl : lv_has ls 2 [(0, .ref v0), (1, .int a1)] := hl
  have w1 := hts (.fieldLink RX6 19 "RainVault" "trial" "LRainVault$Roof;") (List.mem_of_getElem? (i := 2) rfl)
  have w2 := hts (.fieldLink RX6 10 "RainVault" "roof" "LRainVault$Roof;") (List.mem_of_getElem? (i := 3) rfl)
  have w3 := hts (.fieldLink RX6 34 "RainVault" "carrier" "LRainVault$Carrier;") (List.mem_of_getElem? (i := 4) rfl)
  have w4 := hts (.constant RX6 164 (-1000004)) (List.mem_of_getElem? (i := 5) rfl)
  have w5 := hts (.constant RX6 73 (-1000001)) (List.mem_of_getElem? (i := 1) rfl)
  unfold fX6_carry at hf
  refine lv_iload_n hx hb dX6_carry_0 rfl (lv_at hl 1 rfl) ?_
  refine lv_iconst (v := (0 : Int32)) hx hb dX6_carry_1 (by decide) ?_
  refine lv_iconst (v := (3 : Int32)) hx hb dX6_carry_2 (by decide) ?_
  obtain ⟨x101, hg, hf⟩ := o1_s hf
  refine Ct.callS (ws' := wV g v0 u0 u1 u2 u3 k0 k1 k2 k3 h0 h1 h2 h3 s0 s1 s2 s3 c0 c1 c2 p0 r0 t0 t1 t2 t3 z0 f0 ea R N B S C P Q K X fd tl ik) (As := [.int a1, .int (0 : Int32), .int (3 : Int32)]) (rest := []) (st1 := [.int x101]) (c_X6_isWithin l g a1 (0 : Int32) (3 : Int32) hg) (va_cwS 3 hts gX6_carry_X6_isWithin rfl rfl rfl q_X6_isWithin.2 ⟨Nat.le_of_ble_eq_true rfl, Nat.le_of_ble_eq_true rfl⟩) ⟨hx, hb, hml, hown, hts⟩ hE hP hD hS hA [] rfl rfl rfl rfl rfl hl.1 rfl rfl (Nat.le_of_ble_eq_true rfl) dX6_carry_3 (fun H locs hP hD hS => ?_)
  refine lv_if_ne (tgt := 16) hx hb dX6_carry_6 (by decide) (fun hc => ?_) (fun hc => ?_)
  · have hf := if_f hf hc
    refine lv_aload_n hx hb dX6_carry_16 rfl (lv_at hl 0 rfl) ?_
    refine va_get (D := g.1) (ci := 6) (v := .ref h0) (C := RX6) (T := TX6) (N := 11) hx hb hts i_X6_carry_X6 hown hE.1 hP 0 rfl rfl 2 (by decide) w1 (fun _ h9 => h9) rfl dX6_carry_17 ?_
    refine lv_aload_n hx hb dX6_carry_20 rfl (lv_at hl 0 rfl) ?_
    refine va_get (D := g.1) (ci := 6) (v := .ref u0) (C := RX6) (T := TX6) (N := 11) hx hb hts i_X6_carry_X6 hown hE.1 hP 0 rfl rfl 0 (by decide) w2 (fun _ h9 => h9) rfl dX6_carry_21 ?_
    obtain ⟨R102, hg, hf⟩ := o1_s hf
    refine Ct.callV (ws' := wV g v0 u0 u1 u2 u3 k0 k1 k2 k3 h0 h1 h2 h3 s0 s1 s2 s3 c0 c1 c2 p0 r0 t0 t1 t2 t3 z0 f0 ea R N R102 S C P Q K X fd tl ik) (As := [.ref u0]) (rest := []) (st1 := []) (c_X1_become l g h0 h1 h2 h3 u0 u1 u2 u3 B R hg) (cwV 1 hts gX6_carry_X1_become rfl rfl rfl q_X1_become ⟨Nat.le_of_ble_eq_true rfl, Nat.le_of_ble_eq_true rfl⟩) ⟨hx, hb, hml, hown, hts⟩ hE hP hD hS hA [9, 10, 11, 12, 1, 2, 3, 4] rfl rfl rfl rfl 1 9 rfl rfl rfl rfl hl.1 rfl rfl (Nat.le_of_ble_eq_true rfl) dX6_carry_24 (fun H locs hP hD hS => ?_)
    refine lv_iload_n hx hb dX6_carry_27 rfl (lv_at hl 1 rfl) ?_
    refine lv_aload_n hx hb dX6_carry_28 rfl (lv_at hl 0 rfl) ?_
    refine va_get (D := g.1) (ci := 6) (v := .ref c0) (C := RX6) (T := TX6) (N := 11) hx hb hts i_X6_carry_X6 hown hE.1 hP 0 rfl rfl 4 (by decide) w3 (fun _ h9 => h9) rfl dX6_carry_29 ?_
    obtain ⟨x103, C104, R105, hg, hf⟩ := o3_s hf
    refine Ct.callV (ws' := wV g v0 u0 u1 u2 u3 k0 k1 k2 k3 h0 h1 h2 h3 s0 s1 s2 s3 c0 c1 c2 p0 r0 t0 t1 t2 t3 z0 f0 ea R N R105 S C104 P Q K X fd tl ik) (As := []) (rest := [.int a1]) (st1 := [.int x103, .int a1]) (c_X0_fewest l g c0 c1 c2 h0 h1 h2 h3 C R102 hg) (cwV 0 hts gX6_carry_X0_fewest rfl rfl rfl q_X0_fewest ⟨Nat.le_of_ble_eq_true rfl, Nat.le_of_ble_eq_true rfl⟩) ⟨hx, hb, hml, hown, hts⟩ hE hP hD hS hA [17, 18, 19, 9, 10, 11, 12] rfl rfl rfl rfl 0 17 rfl rfl rfl rfl hl.1 rfl rfl (Nat.le_of_ble_eq_true rfl) dX6_carry_32 (fun H locs hP hD hS => ?_)
    refine lv_icmp_lt (tgt := 45) hx hb dX6_carry_35 (by decide) (fun hc => ?_) (fun hc => ?_)
    · have hf := if_t hf hc
      refine lv_aload_n hx hb dX6_carry_45 rfl (lv_at hl 0 rfl) ?_
      refine va_get (D := g.1) (ci := 6) (v := .ref c0) (C := RX6) (T := TX6) (N := 11) hx hb hts i_X6_carry_X6 hown hE.1 hP 0 rfl rfl 4 (by decide) w3 (fun _ h9 => h9) rfl dX6_carry_46 ?_
      refine va_getN (D := g.1) (ci := 0) (v := .ref c2) (C := RX0) (T := TX0) (N := 3) hx hb hts i_X6_carry_X0 hown hE.1 hP 17 rfl rfl 2 (by decide) (va_Nw.use rfl (hE.2.1 _ (List.mem_of_getElem? (i := 14) rfl))) (fun _ h9 => h9) rfl dX6_carry_49 ?_
      refine lv_iload_n hx hb dX6_carry_52 rfl (lv_at hl 1 rfl) ?_
      obtain ⟨x106, hg, hf⟩ := o1_s hf
      refine Ct.callS (ws' := wV g v0 u0 u1 u2 u3 k0 k1 k2 k3 h0 h1 h2 h3 s0 s1 s2 s3 c0 c1 c2 p0 r0 t0 t1 t2 t3 z0 f0 ea R N R105 S C104 P Q K X fd tl ik) (As := [.ref c2, .int a1]) (rest := []) (st1 := [.int x106]) (c_X6_at l g c2 4 C104.2 a1 hg) (va_cwS 2 hts gX6_carry_X6_at rfl rfl rfl q_X6_at.2 ⟨Nat.le_of_ble_eq_true rfl, Nat.le_of_ble_eq_true rfl⟩) ⟨hx, hb, hml, hown, hts⟩ hE hP hD hS hA [19] rfl rfl rfl rfl rfl hl.1 rfl rfl (Nat.le_of_ble_eq_true rfl) dX6_carry_53 (fun H locs hP hD hS => ?_)
      obtain ⟨rfl, rfl, rfl, rfl⟩ := some_p4 hf
      rw [hQ]; exact Ct.iret hx hb hr hlocks hAe hP hD hS dX6_carry_56
    · have hf := if_f hf hc
      refine lv_aload_n hx hb dX6_carry_38 rfl (lv_at hl 0 rfl) ?_
      refine lv_ldc hx hb hown w4 dX6_carry_39 ?_
      obtain ⟨x107, fd108, hg, hf⟩ := o2_s hf
      refine Ct.callV0 (ws' := wV g v0 u0 u1 u2 u3 k0 k1 k2 k3 h0 h1 h2 h3 s0 s1 s2 s3 c0 c1 c2 p0 r0 t0 t1 t2 t3 z0 f0 ea R N R105 S C104 P Q K X fd108 tl ik) (As := [.int (-1000004 : Int32)]) (rest := []) (st1 := [.int x107]) (c_X6_finding l g v0 u0 u1 u2 u3 k0 k1 k2 k3 h0 h1 h2 h3 s0 s1 s2 s3 c0 c1 c2 p0 r0 t0 t1 t2 t3 z0 f0 ea R N R105 S C104 P Q K X fd tl ik (-1000004 : Int32) hg) (cwV 1 hts gX6_carry_X6_finding rfl rfl rfl q_X6_finding ⟨Nat.le_of_ble_eq_true rfl, Nat.le_of_ble_eq_true rfl⟩) ⟨hx, hb, hml, hown, hts⟩ hE hP hD hS hA 6 0 rfl rfl rfl rfl hl.1 rfl rfl (Nat.le_of_ble_eq_true rfl) dX6_carry_41 (fun H locs hP hD hS => ?_)
      obtain ⟨rfl, rfl, rfl, rfl⟩ := some_p4 hf
      rw [hQ]; exact Ct.iret hx hb hr hlocks hAe hP hD hS dX6_carry_44
  · have hf := if_t hf hc
    refine lv_aload_n hx hb dX6_carry_9 rfl (lv_at hl 0 rfl) ?_
    refine lv_ldc hx hb hown w5 dX6_carry_10 ?_
    obtain ⟨x109, fd110, hg, hf⟩ := o2_s hf
    refine Ct.callV0 (ws' := wV g v0 u0 u1 u2 u3 k0 k1 k2 k3 h0 h1 h2 h3 s0 s1 s2 s3 c0 c1 c2 p0 r0 t0 t1 t2 t3 z0 f0 ea R N B S C P Q K X fd110 tl ik) (As := [.int (-1000001 : Int32)]) (rest := []) (st1 := [.int x109]) (c_X6_finding l g v0 u0 u1 u2 u3 k0 k1 k2 k3 h0 h1 h2 h3 s0 s1 s2 s3 c0 c1 c2 p0 r0 t0 t1 t2 t3 z0 f0 ea R N B S C P Q K X fd tl ik (-1000001 : Int32) hg) (cwV 1 hts gX6_carry_X6_finding rfl rfl rfl q_X6_finding ⟨Nat.le_of_ble_eq_true rfl, Nat.le_of_ble_eq_true rfl⟩) ⟨hx, hb, hml, hown, hts⟩ hE hP hD hS hA 6 0 rfl rfl rfl rfl hl.1 rfl rfl (Nat.le_of_ble_eq_true rfl) dX6_carry_12 (fun H locs hP hD hS => ?_)
    obtain ⟨rfl, rfl, rfl, rfl⟩ := some_p4 hf
    rw [hQ]; exact Ct.iret hx hb hr hlocks hAe hP hD hS dX6_carry_15
def fX6_faultOfTrial (R : Rf) (a1 : Int32) (a2 : Int32) (a3 : Int32) : Option (Int32) := o1 (fX6_isRain a1 a2) (fun x101 => if x101 = 0 then (some (-1000001 : Int32)) else (o1 (fX6_isWithin a3 (1 : Int32) (20 : Int32)) (fun x102 => if x102 = 0 then (some (-1000001 : Int32)) else (o1 (fX6_isTooLate R a3) (fun x103 => if x103 = 0 then (some (0 : Int32)) else (some (-1000005 : Int32)))))))
theorem q_X6_faultOfTrial : yX6_faultOfTrial.cls = RX6 ∧ yX6_faultOfTrial.cls ≠ "java/lang/invoke/MethodHandle" ∧ yX6_faultOfTrial.cls ≠ "java/lang/invoke/VarHandle" ∧ (parseMethodDescriptor yX6_faultOfTrial.desc).map (fun d => d.parameters.length) = some 3 := by decide +kernel
set_option maxHeartbeats 4000000 in
set_option maxRecDepth 100000 in
theorem c_X6_faultOfTrial (l : Launch) (g : gG) (v0 u0 u1 u2 u3 k0 k1 k2 k3 h0 h1 h2 h3 s0 s1 s2 s3 c0 c1 c2 p0 r0 t0 t1 t2 t3 z0 f0 : Nat) (ea : Nat → Nat) (R : Rf) (N : Rf) (B : Rf) (S : Sv) (C : Ca) (P : Nat → Int32) (Q : Tr) (K : Tk) (X : F4) (fd : Nat → Int32) (tl : Int32) (ik : Int32) (a1 : Int32) (a2 : Int32) (a3 : Int32) {r : Int32} (hf : fX6_faultOfTrial R a1 a2 a3 = some r) : Ct l yX6_faultOfTrial wsX6_faultOfTrial (rmm 2 43) g (wV g v0 u0 u1 u2 u3 k0 k1 k2 k3 h0 h1 h2 h3 s0 s1 s2 s3 c0 c1 c2 p0 r0 t0 t1 t2 t3 z0 f0 ea R N B S C P Q K X fd tl ik) (wV g v0 u0 u1 u2 u3 k0 k1 k2 k3 h0 h1 h2 h3 s0 s1 s2 s3 c0 c1 c2 p0 r0 t0 t1 t2 t3 z0 f0 ea R N B S C P Q K X fd tl ik) [.ref v0, .int a1, .int a2, .int a3] (some (.int r)) := by
  refine Ct.mk (by decide) rfl (Nat.le_of_ble_eq_true rfl) ?_
  intro p e s m args below meth c A ls hx hb hr hml hts hown hlocks hA hE hP hD hS hl hAe
  obtain ⟨Qx, hQ⟩ : ∃ Qx : State → Prop, Qx = MQ below (QcG g (wV g v0 u0 u1 u2 u3 k0 k1 k2 k3 h0 h1 h2 h3 s0 s1 s2 s3 c0 c1 c2 p0 r0 t0 t1 t2 t3 z0 f0 ea R N B S C P Q K X fd tl ik) (wV g v0 u0 u1 u2 u3 k0 k1 k2 k3 h0 h1 h2 h3 s0 s1 s2 s3 c0 c1 c2 p0 r0 t0 t1 t2 t3 z0 f0 ea R N B S C P Q K X fd tl ik) (some (.int r)) s.heap.size) args s 0 0 A := ⟨_, rfl⟩
  rw [← hQ]
  have hown : s.vm.findClass RX6 = some m.cls := hown
  have hl : lv_has ls 4 [(0, .ref v0), (1, .int a1), (2, .int a2), (3, .int a3)] := hl
  have w1 := hts (.constant RX6 73 (-1000001)) (List.mem_of_getElem? (i := 1) rfl)
  have w2 := hts (.constant RX6 143 (-1000005)) (List.mem_of_getElem? (i := 2) rfl)
  unfold fX6_faultOfTrial at hf
  refine lv_iload_n hx hb dX6_faultOfTrial_0 rfl (lv_at hl 1 rfl) ?_
  refine lv_iload_n hx hb dX6_faultOfTrial_1 rfl (lv_at hl 2 rfl) ?_
  obtain ⟨x101, hg, hf⟩ := o1_s hf
  refine Ct.callS (ws' := wV g v0 u0 u1 u2 u3 k0 k1 k2 k3 h0 h1 h2 h3 s0 s1 s2 s3 c0 c1 c2 p0 r0 t0 t1 t2 t3 z0 f0 ea R N B S C P Q K X fd tl ik) (As := [.int a1, .int a2]) (rest := []) (st1 := [.int x101]) (c_X6_isRain l g a1 a2 hg) (va_cwS 2 hts gX6_faultOfTrial_X6_isRain rfl rfl rfl q_X6_isRain.2 ⟨Nat.le_of_ble_eq_true rfl, Nat.le_of_ble_eq_true rfl⟩) ⟨hx, hb, hml, hown, hts⟩ hE hP hD hS hA [] rfl rfl rfl rfl rfl hl.1 rfl rfl (Nat.le_of_ble_eq_true rfl) dX6_faultOfTrial_2 (fun H locs hP hD hS => ?_)
  refine lv_if_eq (tgt := 18) hx hb dX6_faultOfTrial_5 (by decide) (fun hc => ?_) (fun hc => ?_)
  · have hf := if_t hf hc
    refine lv_ldc hx hb hown w1 dX6_faultOfTrial_18 ?_
    obtain rfl := Option.some.inj hf
    rw [hQ]; exact Ct.iret hx hb hr hlocks hAe hP hD hS dX6_faultOfTrial_20
  · have hf := if_f hf hc
    refine lv_iload_n hx hb dX6_faultOfTrial_8 rfl (lv_at hl 3 rfl) ?_
    refine lv_iconst (v := (1 : Int32)) hx hb dX6_faultOfTrial_9 (by decide) ?_
    refine lv_bipush (v := (20 : Int32)) hx hb dX6_faultOfTrial_10 (by decide) ?_
    obtain ⟨x102, hg, hf⟩ := o1_s hf
    refine Ct.callS (ws' := wV g v0 u0 u1 u2 u3 k0 k1 k2 k3 h0 h1 h2 h3 s0 s1 s2 s3 c0 c1 c2 p0 r0 t0 t1 t2 t3 z0 f0 ea R N B S C P Q K X fd tl ik) (As := [.int a3, .int (1 : Int32), .int (20 : Int32)]) (rest := []) (st1 := [.int x102]) (c_X6_isWithin l g a3 (1 : Int32) (20 : Int32) hg) (va_cwS 3 hts gX6_faultOfTrial_X6_isWithin rfl rfl rfl q_X6_isWithin.2 ⟨Nat.le_of_ble_eq_true rfl, Nat.le_of_ble_eq_true rfl⟩) ⟨hx, hb, hml, hown, hts⟩ hE hP hD hS hA [] rfl rfl rfl rfl rfl hl.1 rfl rfl (Nat.le_of_ble_eq_true rfl) dX6_faultOfTrial_12 (fun H locs hP hD hS => ?_)
    refine lv_if_ne (tgt := 21) hx hb dX6_faultOfTrial_15 (by decide) (fun hc => ?_) (fun hc => ?_)
    · have hf := if_f hf hc
      refine lv_aload_n hx hb dX6_faultOfTrial_21 rfl (lv_at hl 0 rfl) ?_
      refine lv_iload_n hx hb dX6_faultOfTrial_22 rfl (lv_at hl 3 rfl) ?_
      obtain ⟨x103, hg, hf⟩ := o1_s hf
      refine Ct.callV0 (ws' := wV g v0 u0 u1 u2 u3 k0 k1 k2 k3 h0 h1 h2 h3 s0 s1 s2 s3 c0 c1 c2 p0 r0 t0 t1 t2 t3 z0 f0 ea R N B S C P Q K X fd tl ik) (As := [.int a3]) (rest := []) (st1 := [.int x103]) (c_X6_isTooLate l g v0 u0 u1 u2 u3 k0 k1 k2 k3 h0 h1 h2 h3 s0 s1 s2 s3 c0 c1 c2 p0 r0 t0 t1 t2 t3 z0 f0 ea R N B S C P Q K X fd tl ik a3 hg) (cwV 1 hts gX6_faultOfTrial_X6_isTooLate rfl rfl rfl q_X6_isTooLate ⟨Nat.le_of_ble_eq_true rfl, Nat.le_of_ble_eq_true rfl⟩) ⟨hx, hb, hml, hown, hts⟩ hE hP hD hS hA 6 0 rfl rfl rfl rfl hl.1 rfl rfl (Nat.le_of_ble_eq_true rfl) dX6_faultOfTrial_23 (fun H locs hP hD hS => ?_)
      refine lv_if_eq (tgt := 34) hx hb dX6_faultOfTrial_26 (by decide) (fun hc => ?_) (fun hc => ?_)
      · have hf := if_t hf hc
        refine lv_iconst (v := (0 : Int32)) hx hb dX6_faultOfTrial_34 (by decide) ?_
        obtain rfl := Option.some.inj hf
        rw [hQ]; exact Ct.iret hx hb hr hlocks hAe hP hD hS dX6_faultOfTrial_35
      · have hf := if_f hf hc
        refine lv_ldc hx hb hown w2 dX6_faultOfTrial_29 ?_
        refine lv_goto (tgt := 35) hx hb dX6_faultOfTrial_31 (by decide) ?_
        obtain rfl := Option.some.inj hf
        rw [hQ]; exact Ct.iret hx hb hr hlocks hAe hP hD hS dX6_faultOfTrial_35
    · have hf := if_t hf hc
      refine lv_ldc hx hb hown w1 dX6_faultOfTrial_18 ?_
      obtain rfl := Option.some.inj hf
      rw [hQ]; exact Ct.iret hx hb hr hlocks hAe hP hD hS dX6_faultOfTrial_20
def fX6_cloths_L39 (R : Rf) (fd : Nat → Int32) (x1 : Int32) (x2 : Int32) (x3 : Int32) (x5 : Int32) (kx : Rf → Option (Int32 × Rf × (Nat → Int32))) : Nat → Rf → Int32 → Option (Int32 × Rf × (Nat → Int32))
  | 0, _, _ => none
  | k + 1, B, x6 => if ((1 : Int32) <<< (R.2.2.2.1 &&& 31)) ≤ x6 then (kx B) else (o1 (fJ6_bitCount_0f7a4 x6) (fun x108 => if x108 = x5 then (o1 (fX1_become B R) (fun R109 => o1 (fX1_coverJust R109 x6) (fun R110 => o2 (fX1_passHours R110 x1 x2 x3) (fun x111 R112 => o1 (fX1_isOpen R112) (fun x113 => if x113 = 0 then (fX6_cloths_L39 R fd x1 x2 x3 x5 kx k R112 (x6 + (1 : Int32))) else (some (x6, R112, fd))))))) else (fX6_cloths_L39 R fd x1 x2 x3 x5 kx k B (x6 + (1 : Int32)))))
def fX6_cloths_L24 (R : Rf) (fd : Nat → Int32) (x1 : Int32) (x2 : Int32) (x3 : Int32) (kx : Rf → Option (Int32 × Rf × (Nat → Int32))) : Nat → Rf → Int32 → Option (Int32 × Rf × (Nat → Int32))
  | 0, _, _ => none
  | k + 1, B, x5 => if R.2.2.2.1 < x5 then (kx B) else (fX6_cloths_L39 R fd x1 x2 x3 x5 (fun B115 => fX6_cloths_L24 R fd x1 x2 x3 kx k B115 (x5 + (1 : Int32))) fu B (0 : Int32))
def fX6_cloths (R : Rf) (B : Rf) (fd : Nat → Int32) (a1 : Int32) (a2 : Int32) (a3 : Int32) : Option (Int32 × Rf × (Nat → Int32)) := o1 (fX6_faultOfTrial R a1 a2 a3) (fun x101 => if x101 = 0 then (fX6_cloths_L24 R fd a1 a2 a3 (fun B116 => o2 (fX6_finding fd (-1000004 : Int32)) (fun x117 fd118 => some (x117, B116, fd118))) fu B (0 : Int32)) else (o2 (fX6_finding fd x101) (fun x119 fd120 => some (x119, B, fd120))))
theorem q_X6_cloths : yX6_cloths.cls = RX6 ∧ yX6_cloths.cls ≠ "java/lang/invoke/MethodHandle" ∧ yX6_cloths.cls ≠ "java/lang/invoke/VarHandle" ∧ (parseMethodDescriptor yX6_cloths.desc).map (fun d => d.parameters.length) = some 3 := by decide +kernel
theorem i_X6_cloths_X6 : ∀ w ∈ u_ws RX6 TX6 11, w ∈ wsX6_cloths := fun _ h => List.mem_cons_of_mem _ (List.mem_append_left _ (List.mem_append_right _ (h)))
theorem i_X6_cloths_X1 : ∀ w ∈ u_ws RX1 TX1 9, w ∈ wsX6_cloths := fun _ h => List.mem_cons_of_mem _ (List.mem_append_right _ (h))
set_option maxHeartbeats 4000000 in
set_option maxRecDepth 100000 in
theorem c_X6_cloths (l : Launch) (g : gG) (v0 u0 u1 u2 u3 k0 k1 k2 k3 h0 h1 h2 h3 s0 s1 s2 s3 c0 c1 c2 p0 r0 t0 t1 t2 t3 z0 f0 : Nat) (ea : Nat → Nat) (R : Rf) (N : Rf) (B : Rf) (S : Sv) (C : Ca) (P : Nat → Int32) (Q : Tr) (K : Tk) (X : F4) (fd : Nat → Int32) (tl : Int32) (ik : Int32) (a1 : Int32) (a2 : Int32) (a3 : Int32) {r : Int32} {B' : Rf} {fd' : Nat → Int32} (hf : fX6_cloths R B fd a1 a2 a3 = some (r, B', fd')) : Ct l yX6_cloths wsX6_cloths (rmm 6 137) g (wV g v0 u0 u1 u2 u3 k0 k1 k2 k3 h0 h1 h2 h3 s0 s1 s2 s3 c0 c1 c2 p0 r0 t0 t1 t2 t3 z0 f0 ea R N B S C P Q K X fd tl ik) (wV g v0 u0 u1 u2 u3 k0 k1 k2 k3 h0 h1 h2 h3 s0 s1 s2 s3 c0 c1 c2 p0 r0 t0 t1 t2 t3 z0 f0 ea R N (B') S C P Q K X (fd') tl ik) [.ref v0, .int a1, .int a2, .int a3] (some (.int r)) := by
  refine Ct.mk (by decide) rfl (Nat.le_of_ble_eq_true rfl) ?_
  intro p e s m args below meth c A ls hx hb hr hml hts hown hlocks hA hE hP hD hS hl hAe
  obtain ⟨Qx, hQ⟩ : ∃ Qx : State → Prop, Qx = MQ below (QcG g (wV g v0 u0 u1 u2 u3 k0 k1 k2 k3 h0 h1 h2 h3 s0 s1 s2 s3 c0 c1 c2 p0 r0 t0 t1 t2 t3 z0 f0 ea R N B S C P Q K X fd tl ik) (wV g v0 u0 u1 u2 u3 k0 k1 k2 k3 h0 h1 h2 h3 s0 s1 s2 s3 c0 c1 c2 p0 r0 t0 t1 t2 t3 z0 f0 ea R N (B') S C P Q K X (fd') tl ik) (some (.int r)) s.heap.size) args s 0 0 A := ⟨_, rfl⟩
  rw [← hQ]
  have hown : s.vm.findClass RX6 = some m.cls := hown
  have hl : lv_has ls 7 [(0, .ref v0), (1, .int a1), (2, .int a2), (3, .int a3)] := hl
  have w1 := hts (.fieldLink RX6 10 "RainVault" "roof" "LRainVault$Roof;") (List.mem_of_getElem? (i := 1) rfl)
  have w2 := hts (.fieldLink RX6 19 "RainVault" "trial" "LRainVault$Roof;") (List.mem_of_getElem? (i := 2) rfl)
  have w3 := hts (.constant RX6 164 (-1000004)) (List.mem_of_getElem? (i := 3) rfl)
  have L39 : ∀ (fd : Nat → Int32) (x1 : Int32) (x2 : Int32) (x3 : Int32) (x5 : Int32) (kx : Rf → Option (Int32 × Rf × (Nat → Int32))) (k : Nat) (B : Rf) (x6 : Int32) (H : Heap) (locs : List Loc) (ls : Array Slot), fX6_cloths_L39 R fd x1 x2 x3 x5 kx k B x6 = some (r, B', fd') → va_P g.1 vwK (wV g v0 u0 u1 u2 u3 k0 k1 k2 k3 h0 h1 h2 h3 s0 s1 s2 s3 c0 c1 c2 p0 r0 t0 t1 t2 t3 z0 f0 ea R N B S C P Q K X fd tl ik) H → va_D A (wV g v0 u0 u1 u2 u3 k0 k1 k2 k3 h0 h1 h2 h3 s0 s1 s2 s3 c0 c1 c2 p0 r0 t0 t1 t2 t3 z0 f0 ea R N B S C P Q K X fd tl ik) → va_S A s.heap H locs → lv_has ls 7 [(0, .ref v0), (1, .int x1), (2, .int x2), (3, .int x3), (5, .int x5), (6, .int x6)] → (∀ (B : Rf) (H : Heap) (locs : List Loc) (ls : Array Slot), kx B = some (r, B', fd') → va_P g.1 vwK (wV g v0 u0 u1 u2 u3 k0 k1 k2 k3 h0 h1 h2 h3 s0 s1 s2 s3 c0 c1 c2 p0 r0 t0 t1 t2 t3 z0 f0 ea R N B S C P Q K X fd tl ik) H → va_D A (wV g v0 u0 u1 u2 u3 k0 k1 k2 k3 h0 h1 h2 h3 s0 s1 s2 s3 c0 c1 c2 p0 r0 t0 t1 t2 t3 z0 f0 ea R N B S C P Q K X fd tl ik) → va_S A s.heap H locs → lv_has ls 7 [(0, .ref v0), (1, .int x1), (2, .int x2), (3, .int x3), (5, .int x5)] → W p l e (rmm 6 137) s m args below meth c H locs 0 0 Qx (F0 m 113 ls [])) → W p l e (rmm 6 137) s m args below meth c H locs 0 0 Qx (F0 m 39 ls []) := by
    intro fd x1 x2 x3 x5 kx k
    induction k with
    | zero => intro B x6 H locs ls hf; exact nomatch (show (none : Option (Int32 × Rf × (Nat → Int32))) = some _ from hf)
    | succ k ih =>
      intro B x6 H locs ls hf hP hD hS hl hk
      rw [fX6_cloths_L39] at hf
      refine lv_iload hx hb dX6_cloths_39 (lv_at hl 5 rfl) ?_
      refine lv_iconst (v := (1 : Int32)) hx hb dX6_cloths_41 (by decide) ?_
      refine lv_aload_n hx hb dX6_cloths_42 rfl (lv_at hl 0 rfl) ?_
      refine va_get (D := g.1) (ci := 6) (v := .ref u0) (C := RX6) (T := TX6) (N := 11) hx hb hts i_X6_cloths_X6 hown hE.1 hP 0 rfl rfl 0 (by decide) w1 (fun _ h9 => h9) rfl dX6_cloths_43 ?_
      refine va_getN (D := g.1) (ci := 1) (v := .int R.2.2.2.1) (C := RX1) (T := TX1) (N := 9) hx hb hts i_X6_cloths_X1 hown hE.1 hP 1 rfl rfl 3 (by decide) (va_Nw.use rfl (hE.2.1 _ (List.mem_of_getElem? (i := 1) rfl))) (fun _ h9 => h9) rfl dX6_cloths_46 ?_
      refine lv_ishl hx hb dX6_cloths_49 ?_
      refine lv_icmp_ge (tgt := 113) hx hb dX6_cloths_50 (by decide) (fun hc => ?_) (fun hc => ?_)
      · have hf := if_t hf hc
        exact hk _ _ _ _  hf hP hD hS (lv_sub hl [0, 1, 2, 3, 4] rfl)
      · have hf := if_f hf hc
        refine lv_iload hx hb dX6_cloths_53 (lv_at hl 5 rfl) ?_
        obtain ⟨x108, hg, hf⟩ := o1_s hf
        refine Ct.callS (ws' := wV g v0 u0 u1 u2 u3 k0 k1 k2 k3 h0 h1 h2 h3 s0 s1 s2 s3 c0 c1 c2 p0 r0 t0 t1 t2 t3 z0 f0 ea R N B S C P Q K X fd tl ik) (As := [.int x6]) (rest := []) (st1 := [.int x108]) (c_J6_bitCount_0f7a4 l g x6 hg) (va_cwS 1 hts gX6_cloths_J6_bitCount_0f7a4 rfl rfl rfl q_J6_bitCount_0f7a4.2 ⟨Nat.le_of_ble_eq_true rfl, Nat.le_of_ble_eq_true rfl⟩) ⟨hx, hb, hml, hown, hts⟩ hE hP hD hS hA [] rfl rfl rfl rfl rfl hl.1 rfl rfl (Nat.le_of_ble_eq_true rfl) dX6_cloths_55 (fun H locs hP hD hS => ?_)
        refine lv_iload hx hb dX6_cloths_58 (lv_at hl 4 rfl) ?_
        refine lv_icmp_ne (tgt := 107) hx hb dX6_cloths_60 (by decide) (fun hc => ?_) (fun hc => ?_)
        · have hf := if_f hf hc
          refine lv_iinc (v := (x6 + (1 : Int32))) (lv' := [(6, .int (x6 + (1 : Int32))), (0, .ref v0), (1, .int x1), (2, .int x2), (3, .int x3), (5, .int x5)]) hx hb dX6_cloths_107 hl (k := 5) rfl rfl (by decide) rfl (fun ls hl => ?_)
          refine lv_goto (tgt := 39) hx hb dX6_cloths_110 (by decide) ?_
          exact ih _ _ _ _ _  hf hP hD hS (lv_sub hl [1, 2, 3, 4, 5, 0] rfl) hk
        · have hf := if_t hf hc
          refine lv_aload_n hx hb dX6_cloths_63 rfl (lv_at hl 0 rfl) ?_
          refine va_get (D := g.1) (ci := 6) (v := .ref h0) (C := RX6) (T := TX6) (N := 11) hx hb hts i_X6_cloths_X6 hown hE.1 hP 0 rfl rfl 2 (by decide) w2 (fun _ h9 => h9) rfl dX6_cloths_64 ?_
          refine lv_aload_n hx hb dX6_cloths_67 rfl (lv_at hl 0 rfl) ?_
          refine va_get (D := g.1) (ci := 6) (v := .ref u0) (C := RX6) (T := TX6) (N := 11) hx hb hts i_X6_cloths_X6 hown hE.1 hP 0 rfl rfl 0 (by decide) w1 (fun _ h9 => h9) rfl dX6_cloths_68 ?_
          obtain ⟨R109, hg, hf⟩ := o1_s hf
          refine Ct.callV (ws' := wV g v0 u0 u1 u2 u3 k0 k1 k2 k3 h0 h1 h2 h3 s0 s1 s2 s3 c0 c1 c2 p0 r0 t0 t1 t2 t3 z0 f0 ea R N R109 S C P Q K X fd tl ik) (As := [.ref u0]) (rest := []) (st1 := []) (c_X1_become l g h0 h1 h2 h3 u0 u1 u2 u3 B R hg) (cwV 1 hts gX6_cloths_X1_become rfl rfl rfl q_X1_become ⟨Nat.le_of_ble_eq_true rfl, Nat.le_of_ble_eq_true rfl⟩) ⟨hx, hb, hml, hown, hts⟩ hE hP hD hS hA [9, 10, 11, 12, 1, 2, 3, 4] rfl rfl rfl rfl 1 9 rfl rfl rfl rfl hl.1 rfl rfl (Nat.le_of_ble_eq_true rfl) dX6_cloths_71 (fun H locs hP hD hS => ?_)
          refine lv_aload_n hx hb dX6_cloths_74 rfl (lv_at hl 0 rfl) ?_
          refine va_get (D := g.1) (ci := 6) (v := .ref h0) (C := RX6) (T := TX6) (N := 11) hx hb hts i_X6_cloths_X6 hown hE.1 hP 0 rfl rfl 2 (by decide) w2 (fun _ h9 => h9) rfl dX6_cloths_75 ?_
          refine lv_iload hx hb dX6_cloths_78 (lv_at hl 5 rfl) ?_
          obtain ⟨R110, hg, hf⟩ := o1_s hf
          refine Ct.callV (ws' := wV g v0 u0 u1 u2 u3 k0 k1 k2 k3 h0 h1 h2 h3 s0 s1 s2 s3 c0 c1 c2 p0 r0 t0 t1 t2 t3 z0 f0 ea R N R110 S C P Q K X fd tl ik) (As := [.int x6]) (rest := []) (st1 := []) (c_X1_coverJust l g h0 h1 h2 h3 R109 x6 hg) (cwV 1 hts gX6_cloths_X1_coverJust rfl rfl rfl q_X1_coverJust ⟨Nat.le_of_ble_eq_true rfl, Nat.le_of_ble_eq_true rfl⟩) ⟨hx, hb, hml, hown, hts⟩ hE hP hD hS hA [9, 10, 11, 12] rfl rfl rfl rfl 1 9 rfl rfl rfl rfl hl.1 rfl rfl (Nat.le_of_ble_eq_true rfl) dX6_cloths_80 (fun H locs hP hD hS => ?_)
          refine lv_aload_n hx hb dX6_cloths_83 rfl (lv_at hl 0 rfl) ?_
          refine va_get (D := g.1) (ci := 6) (v := .ref h0) (C := RX6) (T := TX6) (N := 11) hx hb hts i_X6_cloths_X6 hown hE.1 hP 0 rfl rfl 2 (by decide) w2 (fun _ h9 => h9) rfl dX6_cloths_84 ?_
          refine lv_iload_n hx hb dX6_cloths_87 rfl (lv_at hl 1 rfl) ?_
          refine lv_iload_n hx hb dX6_cloths_88 rfl (lv_at hl 2 rfl) ?_
          refine lv_iload_n hx hb dX6_cloths_89 rfl (lv_at hl 3 rfl) ?_
          obtain ⟨x111, R112, hg, hf⟩ := o2_s hf
          refine Ct.callV (ws' := wV g v0 u0 u1 u2 u3 k0 k1 k2 k3 h0 h1 h2 h3 s0 s1 s2 s3 c0 c1 c2 p0 r0 t0 t1 t2 t3 z0 f0 ea R N R112 S C P Q K X fd tl ik) (As := [.int x1, .int x2, .int x3]) (rest := []) (st1 := [.int x111]) (c_X1_passHours l g h0 h1 h2 h3 R110 x1 x2 x3 hg) (cwV 3 hts gX6_cloths_X1_passHours rfl rfl rfl q_X1_passHours ⟨Nat.le_of_ble_eq_true rfl, Nat.le_of_ble_eq_true rfl⟩) ⟨hx, hb, hml, hown, hts⟩ hE hP hD hS hA [9, 10, 11, 12] rfl rfl rfl rfl 1 9 rfl rfl rfl rfl hl.1 rfl rfl (Nat.le_of_ble_eq_true rfl) dX6_cloths_90 (fun H locs hP hD hS => ?_)
          refine lv_pop hx hb dX6_cloths_93 rfl ?_
          refine lv_aload_n hx hb dX6_cloths_94 rfl (lv_at hl 0 rfl) ?_
          refine va_get (D := g.1) (ci := 6) (v := .ref h0) (C := RX6) (T := TX6) (N := 11) hx hb hts i_X6_cloths_X6 hown hE.1 hP 0 rfl rfl 2 (by decide) w2 (fun _ h9 => h9) rfl dX6_cloths_95 ?_
          obtain ⟨x113, hg, hf⟩ := o1_s hf
          refine Ct.callV (ws' := wV g v0 u0 u1 u2 u3 k0 k1 k2 k3 h0 h1 h2 h3 s0 s1 s2 s3 c0 c1 c2 p0 r0 t0 t1 t2 t3 z0 f0 ea R N R112 S C P Q K X fd tl ik) (As := []) (rest := []) (st1 := [.int x113]) (c_X1_isOpen l g h0 h1 h2 h3 R112 hg) (cwV 0 hts gX6_cloths_X1_isOpen rfl rfl rfl q_X1_isOpen ⟨Nat.le_of_ble_eq_true rfl, Nat.le_of_ble_eq_true rfl⟩) ⟨hx, hb, hml, hown, hts⟩ hE hP hD hS hA [9, 10, 11, 12] rfl rfl rfl rfl 1 9 rfl rfl rfl rfl hl.1 rfl rfl (Nat.le_of_ble_eq_true rfl) dX6_cloths_98 (fun H locs hP hD hS => ?_)
          refine lv_if_eq (tgt := 107) hx hb dX6_cloths_101 (by decide) (fun hc => ?_) (fun hc => ?_)
          · have hf := if_t hf hc
            refine lv_iinc (v := (x6 + (1 : Int32))) (lv' := [(6, .int (x6 + (1 : Int32))), (0, .ref v0), (1, .int x1), (2, .int x2), (3, .int x3), (5, .int x5)]) hx hb dX6_cloths_107 hl (k := 5) rfl rfl (by decide) rfl (fun ls hl => ?_)
            refine lv_goto (tgt := 39) hx hb dX6_cloths_110 (by decide) ?_
            exact ih _ _ _ _ _  hf hP hD hS (lv_sub hl [1, 2, 3, 4, 5, 0] rfl) hk
          · have hf := if_f hf hc
            refine lv_iload hx hb dX6_cloths_104 (lv_at hl 5 rfl) ?_
            obtain ⟨rfl, rfl, rfl⟩ := some_p3 hf
            rw [hQ]; exact Ct.iret hx hb hr hlocks hAe hP hD hS dX6_cloths_106
  have L24 : ∀ (fd : Nat → Int32) (x1 : Int32) (x2 : Int32) (x3 : Int32) (kx : Rf → Option (Int32 × Rf × (Nat → Int32))) (k : Nat) (B : Rf) (x5 : Int32) (H : Heap) (locs : List Loc) (ls : Array Slot), fX6_cloths_L24 R fd x1 x2 x3 kx k B x5 = some (r, B', fd') → va_P g.1 vwK (wV g v0 u0 u1 u2 u3 k0 k1 k2 k3 h0 h1 h2 h3 s0 s1 s2 s3 c0 c1 c2 p0 r0 t0 t1 t2 t3 z0 f0 ea R N B S C P Q K X fd tl ik) H → va_D A (wV g v0 u0 u1 u2 u3 k0 k1 k2 k3 h0 h1 h2 h3 s0 s1 s2 s3 c0 c1 c2 p0 r0 t0 t1 t2 t3 z0 f0 ea R N B S C P Q K X fd tl ik) → va_S A s.heap H locs → lv_has ls 7 [(0, .ref v0), (1, .int x1), (2, .int x2), (3, .int x3), (5, .int x5)] → (∀ (B : Rf) (H : Heap) (locs : List Loc) (ls : Array Slot), kx B = some (r, B', fd') → va_P g.1 vwK (wV g v0 u0 u1 u2 u3 k0 k1 k2 k3 h0 h1 h2 h3 s0 s1 s2 s3 c0 c1 c2 p0 r0 t0 t1 t2 t3 z0 f0 ea R N B S C P Q K X fd tl ik) H → va_D A (wV g v0 u0 u1 u2 u3 k0 k1 k2 k3 h0 h1 h2 h3 s0 s1 s2 s3 c0 c1 c2 p0 r0 t0 t1 t2 t3 z0 f0 ea R N B S C P Q K X fd tl ik) → va_S A s.heap H locs → lv_has ls 7 [(0, .ref v0)] → W p l e (rmm 6 137) s m args below meth c H locs 0 0 Qx (F0 m 119 ls [])) → W p l e (rmm 6 137) s m args below meth c H locs 0 0 Qx (F0 m 24 ls []) := by
    intro fd x1 x2 x3 kx k
    induction k with
    | zero => intro B x5 H locs ls hf; exact nomatch (show (none : Option (Int32 × Rf × (Nat → Int32))) = some _ from hf)
    | succ k ih =>
      intro B x5 H locs ls hf hP hD hS hl hk
      rw [fX6_cloths_L24] at hf
      refine lv_iload hx hb dX6_cloths_24 (lv_at hl 4 rfl) ?_
      refine lv_aload_n hx hb dX6_cloths_26 rfl (lv_at hl 0 rfl) ?_
      refine va_get (D := g.1) (ci := 6) (v := .ref u0) (C := RX6) (T := TX6) (N := 11) hx hb hts i_X6_cloths_X6 hown hE.1 hP 0 rfl rfl 0 (by decide) w1 (fun _ h9 => h9) rfl dX6_cloths_27 ?_
      refine va_getN (D := g.1) (ci := 1) (v := .int R.2.2.2.1) (C := RX1) (T := TX1) (N := 9) hx hb hts i_X6_cloths_X1 hown hE.1 hP 1 rfl rfl 3 (by decide) (va_Nw.use rfl (hE.2.1 _ (List.mem_of_getElem? (i := 1) rfl))) (fun _ h9 => h9) rfl dX6_cloths_30 ?_
      refine lv_icmp_gt (tgt := 119) hx hb dX6_cloths_33 (by decide) (fun hc => ?_) (fun hc => ?_)
      · have hf := if_t hf hc
        exact hk _ _ _ _  hf hP hD hS (lv_sub hl [0] rfl)
      · have hf := if_f hf hc
        refine lv_iconst (v := (0 : Int32)) hx hb dX6_cloths_36 (by decide) ?_
        refine lv_istore (lv' := [(6, .int (0 : Int32)), (0, .ref v0), (1, .int x1), (2, .int x2), (3, .int x3), (5, .int x5)]) hx hb dX6_cloths_37 hl (by decide) rfl (fun ls hl => ?_)
        refine L39 _ _ _ _ _ _ _ _ _ _ _ _  hf hP hD hS (lv_sub hl [1, 2, 3, 4, 5, 0] rfl) (fun B115 H locs ls hf hP hD hS hl => ?_)
        refine lv_iinc (v := (x5 + (1 : Int32))) (lv' := [(5, .int (x5 + (1 : Int32))), (0, .ref v0), (1, .int x1), (2, .int x2), (3, .int x3)]) hx hb dX6_cloths_113 hl (k := 4) rfl rfl (by decide) rfl (fun ls hl => ?_)
        refine lv_goto (tgt := 24) hx hb dX6_cloths_116 (by decide) ?_
        exact ih _ _ _ _ _  hf hP hD hS (lv_sub hl [1, 2, 3, 4, 0] rfl) hk
  unfold fX6_cloths at hf
  refine lv_aload_n hx hb dX6_cloths_0 rfl (lv_at hl 0 rfl) ?_
  refine lv_iload_n hx hb dX6_cloths_1 rfl (lv_at hl 1 rfl) ?_
  refine lv_iload_n hx hb dX6_cloths_2 rfl (lv_at hl 2 rfl) ?_
  refine lv_iload_n hx hb dX6_cloths_3 rfl (lv_at hl 3 rfl) ?_
  obtain ⟨x101, hg, hf⟩ := o1_s hf
  refine Ct.callV0 (ws' := wV g v0 u0 u1 u2 u3 k0 k1 k2 k3 h0 h1 h2 h3 s0 s1 s2 s3 c0 c1 c2 p0 r0 t0 t1 t2 t3 z0 f0 ea R N B S C P Q K X fd tl ik) (As := [.int a1, .int a2, .int a3]) (rest := []) (st1 := [.int x101]) (c_X6_faultOfTrial l g v0 u0 u1 u2 u3 k0 k1 k2 k3 h0 h1 h2 h3 s0 s1 s2 s3 c0 c1 c2 p0 r0 t0 t1 t2 t3 z0 f0 ea R N B S C P Q K X fd tl ik a1 a2 a3 hg) (cwV 3 hts gX6_cloths_X6_faultOfTrial rfl rfl rfl q_X6_faultOfTrial ⟨Nat.le_of_ble_eq_true rfl, Nat.le_of_ble_eq_true rfl⟩) ⟨hx, hb, hml, hown, hts⟩ hE hP hD hS hA 6 0 rfl rfl rfl rfl hl.1 rfl rfl (Nat.le_of_ble_eq_true rfl) dX6_cloths_4 (fun H locs hP hD hS => ?_)
  refine lv_istore (lv' := [(4, .int x101), (0, .ref v0), (1, .int a1), (2, .int a2), (3, .int a3)]) hx hb dX6_cloths_7 hl (by decide) rfl (fun ls hl => ?_)
  refine lv_iload hx hb dX6_cloths_9 (lv_at hl 0 rfl) ?_
  refine lv_if_eq (tgt := 21) hx hb dX6_cloths_11 (by decide) (fun hc => ?_) (fun hc => ?_)
  · have hf := if_t hf hc
    refine lv_iconst (v := (0 : Int32)) hx hb dX6_cloths_21 (by decide) ?_
    refine lv_istore (lv' := [(5, .int (0 : Int32)), (4, .int x101), (0, .ref v0), (1, .int a1), (2, .int a2), (3, .int a3)]) hx hb dX6_cloths_22 hl (by decide) rfl (fun ls hl => ?_)
    refine L24 _ _ _ _ _ _ _ _ _ _ _  hf hP hD hS (lv_sub hl [2, 3, 4, 5, 0] rfl) (fun B116 H locs ls hf hP hD hS hl => ?_)
    refine lv_aload_n hx hb dX6_cloths_119 rfl (lv_at hl 0 rfl) ?_
    refine lv_ldc hx hb hown w3 dX6_cloths_120 ?_
    obtain ⟨x117, fd118, hg, hf⟩ := o2_s hf
    refine Ct.callV0 (ws' := wV g v0 u0 u1 u2 u3 k0 k1 k2 k3 h0 h1 h2 h3 s0 s1 s2 s3 c0 c1 c2 p0 r0 t0 t1 t2 t3 z0 f0 ea R N B116 S C P Q K X fd118 tl ik) (As := [.int (-1000004 : Int32)]) (rest := []) (st1 := [.int x117]) (c_X6_finding l g v0 u0 u1 u2 u3 k0 k1 k2 k3 h0 h1 h2 h3 s0 s1 s2 s3 c0 c1 c2 p0 r0 t0 t1 t2 t3 z0 f0 ea R N B116 S C P Q K X fd tl ik (-1000004 : Int32) hg) (cwV 1 hts gX6_cloths_X6_finding rfl rfl rfl q_X6_finding ⟨Nat.le_of_ble_eq_true rfl, Nat.le_of_ble_eq_true rfl⟩) ⟨hx, hb, hml, hown, hts⟩ hE hP hD hS hA 6 0 rfl rfl rfl rfl hl.1 rfl rfl (Nat.le_of_ble_eq_true rfl) dX6_cloths_122 (fun H locs hP hD hS => ?_)
    obtain ⟨rfl, rfl, rfl⟩ := some_p3 hf
    rw [hQ]; exact Ct.iret hx hb hr hlocks hAe hP hD hS dX6_cloths_125
  · have hf := if_f hf hc
    refine lv_aload_n hx hb dX6_cloths_14 rfl (lv_at hl 1 rfl) ?_
    refine lv_iload hx hb dX6_cloths_15 (lv_at hl 0 rfl) ?_
    obtain ⟨x119, fd120, hg, hf⟩ := o2_s hf
    refine Ct.callV0 (ws' := wV g v0 u0 u1 u2 u3 k0 k1 k2 k3 h0 h1 h2 h3 s0 s1 s2 s3 c0 c1 c2 p0 r0 t0 t1 t2 t3 z0 f0 ea R N B S C P Q K X fd120 tl ik) (As := [.int x101]) (rest := []) (st1 := [.int x119]) (c_X6_finding l g v0 u0 u1 u2 u3 k0 k1 k2 k3 h0 h1 h2 h3 s0 s1 s2 s3 c0 c1 c2 p0 r0 t0 t1 t2 t3 z0 f0 ea R N B S C P Q K X fd tl ik x101 hg) (cwV 1 hts gX6_cloths_X6_finding rfl rfl rfl q_X6_finding ⟨Nat.le_of_ble_eq_true rfl, Nat.le_of_ble_eq_true rfl⟩) ⟨hx, hb, hml, hown, hts⟩ hE hP hD hS hA 6 0 rfl rfl rfl rfl hl.1 rfl rfl (Nat.le_of_ble_eq_true rfl) dX6_cloths_17 (fun H locs hP hD hS => ?_)
    obtain ⟨rfl, rfl, rfl⟩ := some_p3 hf
    rw [hQ]; exact Ct.iret hx hb hr hlocks hAe hP hD hS dX6_cloths_20
def fX6_guard_L63 (R : Rf) (fd : Nat → Int32) (x1 : Int32) (x2 : Int32) (x3 : Int32) (kx : Rf → Option (Int32 × Rf × (Nat → Int32))) : Nat → Rf → Int32 → Option (Int32 × Rf × (Nat → Int32))
  | 0, _, _ => none
  | k + 1, B, x5 => if R.2.2.2.1 ≤ x5 then (kx B) else (o1 (fX1_become B R) (fun R111 => o1 (fX1_set R111 x5 (4 : Int32) (-1 : Int32)) (fun R112 => o2 (fX1_passHours R112 x1 x2 x3) (fun x113 R114 => o1 (fX1_isOpen R114) (fun x115 => if x115 = 0 then (some (x5, R114, fd)) else (fX6_guard_L63 R fd x1 x2 x3 kx k R114 (x5 + (1 : Int32))))))))
def fX6_guard (R : Rf) (B : Rf) (fd : Nat → Int32) (a1 : Int32) (a2 : Int32) (a3 : Int32) : Option (Int32 × Rf × (Nat → Int32)) := o1 (fX6_faultOfTrial R a1 a2 a3) (fun x101 => if x101 = 0 then (o1 (fX1_become B R) (fun R102 => o2 (fX1_passHours R102 a1 a2 a3) (fun x103 R104 => o1 (fX1_isOpen R104) (fun x105 => if x105 = 0 then (o2 (fX6_finding fd (-1000004 : Int32)) (fun x119 fd120 => some (x119, R104, fd120))) else (fX6_guard_L63 R fd a1 a2 a3 (fun B116 => o2 (fX6_finding fd (-1000004 : Int32)) (fun x117 fd118 => some (x117, B116, fd118))) fu R104 (0 : Int32)))))) else (o2 (fX6_finding fd x101) (fun x121 fd122 => some (x121, B, fd122))))
theorem q_X6_guard : yX6_guard.cls = RX6 ∧ yX6_guard.cls ≠ "java/lang/invoke/MethodHandle" ∧ yX6_guard.cls ≠ "java/lang/invoke/VarHandle" ∧ (parseMethodDescriptor yX6_guard.desc).map (fun d => d.parameters.length) = some 3 := by decide +kernel
theorem i_X6_guard_X6 : ∀ w ∈ u_ws RX6 TX6 11, w ∈ wsX6_guard := fun _ h => List.mem_cons_of_mem _ (List.mem_append_left _ (List.mem_append_right _ (h)))
theorem i_X6_guard_X1 : ∀ w ∈ u_ws RX1 TX1 9, w ∈ wsX6_guard := fun _ h => List.mem_cons_of_mem _ (List.mem_append_right _ (h))
set_option maxHeartbeats 4000000 in
set_option maxRecDepth 100000 in
theorem c_X6_guard (l : Launch) (g : gG) (v0 u0 u1 u2 u3 k0 k1 k2 k3 h0 h1 h2 h3 s0 s1 s2 s3 c0 c1 c2 p0 r0 t0 t1 t2 t3 z0 f0 : Nat) (ea : Nat → Nat) (R : Rf) (N : Rf) (B : Rf) (S : Sv) (C : Ca) (P : Nat → Int32) (Q : Tr) (K : Tk) (X : F4) (fd : Nat → Int32) (tl : Int32) (ik : Int32) (a1 : Int32) (a2 : Int32) (a3 : Int32) {r : Int32} {B' : Rf} {fd' : Nat → Int32} (hf : fX6_guard R B fd a1 a2 a3 = some (r, B', fd')) : Ct l yX6_guard wsX6_guard (rmm 6 137) g (wV g v0 u0 u1 u2 u3 k0 k1 k2 k3 h0 h1 h2 h3 s0 s1 s2 s3 c0 c1 c2 p0 r0 t0 t1 t2 t3 z0 f0 ea R N B S C P Q K X fd tl ik) (wV g v0 u0 u1 u2 u3 k0 k1 k2 k3 h0 h1 h2 h3 s0 s1 s2 s3 c0 c1 c2 p0 r0 t0 t1 t2 t3 z0 f0 ea R N (B') S C P Q K X (fd') tl ik) [.ref v0, .int a1, .int a2, .int a3] (some (.int r)) := by
  refine Ct.mk (by decide) rfl (Nat.le_of_ble_eq_true rfl) ?_
  intro p e s m args below meth c A ls hx hb hr hml hts hown hlocks hA hE hP hD hS hl hAe
  obtain ⟨Qx, hQ⟩ : ∃ Qx : State → Prop, Qx = MQ below (QcG g (wV g v0 u0 u1 u2 u3 k0 k1 k2 k3 h0 h1 h2 h3 s0 s1 s2 s3 c0 c1 c2 p0 r0 t0 t1 t2 t3 z0 f0 ea R N B S C P Q K X fd tl ik) (wV g v0 u0 u1 u2 u3 k0 k1 k2 k3 h0 h1 h2 h3 s0 s1 s2 s3 c0 c1 c2 p0 r0 t0 t1 t2 t3 z0 f0 ea R N (B') S C P Q K X (fd') tl ik) (some (.int r)) s.heap.size) args s 0 0 A := ⟨_, rfl⟩
  rw [← hQ]
  have hown : s.vm.findClass RX6 = some m.cls := hown
  have hl : lv_has ls 6 [(0, .ref v0), (1, .int a1), (2, .int a2), (3, .int a3)] := hl
  have w1 := hts (.fieldLink RX6 19 "RainVault" "trial" "LRainVault$Roof;") (List.mem_of_getElem? (i := 1) rfl)
  have w2 := hts (.fieldLink RX6 10 "RainVault" "roof" "LRainVault$Roof;") (List.mem_of_getElem? (i := 2) rfl)
  have w3 := hts (.constant RX6 164 (-1000004)) (List.mem_of_getElem? (i := 3) rfl)
  have L63 : ∀ (fd : Nat → Int32) (x1 : Int32) (x2 : Int32) (x3 : Int32) (kx : Rf → Option (Int32 × Rf × (Nat → Int32))) (k : Nat) (B : Rf) (x5 : Int32) (H : Heap) (locs : List Loc) (ls : Array Slot), fX6_guard_L63 R fd x1 x2 x3 kx k B x5 = some (r, B', fd') → va_P g.1 vwK (wV g v0 u0 u1 u2 u3 k0 k1 k2 k3 h0 h1 h2 h3 s0 s1 s2 s3 c0 c1 c2 p0 r0 t0 t1 t2 t3 z0 f0 ea R N B S C P Q K X fd tl ik) H → va_D A (wV g v0 u0 u1 u2 u3 k0 k1 k2 k3 h0 h1 h2 h3 s0 s1 s2 s3 c0 c1 c2 p0 r0 t0 t1 t2 t3 z0 f0 ea R N B S C P Q K X fd tl ik) → va_S A s.heap H locs → lv_has ls 6 [(0, .ref v0), (1, .int x1), (2, .int x2), (3, .int x3), (5, .int x5)] → (∀ (B : Rf) (H : Heap) (locs : List Loc) (ls : Array Slot), kx B = some (r, B', fd') → va_P g.1 vwK (wV g v0 u0 u1 u2 u3 k0 k1 k2 k3 h0 h1 h2 h3 s0 s1 s2 s3 c0 c1 c2 p0 r0 t0 t1 t2 t3 z0 f0 ea R N B S C P Q K X fd tl ik) H → va_D A (wV g v0 u0 u1 u2 u3 k0 k1 k2 k3 h0 h1 h2 h3 s0 s1 s2 s3 c0 c1 c2 p0 r0 t0 t1 t2 t3 z0 f0 ea R N B S C P Q K X fd tl ik) → va_S A s.heap H locs → lv_has ls 6 [(0, .ref v0)] → W p l e (rmm 6 137) s m args below meth c H locs 0 0 Qx (F0 m 127 ls [])) → W p l e (rmm 6 137) s m args below meth c H locs 0 0 Qx (F0 m 63 ls []) := by
    intro fd x1 x2 x3 kx k
    induction k with
    | zero => intro B x5 H locs ls hf; exact nomatch (show (none : Option (Int32 × Rf × (Nat → Int32))) = some _ from hf)
    | succ k ih =>
      intro B x5 H locs ls hf hP hD hS hl hk
      rw [fX6_guard_L63] at hf
      refine lv_iload hx hb dX6_guard_63 (lv_at hl 4 rfl) ?_
      refine lv_aload_n hx hb dX6_guard_65 rfl (lv_at hl 0 rfl) ?_
      refine va_get (D := g.1) (ci := 6) (v := .ref u0) (C := RX6) (T := TX6) (N := 11) hx hb hts i_X6_guard_X6 hown hE.1 hP 0 rfl rfl 0 (by decide) w2 (fun _ h9 => h9) rfl dX6_guard_66 ?_
      refine va_getN (D := g.1) (ci := 1) (v := .int R.2.2.2.1) (C := RX1) (T := TX1) (N := 9) hx hb hts i_X6_guard_X1 hown hE.1 hP 1 rfl rfl 3 (by decide) (va_Nw.use rfl (hE.2.1 _ (List.mem_of_getElem? (i := 1) rfl))) (fun _ h9 => h9) rfl dX6_guard_69 ?_
      refine lv_icmp_ge (tgt := 127) hx hb dX6_guard_72 (by decide) (fun hc => ?_) (fun hc => ?_)
      · have hf := if_t hf hc
        exact hk _ _ _ _  hf hP hD hS (lv_sub hl [0] rfl)
      · have hf := if_f hf hc
        refine lv_aload_n hx hb dX6_guard_75 rfl (lv_at hl 0 rfl) ?_
        refine va_get (D := g.1) (ci := 6) (v := .ref h0) (C := RX6) (T := TX6) (N := 11) hx hb hts i_X6_guard_X6 hown hE.1 hP 0 rfl rfl 2 (by decide) w1 (fun _ h9 => h9) rfl dX6_guard_76 ?_
        refine lv_aload_n hx hb dX6_guard_79 rfl (lv_at hl 0 rfl) ?_
        refine va_get (D := g.1) (ci := 6) (v := .ref u0) (C := RX6) (T := TX6) (N := 11) hx hb hts i_X6_guard_X6 hown hE.1 hP 0 rfl rfl 0 (by decide) w2 (fun _ h9 => h9) rfl dX6_guard_80 ?_
        obtain ⟨R111, hg, hf⟩ := o1_s hf
        refine Ct.callV (ws' := wV g v0 u0 u1 u2 u3 k0 k1 k2 k3 h0 h1 h2 h3 s0 s1 s2 s3 c0 c1 c2 p0 r0 t0 t1 t2 t3 z0 f0 ea R N R111 S C P Q K X fd tl ik) (As := [.ref u0]) (rest := []) (st1 := []) (c_X1_become l g h0 h1 h2 h3 u0 u1 u2 u3 B R hg) (cwV 1 hts gX6_guard_X1_become rfl rfl rfl q_X1_become ⟨Nat.le_of_ble_eq_true rfl, Nat.le_of_ble_eq_true rfl⟩) ⟨hx, hb, hml, hown, hts⟩ hE hP hD hS hA [9, 10, 11, 12, 1, 2, 3, 4] rfl rfl rfl rfl 1 9 rfl rfl rfl rfl hl.1 rfl rfl (Nat.le_of_ble_eq_true rfl) dX6_guard_83 (fun H locs hP hD hS => ?_)
        refine lv_aload_n hx hb dX6_guard_86 rfl (lv_at hl 0 rfl) ?_
        refine va_get (D := g.1) (ci := 6) (v := .ref h0) (C := RX6) (T := TX6) (N := 11) hx hb hts i_X6_guard_X6 hown hE.1 hP 0 rfl rfl 2 (by decide) w1 (fun _ h9 => h9) rfl dX6_guard_87 ?_
        refine lv_iload hx hb dX6_guard_90 (lv_at hl 4 rfl) ?_
        refine lv_iconst (v := (4 : Int32)) hx hb dX6_guard_92 (by decide) ?_
        refine lv_iconst (v := (-1 : Int32)) hx hb dX6_guard_93 (by decide) ?_
        obtain ⟨R112, hg, hf⟩ := o1_s hf
        refine Ct.callV (ws' := wV g v0 u0 u1 u2 u3 k0 k1 k2 k3 h0 h1 h2 h3 s0 s1 s2 s3 c0 c1 c2 p0 r0 t0 t1 t2 t3 z0 f0 ea R N R112 S C P Q K X fd tl ik) (As := [.int x5, .int (4 : Int32), .int (-1 : Int32)]) (rest := []) (st1 := []) (c_X1_set l g h0 h1 h2 h3 R111 x5 (4 : Int32) (-1 : Int32) hg) (cwV 3 hts gX6_guard_X1_set rfl rfl rfl q_X1_set ⟨Nat.le_of_ble_eq_true rfl, Nat.le_of_ble_eq_true rfl⟩) ⟨hx, hb, hml, hown, hts⟩ hE hP hD hS hA [9, 10, 11, 12] rfl rfl rfl rfl 1 9 rfl rfl rfl rfl hl.1 rfl rfl (Nat.le_of_ble_eq_true rfl) dX6_guard_94 (fun H locs hP hD hS => ?_)
        refine lv_aload_n hx hb dX6_guard_97 rfl (lv_at hl 0 rfl) ?_
        refine va_get (D := g.1) (ci := 6) (v := .ref h0) (C := RX6) (T := TX6) (N := 11) hx hb hts i_X6_guard_X6 hown hE.1 hP 0 rfl rfl 2 (by decide) w1 (fun _ h9 => h9) rfl dX6_guard_98 ?_
        refine lv_iload_n hx hb dX6_guard_101 rfl (lv_at hl 1 rfl) ?_
        refine lv_iload_n hx hb dX6_guard_102 rfl (lv_at hl 2 rfl) ?_
        refine lv_iload_n hx hb dX6_guard_103 rfl (lv_at hl 3 rfl) ?_
        obtain ⟨x113, R114, hg, hf⟩ := o2_s hf
        refine Ct.callV (ws' := wV g v0 u0 u1 u2 u3 k0 k1 k2 k3 h0 h1 h2 h3 s0 s1 s2 s3 c0 c1 c2 p0 r0 t0 t1 t2 t3 z0 f0 ea R N R114 S C P Q K X fd tl ik) (As := [.int x1, .int x2, .int x3]) (rest := []) (st1 := [.int x113]) (c_X1_passHours l g h0 h1 h2 h3 R112 x1 x2 x3 hg) (cwV 3 hts gX6_guard_X1_passHours rfl rfl rfl q_X1_passHours ⟨Nat.le_of_ble_eq_true rfl, Nat.le_of_ble_eq_true rfl⟩) ⟨hx, hb, hml, hown, hts⟩ hE hP hD hS hA [9, 10, 11, 12] rfl rfl rfl rfl 1 9 rfl rfl rfl rfl hl.1 rfl rfl (Nat.le_of_ble_eq_true rfl) dX6_guard_104 (fun H locs hP hD hS => ?_)
        refine lv_pop hx hb dX6_guard_107 rfl ?_
        refine lv_aload_n hx hb dX6_guard_108 rfl (lv_at hl 0 rfl) ?_
        refine va_get (D := g.1) (ci := 6) (v := .ref h0) (C := RX6) (T := TX6) (N := 11) hx hb hts i_X6_guard_X6 hown hE.1 hP 0 rfl rfl 2 (by decide) w1 (fun _ h9 => h9) rfl dX6_guard_109 ?_
        obtain ⟨x115, hg, hf⟩ := o1_s hf
        refine Ct.callV (ws' := wV g v0 u0 u1 u2 u3 k0 k1 k2 k3 h0 h1 h2 h3 s0 s1 s2 s3 c0 c1 c2 p0 r0 t0 t1 t2 t3 z0 f0 ea R N R114 S C P Q K X fd tl ik) (As := []) (rest := []) (st1 := [.int x115]) (c_X1_isOpen l g h0 h1 h2 h3 R114 hg) (cwV 0 hts gX6_guard_X1_isOpen rfl rfl rfl q_X1_isOpen ⟨Nat.le_of_ble_eq_true rfl, Nat.le_of_ble_eq_true rfl⟩) ⟨hx, hb, hml, hown, hts⟩ hE hP hD hS hA [9, 10, 11, 12] rfl rfl rfl rfl 1 9 rfl rfl rfl rfl hl.1 rfl rfl (Nat.le_of_ble_eq_true rfl) dX6_guard_112 (fun H locs hP hD hS => ?_)
        refine lv_if_ne (tgt := 121) hx hb dX6_guard_115 (by decide) (fun hc => ?_) (fun hc => ?_)
        · have hf := if_f hf hc
          refine lv_iinc (v := (x5 + (1 : Int32))) (lv' := [(5, .int (x5 + (1 : Int32))), (0, .ref v0), (1, .int x1), (2, .int x2), (3, .int x3)]) hx hb dX6_guard_121 hl (k := 4) rfl rfl (by decide) rfl (fun ls hl => ?_)
          refine lv_goto (tgt := 63) hx hb dX6_guard_124 (by decide) ?_
          exact ih _ _ _ _ _  hf hP hD hS (lv_sub hl [1, 2, 3, 4, 0] rfl) hk
        · have hf := if_t hf hc
          refine lv_iload hx hb dX6_guard_118 (lv_at hl 4 rfl) ?_
          obtain ⟨rfl, rfl, rfl⟩ := some_p3 hf
          rw [hQ]; exact Ct.iret hx hb hr hlocks hAe hP hD hS dX6_guard_120
  unfold fX6_guard at hf
  refine lv_aload_n hx hb dX6_guard_0 rfl (lv_at hl 0 rfl) ?_
  refine lv_iload_n hx hb dX6_guard_1 rfl (lv_at hl 1 rfl) ?_
  refine lv_iload_n hx hb dX6_guard_2 rfl (lv_at hl 2 rfl) ?_
  refine lv_iload_n hx hb dX6_guard_3 rfl (lv_at hl 3 rfl) ?_
  obtain ⟨x101, hg, hf⟩ := o1_s hf
  refine Ct.callV0 (ws' := wV g v0 u0 u1 u2 u3 k0 k1 k2 k3 h0 h1 h2 h3 s0 s1 s2 s3 c0 c1 c2 p0 r0 t0 t1 t2 t3 z0 f0 ea R N B S C P Q K X fd tl ik) (As := [.int a1, .int a2, .int a3]) (rest := []) (st1 := [.int x101]) (c_X6_faultOfTrial l g v0 u0 u1 u2 u3 k0 k1 k2 k3 h0 h1 h2 h3 s0 s1 s2 s3 c0 c1 c2 p0 r0 t0 t1 t2 t3 z0 f0 ea R N B S C P Q K X fd tl ik a1 a2 a3 hg) (cwV 3 hts gX6_guard_X6_faultOfTrial rfl rfl rfl q_X6_faultOfTrial ⟨Nat.le_of_ble_eq_true rfl, Nat.le_of_ble_eq_true rfl⟩) ⟨hx, hb, hml, hown, hts⟩ hE hP hD hS hA 6 0 rfl rfl rfl rfl hl.1 rfl rfl (Nat.le_of_ble_eq_true rfl) dX6_guard_4 (fun H locs hP hD hS => ?_)
  refine lv_istore (lv' := [(4, .int x101), (0, .ref v0), (1, .int a1), (2, .int a2), (3, .int a3)]) hx hb dX6_guard_7 hl (by decide) rfl (fun ls hl => ?_)
  refine lv_iload hx hb dX6_guard_9 (lv_at hl 0 rfl) ?_
  refine lv_if_eq (tgt := 21) hx hb dX6_guard_11 (by decide) (fun hc => ?_) (fun hc => ?_)
  · have hf := if_t hf hc
    refine lv_aload_n hx hb dX6_guard_21 rfl (lv_at hl 1 rfl) ?_
    refine va_get (D := g.1) (ci := 6) (v := .ref h0) (C := RX6) (T := TX6) (N := 11) hx hb hts i_X6_guard_X6 hown hE.1 hP 0 rfl rfl 2 (by decide) w1 (fun _ h9 => h9) rfl dX6_guard_22 ?_
    refine lv_aload_n hx hb dX6_guard_25 rfl (lv_at hl 1 rfl) ?_
    refine va_get (D := g.1) (ci := 6) (v := .ref u0) (C := RX6) (T := TX6) (N := 11) hx hb hts i_X6_guard_X6 hown hE.1 hP 0 rfl rfl 0 (by decide) w2 (fun _ h9 => h9) rfl dX6_guard_26 ?_
    obtain ⟨R102, hg, hf⟩ := o1_s hf
    refine Ct.callV (ws' := wV g v0 u0 u1 u2 u3 k0 k1 k2 k3 h0 h1 h2 h3 s0 s1 s2 s3 c0 c1 c2 p0 r0 t0 t1 t2 t3 z0 f0 ea R N R102 S C P Q K X fd tl ik) (As := [.ref u0]) (rest := []) (st1 := []) (c_X1_become l g h0 h1 h2 h3 u0 u1 u2 u3 B R hg) (cwV 1 hts gX6_guard_X1_become rfl rfl rfl q_X1_become ⟨Nat.le_of_ble_eq_true rfl, Nat.le_of_ble_eq_true rfl⟩) ⟨hx, hb, hml, hown, hts⟩ hE hP hD hS hA [9, 10, 11, 12, 1, 2, 3, 4] rfl rfl rfl rfl 1 9 rfl rfl rfl rfl hl.1 rfl rfl (Nat.le_of_ble_eq_true rfl) dX6_guard_29 (fun H locs hP hD hS => ?_)
    refine lv_aload_n hx hb dX6_guard_32 rfl (lv_at hl 1 rfl) ?_
    refine va_get (D := g.1) (ci := 6) (v := .ref h0) (C := RX6) (T := TX6) (N := 11) hx hb hts i_X6_guard_X6 hown hE.1 hP 0 rfl rfl 2 (by decide) w1 (fun _ h9 => h9) rfl dX6_guard_33 ?_
    refine lv_iload_n hx hb dX6_guard_36 rfl (lv_at hl 2 rfl) ?_
    refine lv_iload_n hx hb dX6_guard_37 rfl (lv_at hl 3 rfl) ?_
    refine lv_iload_n hx hb dX6_guard_38 rfl (lv_at hl 4 rfl) ?_
    obtain ⟨x103, R104, hg, hf⟩ := o2_s hf
    refine Ct.callV (ws' := wV g v0 u0 u1 u2 u3 k0 k1 k2 k3 h0 h1 h2 h3 s0 s1 s2 s3 c0 c1 c2 p0 r0 t0 t1 t2 t3 z0 f0 ea R N R104 S C P Q K X fd tl ik) (As := [.int a1, .int a2, .int a3]) (rest := []) (st1 := [.int x103]) (c_X1_passHours l g h0 h1 h2 h3 R102 a1 a2 a3 hg) (cwV 3 hts gX6_guard_X1_passHours rfl rfl rfl q_X1_passHours ⟨Nat.le_of_ble_eq_true rfl, Nat.le_of_ble_eq_true rfl⟩) ⟨hx, hb, hml, hown, hts⟩ hE hP hD hS hA [9, 10, 11, 12] rfl rfl rfl rfl 1 9 rfl rfl rfl rfl hl.1 rfl rfl (Nat.le_of_ble_eq_true rfl) dX6_guard_39 (fun H locs hP hD hS => ?_)
    refine lv_pop hx hb dX6_guard_42 rfl ?_
    refine lv_aload_n hx hb dX6_guard_43 rfl (lv_at hl 1 rfl) ?_
    refine va_get (D := g.1) (ci := 6) (v := .ref h0) (C := RX6) (T := TX6) (N := 11) hx hb hts i_X6_guard_X6 hown hE.1 hP 0 rfl rfl 2 (by decide) w1 (fun _ h9 => h9) rfl dX6_guard_44 ?_
    obtain ⟨x105, hg, hf⟩ := o1_s hf
    refine Ct.callV (ws' := wV g v0 u0 u1 u2 u3 k0 k1 k2 k3 h0 h1 h2 h3 s0 s1 s2 s3 c0 c1 c2 p0 r0 t0 t1 t2 t3 z0 f0 ea R N R104 S C P Q K X fd tl ik) (As := []) (rest := []) (st1 := [.int x105]) (c_X1_isOpen l g h0 h1 h2 h3 R104 hg) (cwV 0 hts gX6_guard_X1_isOpen rfl rfl rfl q_X1_isOpen ⟨Nat.le_of_ble_eq_true rfl, Nat.le_of_ble_eq_true rfl⟩) ⟨hx, hb, hml, hown, hts⟩ hE hP hD hS hA [9, 10, 11, 12] rfl rfl rfl rfl 1 9 rfl rfl rfl rfl hl.1 rfl rfl (Nat.le_of_ble_eq_true rfl) dX6_guard_47 (fun H locs hP hD hS => ?_)
    refine lv_if_ne (tgt := 60) hx hb dX6_guard_50 (by decide) (fun hc => ?_) (fun hc => ?_)
    · have hf := if_f hf hc
      refine lv_iconst (v := (0 : Int32)) hx hb dX6_guard_60 (by decide) ?_
      refine lv_istore (lv' := [(5, .int (0 : Int32)), (4, .int x101), (0, .ref v0), (1, .int a1), (2, .int a2), (3, .int a3)]) hx hb dX6_guard_61 hl (by decide) rfl (fun ls hl => ?_)
      refine L63 _ _ _ _ _ _ _ _ _ _ _  hf hP hD hS (lv_sub hl [2, 3, 4, 5, 0] rfl) (fun B116 H locs ls hf hP hD hS hl => ?_)
      refine lv_aload_n hx hb dX6_guard_127 rfl (lv_at hl 0 rfl) ?_
      refine lv_ldc hx hb hown w3 dX6_guard_128 ?_
      obtain ⟨x117, fd118, hg, hf⟩ := o2_s hf
      refine Ct.callV0 (ws' := wV g v0 u0 u1 u2 u3 k0 k1 k2 k3 h0 h1 h2 h3 s0 s1 s2 s3 c0 c1 c2 p0 r0 t0 t1 t2 t3 z0 f0 ea R N B116 S C P Q K X fd118 tl ik) (As := [.int (-1000004 : Int32)]) (rest := []) (st1 := [.int x117]) (c_X6_finding l g v0 u0 u1 u2 u3 k0 k1 k2 k3 h0 h1 h2 h3 s0 s1 s2 s3 c0 c1 c2 p0 r0 t0 t1 t2 t3 z0 f0 ea R N B116 S C P Q K X fd tl ik (-1000004 : Int32) hg) (cwV 1 hts gX6_guard_X6_finding rfl rfl rfl q_X6_finding ⟨Nat.le_of_ble_eq_true rfl, Nat.le_of_ble_eq_true rfl⟩) ⟨hx, hb, hml, hown, hts⟩ hE hP hD hS hA 6 0 rfl rfl rfl rfl hl.1 rfl rfl (Nat.le_of_ble_eq_true rfl) dX6_guard_130 (fun H locs hP hD hS => ?_)
      obtain ⟨rfl, rfl, rfl⟩ := some_p3 hf
      rw [hQ]; exact Ct.iret hx hb hr hlocks hAe hP hD hS dX6_guard_133
    · have hf := if_t hf hc
      refine lv_aload_n hx hb dX6_guard_53 rfl (lv_at hl 1 rfl) ?_
      refine lv_ldc hx hb hown w3 dX6_guard_54 ?_
      obtain ⟨x119, fd120, hg, hf⟩ := o2_s hf
      refine Ct.callV0 (ws' := wV g v0 u0 u1 u2 u3 k0 k1 k2 k3 h0 h1 h2 h3 s0 s1 s2 s3 c0 c1 c2 p0 r0 t0 t1 t2 t3 z0 f0 ea R N R104 S C P Q K X fd120 tl ik) (As := [.int (-1000004 : Int32)]) (rest := []) (st1 := [.int x119]) (c_X6_finding l g v0 u0 u1 u2 u3 k0 k1 k2 k3 h0 h1 h2 h3 s0 s1 s2 s3 c0 c1 c2 p0 r0 t0 t1 t2 t3 z0 f0 ea R N R104 S C P Q K X fd tl ik (-1000004 : Int32) hg) (cwV 1 hts gX6_guard_X6_finding rfl rfl rfl q_X6_finding ⟨Nat.le_of_ble_eq_true rfl, Nat.le_of_ble_eq_true rfl⟩) ⟨hx, hb, hml, hown, hts⟩ hE hP hD hS hA 6 0 rfl rfl rfl rfl hl.1 rfl rfl (Nat.le_of_ble_eq_true rfl) dX6_guard_56 (fun H locs hP hD hS => ?_)
      obtain ⟨rfl, rfl, rfl⟩ := some_p3 hf
      rw [hQ]; exact Ct.iret hx hb hr hlocks hAe hP hD hS dX6_guard_59
  · have hf := if_f hf hc
    refine lv_aload_n hx hb dX6_guard_14 rfl (lv_at hl 1 rfl) ?_
    refine lv_iload hx hb dX6_guard_15 (lv_at hl 0 rfl) ?_
    obtain ⟨x121, fd122, hg, hf⟩ := o2_s hf
    refine Ct.callV0 (ws' := wV g v0 u0 u1 u2 u3 k0 k1 k2 k3 h0 h1 h2 h3 s0 s1 s2 s3 c0 c1 c2 p0 r0 t0 t1 t2 t3 z0 f0 ea R N B S C P Q K X fd122 tl ik) (As := [.int x101]) (rest := []) (st1 := [.int x121]) (c_X6_finding l g v0 u0 u1 u2 u3 k0 k1 k2 k3 h0 h1 h2 h3 s0 s1 s2 s3 c0 c1 c2 p0 r0 t0 t1 t2 t3 z0 f0 ea R N B S C P Q K X fd tl ik x101 hg) (cwV 1 hts gX6_guard_X6_finding rfl rfl rfl q_X6_finding ⟨Nat.le_of_ble_eq_true rfl, Nat.le_of_ble_eq_true rfl⟩) ⟨hx, hb, hml, hown, hts⟩ hE hP hD hS hA 6 0 rfl rfl rfl rfl hl.1 rfl rfl (Nat.le_of_ble_eq_true rfl) dX6_guard_17 (fun H locs hP hD hS => ?_)
    obtain ⟨rfl, rfl, rfl⟩ := some_p3 hf
    rw [hQ]; exact Ct.iret hx hb hr hlocks hAe hP hD hS dX6_guard_20
def fX6_weak_L23 (R : Rf) (x1 : Int32) (kx : Rf → Ca → Int32 → Option (Int32 × Rf × Ca)) : Nat → Rf → Ca → Int32 → Int32 → Option (Int32 × Rf × Ca)
  | 0, _, _, _, _ => none
  | k + 1, B, C, x2, x3 => if R.2.2.2.2.1 ≤ x3 then (kx B C x2) else (o1 (fX1_become B R) (fun R110 => o1 (fX1_removeCondition R110 x3) (fun R111 => o3 (fX0_fewest C R111) (fun x112 C113 R114 => if x112 = x1 then (fX6_weak_L23 R x1 kx k R114 C113 x2 (x3 + (1 : Int32))) else (fX6_weak_L23 R x1 kx k R114 C113 (x2 ||| ((1 : Int32) <<< (x3 &&& 31))) (x3 + (1 : Int32)))))))
def fX6_weak (R : Rf) (B : Rf) (C : Ca) : Option (Int32 × Rf × Ca) := o1 (fX1_become B R) (fun R101 => o3 (fX0_fewest C R101) (fun x102 C103 R104 => fX6_weak_L23 R x102 (fun B115 C116 x117 => some (x117, B115, C116)) fu R104 C103 (0 : Int32) (0 : Int32)))
theorem q_X6_weak : yX6_weak.cls = RX6 ∧ yX6_weak.cls ≠ "java/lang/invoke/MethodHandle" ∧ yX6_weak.cls ≠ "java/lang/invoke/VarHandle" ∧ (parseMethodDescriptor yX6_weak.desc).map (fun d => d.parameters.length) = some 0 := by decide +kernel
theorem i_X6_weak_X6 : ∀ w ∈ u_ws RX6 TX6 11, w ∈ wsX6_weak := fun _ h => List.mem_cons_of_mem _ (List.mem_append_left _ (List.mem_append_left _ (List.mem_append_right _ (h))))
theorem i_X6_weak_X1 : ∀ w ∈ u_ws RX1 TX1 9, w ∈ wsX6_weak := fun _ h => List.mem_cons_of_mem _ (List.mem_append_left _ (List.mem_append_right _ (h)))
set_option maxHeartbeats 4000000 in
set_option maxRecDepth 100000 in
theorem c_X6_weak (l : Launch) (g : gG) (v0 u0 u1 u2 u3 k0 k1 k2 k3 h0 h1 h2 h3 s0 s1 s2 s3 c0 c1 c2 p0 r0 t0 t1 t2 t3 z0 f0 : Nat) (ea : Nat → Nat) (R : Rf) (N : Rf) (B : Rf) (S : Sv) (C : Ca) (P : Nat → Int32) (Q : Tr) (K : Tk) (X : F4) (fd : Nat → Int32) (tl : Int32) (ik : Int32) {r : Int32} {B' : Rf} {C' : Ca} (hf : fX6_weak R B C = some (r, B', C')) : Ct l yX6_weak wsX6_weak (rmm 6 135) g (wV g v0 u0 u1 u2 u3 k0 k1 k2 k3 h0 h1 h2 h3 s0 s1 s2 s3 c0 c1 c2 p0 r0 t0 t1 t2 t3 z0 f0 ea R N B S C P Q K X fd tl ik) (wV g v0 u0 u1 u2 u3 k0 k1 k2 k3 h0 h1 h2 h3 s0 s1 s2 s3 c0 c1 c2 p0 r0 t0 t1 t2 t3 z0 f0 ea R N (B') S (C') P Q K X fd tl ik) [.ref v0] (some (.int r)) := by
  refine Ct.mk (by decide) rfl (Nat.le_of_ble_eq_true rfl) ?_
  intro p e s m args below meth c A ls hx hb hr hml hts hown hlocks hA hE hP hD hS hl hAe
  obtain ⟨Qx, hQ⟩ : ∃ Qx : State → Prop, Qx = MQ below (QcG g (wV g v0 u0 u1 u2 u3 k0 k1 k2 k3 h0 h1 h2 h3 s0 s1 s2 s3 c0 c1 c2 p0 r0 t0 t1 t2 t3 z0 f0 ea R N B S C P Q K X fd tl ik) (wV g v0 u0 u1 u2 u3 k0 k1 k2 k3 h0 h1 h2 h3 s0 s1 s2 s3 c0 c1 c2 p0 r0 t0 t1 t2 t3 z0 f0 ea R N (B') S (C') P Q K X fd tl ik) (some (.int r)) s.heap.size) args s 0 0 A := ⟨_, rfl⟩
  rw [← hQ]
  have hown : s.vm.findClass RX6 = some m.cls := hown
  have hl : lv_has ls 4 [(0, .ref v0)] := hl
  have w1 := hts (.fieldLink RX6 19 "RainVault" "trial" "LRainVault$Roof;") (List.mem_of_getElem? (i := 1) rfl)
  have w2 := hts (.fieldLink RX6 10 "RainVault" "roof" "LRainVault$Roof;") (List.mem_of_getElem? (i := 2) rfl)
  have w3 := hts (.fieldLink RX6 34 "RainVault" "carrier" "LRainVault$Carrier;") (List.mem_of_getElem? (i := 3) rfl)
  have L23 : ∀ (x1 : Int32) (kx : Rf → Ca → Int32 → Option (Int32 × Rf × Ca)) (k : Nat) (B : Rf) (C : Ca) (x2 : Int32) (x3 : Int32) (H : Heap) (locs : List Loc) (ls : Array Slot), fX6_weak_L23 R x1 kx k B C x2 x3 = some (r, B', C') → va_P g.1 vwK (wV g v0 u0 u1 u2 u3 k0 k1 k2 k3 h0 h1 h2 h3 s0 s1 s2 s3 c0 c1 c2 p0 r0 t0 t1 t2 t3 z0 f0 ea R N B S C P Q K X fd tl ik) H → va_D A (wV g v0 u0 u1 u2 u3 k0 k1 k2 k3 h0 h1 h2 h3 s0 s1 s2 s3 c0 c1 c2 p0 r0 t0 t1 t2 t3 z0 f0 ea R N B S C P Q K X fd tl ik) → va_S A s.heap H locs → lv_has ls 4 [(0, .ref v0), (1, .int x1), (2, .int x2), (3, .int x3)] → (∀ (B : Rf) (C : Ca) (x2 : Int32) (H : Heap) (locs : List Loc) (ls : Array Slot), kx B C x2 = some (r, B', C') → va_P g.1 vwK (wV g v0 u0 u1 u2 u3 k0 k1 k2 k3 h0 h1 h2 h3 s0 s1 s2 s3 c0 c1 c2 p0 r0 t0 t1 t2 t3 z0 f0 ea R N B S C P Q K X fd tl ik) H → va_D A (wV g v0 u0 u1 u2 u3 k0 k1 k2 k3 h0 h1 h2 h3 s0 s1 s2 s3 c0 c1 c2 p0 r0 t0 t1 t2 t3 z0 f0 ea R N B S C P Q K X fd tl ik) → va_S A s.heap H locs → lv_has ls 4 [(2, .int x2)] → W p l e (rmm 6 135) s m args below meth c H locs 0 0 Qx (F0 m 76 ls [])) → W p l e (rmm 6 135) s m args below meth c H locs 0 0 Qx (F0 m 23 ls []) := by
    intro x1 kx k
    induction k with
    | zero => intro B C x2 x3 H locs ls hf; exact nomatch (show (none : Option (Int32 × Rf × Ca)) = some _ from hf)
    | succ k ih =>
      intro B C x2 x3 H locs ls hf hP hD hS hl hk
      rw [fX6_weak_L23] at hf
      refine lv_iload_n hx hb dX6_weak_23 rfl (lv_at hl 3 rfl) ?_
      refine lv_aload_n hx hb dX6_weak_24 rfl (lv_at hl 0 rfl) ?_
      refine va_get (D := g.1) (ci := 6) (v := .ref u0) (C := RX6) (T := TX6) (N := 11) hx hb hts i_X6_weak_X6 hown hE.1 hP 0 rfl rfl 0 (by decide) w2 (fun _ h9 => h9) rfl dX6_weak_25 ?_
      refine va_getN (D := g.1) (ci := 1) (v := .int R.2.2.2.2.1) (C := RX1) (T := TX1) (N := 9) hx hb hts i_X6_weak_X1 hown hE.1 hP 1 rfl rfl 4 (by decide) (va_Nw.use rfl (hE.2.1 _ (List.mem_of_getElem? (i := 4) rfl))) (fun _ h9 => h9) rfl dX6_weak_28 ?_
      refine lv_icmp_ge (tgt := 76) hx hb dX6_weak_31 (by decide) (fun hc => ?_) (fun hc => ?_)
      · have hf := if_t hf hc
        exact hk _ _ _ _ _ _  hf hP hD hS (lv_sub hl [2] rfl)
      · have hf := if_f hf hc
        refine lv_aload_n hx hb dX6_weak_34 rfl (lv_at hl 0 rfl) ?_
        refine va_get (D := g.1) (ci := 6) (v := .ref h0) (C := RX6) (T := TX6) (N := 11) hx hb hts i_X6_weak_X6 hown hE.1 hP 0 rfl rfl 2 (by decide) w1 (fun _ h9 => h9) rfl dX6_weak_35 ?_
        refine lv_aload_n hx hb dX6_weak_38 rfl (lv_at hl 0 rfl) ?_
        refine va_get (D := g.1) (ci := 6) (v := .ref u0) (C := RX6) (T := TX6) (N := 11) hx hb hts i_X6_weak_X6 hown hE.1 hP 0 rfl rfl 0 (by decide) w2 (fun _ h9 => h9) rfl dX6_weak_39 ?_
        obtain ⟨R110, hg, hf⟩ := o1_s hf
        refine Ct.callV (ws' := wV g v0 u0 u1 u2 u3 k0 k1 k2 k3 h0 h1 h2 h3 s0 s1 s2 s3 c0 c1 c2 p0 r0 t0 t1 t2 t3 z0 f0 ea R N R110 S C P Q K X fd tl ik) (As := [.ref u0]) (rest := []) (st1 := []) (c_X1_become l g h0 h1 h2 h3 u0 u1 u2 u3 B R hg) (cwV 1 hts gX6_weak_X1_become rfl rfl rfl q_X1_become ⟨Nat.le_of_ble_eq_true rfl, Nat.le_of_ble_eq_true rfl⟩) ⟨hx, hb, hml, hown, hts⟩ hE hP hD hS hA [9, 10, 11, 12, 1, 2, 3, 4] rfl rfl rfl rfl 1 9 rfl rfl rfl rfl hl.1 rfl rfl (Nat.le_of_ble_eq_true rfl) dX6_weak_42 (fun H locs hP hD hS => ?_)
        refine lv_aload_n hx hb dX6_weak_45 rfl (lv_at hl 0 rfl) ?_
        refine va_get (D := g.1) (ci := 6) (v := .ref h0) (C := RX6) (T := TX6) (N := 11) hx hb hts i_X6_weak_X6 hown hE.1 hP 0 rfl rfl 2 (by decide) w1 (fun _ h9 => h9) rfl dX6_weak_46 ?_
        refine lv_iload_n hx hb dX6_weak_49 rfl (lv_at hl 3 rfl) ?_
        obtain ⟨R111, hg, hf⟩ := o1_s hf
        refine Ct.callV (ws' := wV g v0 u0 u1 u2 u3 k0 k1 k2 k3 h0 h1 h2 h3 s0 s1 s2 s3 c0 c1 c2 p0 r0 t0 t1 t2 t3 z0 f0 ea R N R111 S C P Q K X fd tl ik) (As := [.int x3]) (rest := []) (st1 := []) (c_X1_removeCondition l g h0 h1 h2 h3 R110 x3 hg) (cwV 1 hts gX6_weak_X1_removeCondition rfl rfl rfl q_X1_removeCondition ⟨Nat.le_of_ble_eq_true rfl, Nat.le_of_ble_eq_true rfl⟩) ⟨hx, hb, hml, hown, hts⟩ hE hP hD hS hA [9, 10, 11, 12] rfl rfl rfl rfl 1 9 rfl rfl rfl rfl hl.1 rfl rfl (Nat.le_of_ble_eq_true rfl) dX6_weak_50 (fun H locs hP hD hS => ?_)
        refine lv_aload_n hx hb dX6_weak_53 rfl (lv_at hl 0 rfl) ?_
        refine va_get (D := g.1) (ci := 6) (v := .ref c0) (C := RX6) (T := TX6) (N := 11) hx hb hts i_X6_weak_X6 hown hE.1 hP 0 rfl rfl 4 (by decide) w3 (fun _ h9 => h9) rfl dX6_weak_54 ?_
        obtain ⟨x112, C113, R114, hg, hf⟩ := o3_s hf
        refine Ct.callV (ws' := wV g v0 u0 u1 u2 u3 k0 k1 k2 k3 h0 h1 h2 h3 s0 s1 s2 s3 c0 c1 c2 p0 r0 t0 t1 t2 t3 z0 f0 ea R N R114 S C113 P Q K X fd tl ik) (As := []) (rest := []) (st1 := [.int x112]) (c_X0_fewest l g c0 c1 c2 h0 h1 h2 h3 C R111 hg) (cwV 0 hts gX6_weak_X0_fewest rfl rfl rfl q_X0_fewest ⟨Nat.le_of_ble_eq_true rfl, Nat.le_of_ble_eq_true rfl⟩) ⟨hx, hb, hml, hown, hts⟩ hE hP hD hS hA [17, 18, 19, 9, 10, 11, 12] rfl rfl rfl rfl 0 17 rfl rfl rfl rfl hl.1 rfl rfl (Nat.le_of_ble_eq_true rfl) dX6_weak_57 (fun H locs hP hD hS => ?_)
        refine lv_iload_n hx hb dX6_weak_60 rfl (lv_at hl 1 rfl) ?_
        refine lv_icmp_eq (tgt := 70) hx hb dX6_weak_61 (by decide) (fun hc => ?_) (fun hc => ?_)
        · have hf := if_t hf hc
          refine lv_iinc (v := (x3 + (1 : Int32))) (lv' := [(3, .int (x3 + (1 : Int32))), (0, .ref v0), (1, .int x1), (2, .int x2)]) hx hb dX6_weak_70 hl (k := 3) rfl rfl (by decide) rfl (fun ls hl => ?_)
          refine lv_goto (tgt := 23) hx hb dX6_weak_73 (by decide) ?_
          exact ih _ _ _ _ _ _ _  hf hP hD hS (lv_sub hl [1, 2, 3, 0] rfl) hk
        · have hf := if_f hf hc
          refine lv_iload_n hx hb dX6_weak_64 rfl (lv_at hl 2 rfl) ?_
          refine lv_iconst (v := (1 : Int32)) hx hb dX6_weak_65 (by decide) ?_
          refine lv_iload_n hx hb dX6_weak_66 rfl (lv_at hl 3 rfl) ?_
          refine lv_ishl hx hb dX6_weak_67 ?_
          refine lv_ior hx hb dX6_weak_68 ?_
          refine lv_istore_n (lv' := [(2, .int (x2 ||| ((1 : Int32) <<< (x3 &&& 31)))), (0, .ref v0), (1, .int x1), (3, .int x3)]) hx hb dX6_weak_69 rfl hl (by decide) rfl (fun ls hl => ?_)
          refine lv_iinc (v := (x3 + (1 : Int32))) (lv' := [(3, .int (x3 + (1 : Int32))), (2, .int (x2 ||| ((1 : Int32) <<< (x3 &&& 31)))), (0, .ref v0), (1, .int x1)]) hx hb dX6_weak_70 hl (k := 3) rfl rfl (by decide) rfl (fun ls hl => ?_)
          refine lv_goto (tgt := 23) hx hb dX6_weak_73 (by decide) ?_
          exact ih _ _ _ _ _ _ _  hf hP hD hS (lv_sub hl [2, 3, 1, 0] rfl) hk
  unfold fX6_weak at hf
  refine lv_aload_n hx hb dX6_weak_0 rfl (lv_at hl 0 rfl) ?_
  refine va_get (D := g.1) (ci := 6) (v := .ref h0) (C := RX6) (T := TX6) (N := 11) hx hb hts i_X6_weak_X6 hown hE.1 hP 0 rfl rfl 2 (by decide) w1 (fun _ h9 => h9) rfl dX6_weak_1 ?_
  refine lv_aload_n hx hb dX6_weak_4 rfl (lv_at hl 0 rfl) ?_
  refine va_get (D := g.1) (ci := 6) (v := .ref u0) (C := RX6) (T := TX6) (N := 11) hx hb hts i_X6_weak_X6 hown hE.1 hP 0 rfl rfl 0 (by decide) w2 (fun _ h9 => h9) rfl dX6_weak_5 ?_
  obtain ⟨R101, hg, hf⟩ := o1_s hf
  refine Ct.callV (ws' := wV g v0 u0 u1 u2 u3 k0 k1 k2 k3 h0 h1 h2 h3 s0 s1 s2 s3 c0 c1 c2 p0 r0 t0 t1 t2 t3 z0 f0 ea R N R101 S C P Q K X fd tl ik) (As := [.ref u0]) (rest := []) (st1 := []) (c_X1_become l g h0 h1 h2 h3 u0 u1 u2 u3 B R hg) (cwV 1 hts gX6_weak_X1_become rfl rfl rfl q_X1_become ⟨Nat.le_of_ble_eq_true rfl, Nat.le_of_ble_eq_true rfl⟩) ⟨hx, hb, hml, hown, hts⟩ hE hP hD hS hA [9, 10, 11, 12, 1, 2, 3, 4] rfl rfl rfl rfl 1 9 rfl rfl rfl rfl hl.1 rfl rfl (Nat.le_of_ble_eq_true rfl) dX6_weak_8 (fun H locs hP hD hS => ?_)
  refine lv_aload_n hx hb dX6_weak_11 rfl (lv_at hl 0 rfl) ?_
  refine va_get (D := g.1) (ci := 6) (v := .ref c0) (C := RX6) (T := TX6) (N := 11) hx hb hts i_X6_weak_X6 hown hE.1 hP 0 rfl rfl 4 (by decide) w3 (fun _ h9 => h9) rfl dX6_weak_12 ?_
  obtain ⟨x102, C103, R104, hg, hf⟩ := o3_s hf
  refine Ct.callV (ws' := wV g v0 u0 u1 u2 u3 k0 k1 k2 k3 h0 h1 h2 h3 s0 s1 s2 s3 c0 c1 c2 p0 r0 t0 t1 t2 t3 z0 f0 ea R N R104 S C103 P Q K X fd tl ik) (As := []) (rest := []) (st1 := [.int x102]) (c_X0_fewest l g c0 c1 c2 h0 h1 h2 h3 C R101 hg) (cwV 0 hts gX6_weak_X0_fewest rfl rfl rfl q_X0_fewest ⟨Nat.le_of_ble_eq_true rfl, Nat.le_of_ble_eq_true rfl⟩) ⟨hx, hb, hml, hown, hts⟩ hE hP hD hS hA [17, 18, 19, 9, 10, 11, 12] rfl rfl rfl rfl 0 17 rfl rfl rfl rfl hl.1 rfl rfl (Nat.le_of_ble_eq_true rfl) dX6_weak_15 (fun H locs hP hD hS => ?_)
  refine lv_istore_n (lv' := [(1, .int x102), (0, .ref v0)]) hx hb dX6_weak_18 rfl hl (by decide) rfl (fun ls hl => ?_)
  refine lv_iconst (v := (0 : Int32)) hx hb dX6_weak_19 (by decide) ?_
  refine lv_istore_n (lv' := [(2, .int (0 : Int32)), (1, .int x102), (0, .ref v0)]) hx hb dX6_weak_20 rfl hl (by decide) rfl (fun ls hl => ?_)
  refine lv_iconst (v := (0 : Int32)) hx hb dX6_weak_21 (by decide) ?_
  refine lv_istore_n (lv' := [(3, .int (0 : Int32)), (2, .int (0 : Int32)), (1, .int x102), (0, .ref v0)]) hx hb dX6_weak_22 rfl hl (by decide) rfl (fun ls hl => ?_)
  refine L23 _ _ _ _ _ _ _ _ _ _  hf hP hD hS (lv_sub hl [3, 2, 1, 0] rfl) (fun B115 C116 x117 H locs ls hf hP hD hS hl => ?_)
  refine lv_iload_n hx hb dX6_weak_76 rfl (lv_at hl 0 rfl) ?_
  obtain ⟨rfl, rfl, rfl⟩ := some_p3 hf
  rw [hQ]; exact Ct.iret hx hb hr hlocks hAe hP hD hS dX6_weak_77
def fX6_leaks_L67 (R : Rf) (x1 : Int32) (x2 : Int32) (x3 : Int32) (x4 : Int32) (x5 : Int32) (kx : Rf → Int32 → Option (Int32 × Rf × (Nat → Int32))) : Nat → Rf → Int32 → Int32 → Option (Int32 × Rf × (Nat → Int32))
  | 0, _, _, _ => none
  | k + 1, B, x8, x9 => if (9 : Int32) < x9 then (kx B x8) else (o1 (fX1_become B R) (fun R107 => o1 (fX1_set R107 x1 (3 : Int32) x9) (fun R108 => o2 (fX1_passHours R108 x2 x3 x4) (fun x109 R110 => o1 (fX1_get R110 x1 (2 : Int32)) (fun x111 => if x111 = x5 then (fX6_leaks_L67 R x1 x2 x3 x4 x5 kx k R110 (x8 ||| ((1 : Int32) <<< (x9 &&& 31))) (x9 + (1 : Int32))) else (fX6_leaks_L67 R x1 x2 x3 x4 x5 kx k R110 x8 (x9 + (1 : Int32))))))))
def fX6_leaks_J27 (R : Rf) (B : Rf) (fd : Nat → Int32) (x1 : Int32) (x2 : Int32) (x3 : Int32) (x4 : Int32) (x5 : Int32) (y0 : Int32) : Option (Int32 × Rf × (Nat → Int32)) := if y0 = 0 then (if (-1000001 : Int32) = 0 then (fX6_leaks_L67 R x1 x2 x3 x4 x5 (fun B112 x113 => some (x113, B112, fd)) fu B (0 : Int32) (0 : Int32)) else (o2 (fX6_finding fd (-1000001 : Int32)) (fun x114 fd115 => some (x114, B, fd115)))) else (o1 (fX6_faultOfTrial R x2 x3 x4) (fun x116 => if x116 = 0 then (fX6_leaks_L67 R x1 x2 x3 x4 x5 (fun B117 x118 => some (x118, B117, fd)) fu B (0 : Int32) (0 : Int32)) else (o2 (fX6_finding fd x116) (fun x119 fd120 => some (x119, B, fd120)))))
def fX6_leaks_J26 (R : Rf) (B : Rf) (fd : Nat → Int32) (x1 : Int32) (x2 : Int32) (x3 : Int32) (x4 : Int32) (x5 : Int32) : Option (Int32 × Rf × (Nat → Int32)) := fX6_leaks_J27 R B fd x1 x2 x3 x4 x5 (0 : Int32)
def fX6_leaks (R : Rf) (B : Rf) (fd : Nat → Int32) (a1 : Int32) (a2 : Int32) (a3 : Int32) (a4 : Int32) (a5 : Int32) : Option (Int32 × Rf × (Nat → Int32)) := o1 (fX1_hasCistern R a1) (fun x101 => if x101 = 0 then (fX6_leaks_J26 R B fd a1 a2 a3 a4 a5) else (o1 (fX6_isWithin a5 (0 : Int32) (40 : Int32)) (fun x121 => if x121 = 0 then (fX6_leaks_J26 R B fd a1 a2 a3 a4 a5) else (fX6_leaks_J27 R B fd a1 a2 a3 a4 a5 (1 : Int32)))))
theorem q_X6_leaks : yX6_leaks.cls = RX6 ∧ yX6_leaks.cls ≠ "java/lang/invoke/MethodHandle" ∧ yX6_leaks.cls ≠ "java/lang/invoke/VarHandle" ∧ (parseMethodDescriptor yX6_leaks.desc).map (fun d => d.parameters.length) = some 5 := by decide +kernel
theorem i_X6_leaks_X6 : ∀ w ∈ u_ws RX6 TX6 11, w ∈ wsX6_leaks := fun _ h => List.mem_cons_of_mem _ (List.mem_append_left _ (List.mem_append_right _ (h)))
set_option maxHeartbeats 4000000 in
set_option maxRecDepth 100000 in
theorem c_X6_leaks (l : Launch) (g : gG) (v0 u0 u1 u2 u3 k0 k1 k2 k3 h0 h1 h2 h3 s0 s1 s2 s3 c0 c1 c2 p0 r0 t0 t1 t2 t3 z0 f0 : Nat) (ea : Nat → Nat) (R : Rf) (N : Rf) (B : Rf) (S : Sv) (C : Ca) (P : Nat → Int32) (Q : Tr) (K : Tk) (X : F4) (fd : Nat → Int32) (tl : Int32) (ik : Int32) (a1 : Int32) (a2 : Int32) (a3 : Int32) (a4 : Int32) (a5 : Int32) {r : Int32} {B' : Rf} {fd' : Nat → Int32} (hf : fX6_leaks R B fd a1 a2 a3 a4 a5 = some (r, B', fd')) : Ct l yX6_leaks wsX6_leaks (rmm 6 137) g (wV g v0 u0 u1 u2 u3 k0 k1 k2 k3 h0 h1 h2 h3 s0 s1 s2 s3 c0 c1 c2 p0 r0 t0 t1 t2 t3 z0 f0 ea R N B S C P Q K X fd tl ik) (wV g v0 u0 u1 u2 u3 k0 k1 k2 k3 h0 h1 h2 h3 s0 s1 s2 s3 c0 c1 c2 p0 r0 t0 t1 t2 t3 z0 f0 ea R N (B') S C P Q K X (fd') tl ik) [.ref v0, .int a1, .int a2, .int a3, .int a4, .int a5] (some (.int r)) := by
  refine Ct.mk (by decide) rfl (Nat.le_of_ble_eq_true rfl) ?_
  intro p e s m args below meth c A ls hx hb hr hml hts hown hlocks hA hE hP hD hS hl hAe
  obtain ⟨Qx, hQ⟩ : ∃ Qx : State → Prop, Qx = MQ below (QcG g (wV g v0 u0 u1 u2 u3 k0 k1 k2 k3 h0 h1 h2 h3 s0 s1 s2 s3 c0 c1 c2 p0 r0 t0 t1 t2 t3 z0 f0 ea R N B S C P Q K X fd tl ik) (wV g v0 u0 u1 u2 u3 k0 k1 k2 k3 h0 h1 h2 h3 s0 s1 s2 s3 c0 c1 c2 p0 r0 t0 t1 t2 t3 z0 f0 ea R N (B') S C P Q K X (fd') tl ik) (some (.int r)) s.heap.size) args s 0 0 A := ⟨_, rfl⟩
  rw [← hQ]
  have hown : s.vm.findClass RX6 = some m.cls := hown
  have hl : lv_has ls 10 [(0, .ref v0), (1, .int a1), (2, .int a2), (3, .int a3), (4, .int a4), (5, .int a5)] := hl
  have w1 := hts (.fieldLink RX6 10 "RainVault" "roof" "LRainVault$Roof;") (List.mem_of_getElem? (i := 1) rfl)
  have w2 := hts (.constant RX6 73 (-1000001)) (List.mem_of_getElem? (i := 2) rfl)
  have w3 := hts (.fieldLink RX6 19 "RainVault" "trial" "LRainVault$Roof;") (List.mem_of_getElem? (i := 3) rfl)
  have L67 : ∀ (fd : Nat → Int32) (x1 : Int32) (x2 : Int32) (x3 : Int32) (x4 : Int32) (x5 : Int32) (kx : Rf → Int32 → Option (Int32 × Rf × (Nat → Int32))) (k : Nat) (B : Rf) (x8 : Int32) (x9 : Int32) (H : Heap) (locs : List Loc) (ls : Array Slot), fX6_leaks_L67 R x1 x2 x3 x4 x5 kx k B x8 x9 = some (r, B', fd') → va_P g.1 vwK (wV g v0 u0 u1 u2 u3 k0 k1 k2 k3 h0 h1 h2 h3 s0 s1 s2 s3 c0 c1 c2 p0 r0 t0 t1 t2 t3 z0 f0 ea R N B S C P Q K X fd tl ik) H → va_D A (wV g v0 u0 u1 u2 u3 k0 k1 k2 k3 h0 h1 h2 h3 s0 s1 s2 s3 c0 c1 c2 p0 r0 t0 t1 t2 t3 z0 f0 ea R N B S C P Q K X fd tl ik) → va_S A s.heap H locs → lv_has ls 10 [(0, .ref v0), (1, .int x1), (2, .int x2), (3, .int x3), (4, .int x4), (5, .int x5), (8, .int x8), (9, .int x9)] → (∀ (B : Rf) (x8 : Int32) (H : Heap) (locs : List Loc) (ls : Array Slot), kx B x8 = some (r, B', fd') → va_P g.1 vwK (wV g v0 u0 u1 u2 u3 k0 k1 k2 k3 h0 h1 h2 h3 s0 s1 s2 s3 c0 c1 c2 p0 r0 t0 t1 t2 t3 z0 f0 ea R N B S C P Q K X fd tl ik) H → va_D A (wV g v0 u0 u1 u2 u3 k0 k1 k2 k3 h0 h1 h2 h3 s0 s1 s2 s3 c0 c1 c2 p0 r0 t0 t1 t2 t3 z0 f0 ea R N B S C P Q K X fd tl ik) → va_S A s.heap H locs → lv_has ls 10 [(8, .int x8)] → W p l e (rmm 6 137) s m args below meth c H locs 0 0 Qx (F0 m 137 ls [])) → W p l e (rmm 6 137) s m args below meth c H locs 0 0 Qx (F0 m 67 ls []) := by
    intro fd x1 x2 x3 x4 x5 kx k
    induction k with
    | zero => intro B x8 x9 H locs ls hf; exact nomatch (show (none : Option (Int32 × Rf × (Nat → Int32))) = some _ from hf)
    | succ k ih =>
      intro B x8 x9 H locs ls hf hP hD hS hl hk
      rw [fX6_leaks_L67] at hf
      refine lv_iload hx hb dX6_leaks_67 (lv_at hl 7 rfl) ?_
      refine lv_bipush (v := (9 : Int32)) hx hb dX6_leaks_69 (by decide) ?_
      refine lv_icmp_gt (tgt := 137) hx hb dX6_leaks_71 (by decide) (fun hc => ?_) (fun hc => ?_)
      · have hf := if_t hf hc
        exact hk _ _ _ _ _  hf hP hD hS (lv_sub hl [6] rfl)
      · have hf := if_f hf hc
        refine lv_aload_n hx hb dX6_leaks_74 rfl (lv_at hl 0 rfl) ?_
        refine va_get (D := g.1) (ci := 6) (v := .ref h0) (C := RX6) (T := TX6) (N := 11) hx hb hts i_X6_leaks_X6 hown hE.1 hP 0 rfl rfl 2 (by decide) w3 (fun _ h9 => h9) rfl dX6_leaks_75 ?_
        refine lv_aload_n hx hb dX6_leaks_78 rfl (lv_at hl 0 rfl) ?_
        refine va_get (D := g.1) (ci := 6) (v := .ref u0) (C := RX6) (T := TX6) (N := 11) hx hb hts i_X6_leaks_X6 hown hE.1 hP 0 rfl rfl 0 (by decide) w1 (fun _ h9 => h9) rfl dX6_leaks_79 ?_
        obtain ⟨R107, hg, hf⟩ := o1_s hf
        refine Ct.callV (ws' := wV g v0 u0 u1 u2 u3 k0 k1 k2 k3 h0 h1 h2 h3 s0 s1 s2 s3 c0 c1 c2 p0 r0 t0 t1 t2 t3 z0 f0 ea R N R107 S C P Q K X fd tl ik) (As := [.ref u0]) (rest := []) (st1 := []) (c_X1_become l g h0 h1 h2 h3 u0 u1 u2 u3 B R hg) (cwV 1 hts gX6_leaks_X1_become rfl rfl rfl q_X1_become ⟨Nat.le_of_ble_eq_true rfl, Nat.le_of_ble_eq_true rfl⟩) ⟨hx, hb, hml, hown, hts⟩ hE hP hD hS hA [9, 10, 11, 12, 1, 2, 3, 4] rfl rfl rfl rfl 1 9 rfl rfl rfl rfl hl.1 rfl rfl (Nat.le_of_ble_eq_true rfl) dX6_leaks_82 (fun H locs hP hD hS => ?_)
        refine lv_aload_n hx hb dX6_leaks_85 rfl (lv_at hl 0 rfl) ?_
        refine va_get (D := g.1) (ci := 6) (v := .ref h0) (C := RX6) (T := TX6) (N := 11) hx hb hts i_X6_leaks_X6 hown hE.1 hP 0 rfl rfl 2 (by decide) w3 (fun _ h9 => h9) rfl dX6_leaks_86 ?_
        refine lv_iload_n hx hb dX6_leaks_89 rfl (lv_at hl 1 rfl) ?_
        refine lv_iconst (v := (3 : Int32)) hx hb dX6_leaks_90 (by decide) ?_
        refine lv_iload hx hb dX6_leaks_91 (lv_at hl 7 rfl) ?_
        obtain ⟨R108, hg, hf⟩ := o1_s hf
        refine Ct.callV (ws' := wV g v0 u0 u1 u2 u3 k0 k1 k2 k3 h0 h1 h2 h3 s0 s1 s2 s3 c0 c1 c2 p0 r0 t0 t1 t2 t3 z0 f0 ea R N R108 S C P Q K X fd tl ik) (As := [.int x1, .int (3 : Int32), .int x9]) (rest := []) (st1 := []) (c_X1_set l g h0 h1 h2 h3 R107 x1 (3 : Int32) x9 hg) (cwV 3 hts gX6_leaks_X1_set rfl rfl rfl q_X1_set ⟨Nat.le_of_ble_eq_true rfl, Nat.le_of_ble_eq_true rfl⟩) ⟨hx, hb, hml, hown, hts⟩ hE hP hD hS hA [9, 10, 11, 12] rfl rfl rfl rfl 1 9 rfl rfl rfl rfl hl.1 rfl rfl (Nat.le_of_ble_eq_true rfl) dX6_leaks_93 (fun H locs hP hD hS => ?_)
        refine lv_aload_n hx hb dX6_leaks_96 rfl (lv_at hl 0 rfl) ?_
        refine va_get (D := g.1) (ci := 6) (v := .ref h0) (C := RX6) (T := TX6) (N := 11) hx hb hts i_X6_leaks_X6 hown hE.1 hP 0 rfl rfl 2 (by decide) w3 (fun _ h9 => h9) rfl dX6_leaks_97 ?_
        refine lv_iload_n hx hb dX6_leaks_100 rfl (lv_at hl 2 rfl) ?_
        refine lv_iload_n hx hb dX6_leaks_101 rfl (lv_at hl 3 rfl) ?_
        refine lv_iload hx hb dX6_leaks_102 (lv_at hl 4 rfl) ?_
        obtain ⟨x109, R110, hg, hf⟩ := o2_s hf
        refine Ct.callV (ws' := wV g v0 u0 u1 u2 u3 k0 k1 k2 k3 h0 h1 h2 h3 s0 s1 s2 s3 c0 c1 c2 p0 r0 t0 t1 t2 t3 z0 f0 ea R N R110 S C P Q K X fd tl ik) (As := [.int x2, .int x3, .int x4]) (rest := []) (st1 := [.int x109]) (c_X1_passHours l g h0 h1 h2 h3 R108 x2 x3 x4 hg) (cwV 3 hts gX6_leaks_X1_passHours rfl rfl rfl q_X1_passHours ⟨Nat.le_of_ble_eq_true rfl, Nat.le_of_ble_eq_true rfl⟩) ⟨hx, hb, hml, hown, hts⟩ hE hP hD hS hA [9, 10, 11, 12] rfl rfl rfl rfl 1 9 rfl rfl rfl rfl hl.1 rfl rfl (Nat.le_of_ble_eq_true rfl) dX6_leaks_104 (fun H locs hP hD hS => ?_)
        refine lv_pop hx hb dX6_leaks_107 rfl ?_
        refine lv_aload_n hx hb dX6_leaks_108 rfl (lv_at hl 0 rfl) ?_
        refine va_get (D := g.1) (ci := 6) (v := .ref h0) (C := RX6) (T := TX6) (N := 11) hx hb hts i_X6_leaks_X6 hown hE.1 hP 0 rfl rfl 2 (by decide) w3 (fun _ h9 => h9) rfl dX6_leaks_109 ?_
        refine lv_iload_n hx hb dX6_leaks_112 rfl (lv_at hl 1 rfl) ?_
        refine lv_iconst (v := (2 : Int32)) hx hb dX6_leaks_113 (by decide) ?_
        obtain ⟨x111, hg, hf⟩ := o1_s hf
        refine Ct.callV (ws' := wV g v0 u0 u1 u2 u3 k0 k1 k2 k3 h0 h1 h2 h3 s0 s1 s2 s3 c0 c1 c2 p0 r0 t0 t1 t2 t3 z0 f0 ea R N R110 S C P Q K X fd tl ik) (As := [.int x1, .int (2 : Int32)]) (rest := []) (st1 := [.int x111]) (c_X1_get l g h0 h1 h2 h3 R110 x1 (2 : Int32) hg) (cwV 2 hts gX6_leaks_X1_get rfl rfl rfl q_X1_get ⟨Nat.le_of_ble_eq_true rfl, Nat.le_of_ble_eq_true rfl⟩) ⟨hx, hb, hml, hown, hts⟩ hE hP hD hS hA [9, 10, 11, 12] rfl rfl rfl rfl 1 9 rfl rfl rfl rfl hl.1 rfl rfl (Nat.le_of_ble_eq_true rfl) dX6_leaks_114 (fun H locs hP hD hS => ?_)
        refine lv_iload hx hb dX6_leaks_117 (lv_at hl 5 rfl) ?_
        refine lv_icmp_ne (tgt := 131) hx hb dX6_leaks_119 (by decide) (fun hc => ?_) (fun hc => ?_)
        · have hf := if_f hf hc
          refine lv_iinc (v := (x9 + (1 : Int32))) (lv' := [(9, .int (x9 + (1 : Int32))), (0, .ref v0), (1, .int x1), (2, .int x2), (3, .int x3), (4, .int x4), (5, .int x5), (8, .int x8)]) hx hb dX6_leaks_131 hl (k := 7) rfl rfl (by decide) rfl (fun ls hl => ?_)
          refine lv_goto (tgt := 67) hx hb dX6_leaks_134 (by decide) ?_
          exact ih _ _ _ _ _ _  hf hP hD hS (lv_sub hl [1, 2, 3, 4, 5, 6, 7, 0] rfl) hk
        · have hf := if_t hf hc
          refine lv_iload hx hb dX6_leaks_122 (lv_at hl 6 rfl) ?_
          refine lv_iconst (v := (1 : Int32)) hx hb dX6_leaks_124 (by decide) ?_
          refine lv_iload hx hb dX6_leaks_125 (lv_at hl 7 rfl) ?_
          refine lv_ishl hx hb dX6_leaks_127 ?_
          refine lv_ior hx hb dX6_leaks_128 ?_
          refine lv_istore (lv' := [(8, .int (x8 ||| ((1 : Int32) <<< (x9 &&& 31)))), (0, .ref v0), (1, .int x1), (2, .int x2), (3, .int x3), (4, .int x4), (5, .int x5), (9, .int x9)]) hx hb dX6_leaks_129 hl (by decide) rfl (fun ls hl => ?_)
          refine lv_iinc (v := (x9 + (1 : Int32))) (lv' := [(9, .int (x9 + (1 : Int32))), (8, .int (x8 ||| ((1 : Int32) <<< (x9 &&& 31)))), (0, .ref v0), (1, .int x1), (2, .int x2), (3, .int x3), (4, .int x4), (5, .int x5)]) hx hb dX6_leaks_131 hl (k := 7) rfl rfl (by decide) rfl (fun ls hl => ?_)
          refine lv_goto (tgt := 67) hx hb dX6_leaks_134 (by decide) ?_
          exact ih _ _ _ _ _ _  hf hP hD hS (lv_sub hl [2, 3, 4, 5, 6, 7, 1, 0] rfl) hk
  have J27 : ∀ (B : Rf) (fd : Nat → Int32) (x1 : Int32) (x2 : Int32) (x3 : Int32) (x4 : Int32) (x5 : Int32) (y0 : Int32) (H : Heap) (locs : List Loc) (ls : Array Slot), fX6_leaks_J27 R B fd x1 x2 x3 x4 x5 y0 = some (r, B', fd') → va_P g.1 vwK (wV g v0 u0 u1 u2 u3 k0 k1 k2 k3 h0 h1 h2 h3 s0 s1 s2 s3 c0 c1 c2 p0 r0 t0 t1 t2 t3 z0 f0 ea R N B S C P Q K X fd tl ik) H → va_D A (wV g v0 u0 u1 u2 u3 k0 k1 k2 k3 h0 h1 h2 h3 s0 s1 s2 s3 c0 c1 c2 p0 r0 t0 t1 t2 t3 z0 f0 ea R N B S C P Q K X fd tl ik) → va_S A s.heap H locs → lv_has ls 10 [(0, .ref v0), (1, .int x1), (2, .int x2), (3, .int x3), (4, .int x4), (5, .int x5)] → W p l e (rmm 6 137) s m args below meth c H locs 0 0 Qx (F0 m 27 ls [.int y0]) := by
    intro B fd x1 x2 x3 x4 x5 y0 H locs ls hf hP hD hS hl
    unfold fX6_leaks_J27 at hf
    refine lv_istore (lv' := [(6, .int y0), (0, .ref v0), (1, .int x1), (2, .int x2), (3, .int x3), (4, .int x4), (5, .int x5)]) hx hb dX6_leaks_27 hl (by decide) rfl (fun ls hl => ?_)
    refine lv_iload hx hb dX6_leaks_29 (lv_at hl 0 rfl) ?_
    refine lv_if_eq (tgt := 45) hx hb dX6_leaks_31 (by decide) (fun hc => ?_) (fun hc => ?_)
    · have hf := if_t hf hc
      refine lv_ldc hx hb hown w2 dX6_leaks_45 ?_
      refine lv_istore (lv' := [(7, .int (-1000001 : Int32)), (6, .int y0), (0, .ref v0), (1, .int x1), (2, .int x2), (3, .int x3), (4, .int x4), (5, .int x5)]) hx hb dX6_leaks_47 hl (by decide) rfl (fun ls hl => ?_)
      refine lv_iload hx hb dX6_leaks_49 (lv_at hl 0 rfl) ?_
      refine lv_if_eq (tgt := 61) hx hb dX6_leaks_51 (by decide) (fun hc => ?_) (fun hc => ?_)
      · have hf := if_t hf hc
        refine lv_iconst (v := (0 : Int32)) hx hb dX6_leaks_61 (by decide) ?_
        refine lv_istore (lv' := [(8, .int (0 : Int32)), (7, .int (-1000001 : Int32)), (6, .int y0), (0, .ref v0), (1, .int x1), (2, .int x2), (3, .int x3), (4, .int x4), (5, .int x5)]) hx hb dX6_leaks_62 hl (by decide) rfl (fun ls hl => ?_)
        refine lv_iconst (v := (0 : Int32)) hx hb dX6_leaks_64 (by decide) ?_
        refine lv_istore (lv' := [(9, .int (0 : Int32)), (8, .int (0 : Int32)), (7, .int (-1000001 : Int32)), (6, .int y0), (0, .ref v0), (1, .int x1), (2, .int x2), (3, .int x3), (4, .int x4), (5, .int x5)]) hx hb dX6_leaks_65 hl (by decide) rfl (fun ls hl => ?_)
        refine L67 _ _ _ _ _ _ _ _ _ _ _ _ _ _  hf hP hD hS (lv_sub hl [4, 5, 6, 7, 8, 9, 1, 0] rfl) (fun B112 x113 H locs ls hf hP hD hS hl => ?_)
        refine lv_iload hx hb dX6_leaks_137 (lv_at hl 0 rfl) ?_
        obtain ⟨rfl, rfl, rfl⟩ := some_p3 hf
        rw [hQ]; exact Ct.iret hx hb hr hlocks hAe hP hD hS dX6_leaks_139
      · have hf := if_f hf hc
        refine lv_aload_n hx hb dX6_leaks_54 rfl (lv_at hl 2 rfl) ?_
        refine lv_iload hx hb dX6_leaks_55 (lv_at hl 0 rfl) ?_
        obtain ⟨x114, fd115, hg, hf⟩ := o2_s hf
        refine Ct.callV0 (ws' := wV g v0 u0 u1 u2 u3 k0 k1 k2 k3 h0 h1 h2 h3 s0 s1 s2 s3 c0 c1 c2 p0 r0 t0 t1 t2 t3 z0 f0 ea R N B S C P Q K X fd115 tl ik) (As := [.int (-1000001 : Int32)]) (rest := []) (st1 := [.int x114]) (c_X6_finding l g v0 u0 u1 u2 u3 k0 k1 k2 k3 h0 h1 h2 h3 s0 s1 s2 s3 c0 c1 c2 p0 r0 t0 t1 t2 t3 z0 f0 ea R N B S C P Q K X fd tl ik (-1000001 : Int32) hg) (cwV 1 hts gX6_leaks_X6_finding rfl rfl rfl q_X6_finding ⟨Nat.le_of_ble_eq_true rfl, Nat.le_of_ble_eq_true rfl⟩) ⟨hx, hb, hml, hown, hts⟩ hE hP hD hS hA 6 0 rfl rfl rfl rfl hl.1 rfl rfl (Nat.le_of_ble_eq_true rfl) dX6_leaks_57 (fun H locs hP hD hS => ?_)
        obtain ⟨rfl, rfl, rfl⟩ := some_p3 hf
        rw [hQ]; exact Ct.iret hx hb hr hlocks hAe hP hD hS dX6_leaks_60
    · have hf := if_f hf hc
      refine lv_aload_n hx hb dX6_leaks_34 rfl (lv_at hl 1 rfl) ?_
      refine lv_iload_n hx hb dX6_leaks_35 rfl (lv_at hl 3 rfl) ?_
      refine lv_iload_n hx hb dX6_leaks_36 rfl (lv_at hl 4 rfl) ?_
      refine lv_iload hx hb dX6_leaks_37 (lv_at hl 5 rfl) ?_
      obtain ⟨x116, hg, hf⟩ := o1_s hf
      refine Ct.callV0 (ws' := wV g v0 u0 u1 u2 u3 k0 k1 k2 k3 h0 h1 h2 h3 s0 s1 s2 s3 c0 c1 c2 p0 r0 t0 t1 t2 t3 z0 f0 ea R N B S C P Q K X fd tl ik) (As := [.int x2, .int x3, .int x4]) (rest := []) (st1 := [.int x116]) (c_X6_faultOfTrial l g v0 u0 u1 u2 u3 k0 k1 k2 k3 h0 h1 h2 h3 s0 s1 s2 s3 c0 c1 c2 p0 r0 t0 t1 t2 t3 z0 f0 ea R N B S C P Q K X fd tl ik x2 x3 x4 hg) (cwV 3 hts gX6_leaks_X6_faultOfTrial rfl rfl rfl q_X6_faultOfTrial ⟨Nat.le_of_ble_eq_true rfl, Nat.le_of_ble_eq_true rfl⟩) ⟨hx, hb, hml, hown, hts⟩ hE hP hD hS hA 6 0 rfl rfl rfl rfl hl.1 rfl rfl (Nat.le_of_ble_eq_true rfl) dX6_leaks_39 (fun H locs hP hD hS => ?_)
      refine lv_goto (tgt := 47) hx hb dX6_leaks_42 (by decide) ?_
      refine lv_istore (lv' := [(7, .int x116), (6, .int y0), (0, .ref v0), (1, .int x1), (2, .int x2), (3, .int x3), (4, .int x4), (5, .int x5)]) hx hb dX6_leaks_47 hl (by decide) rfl (fun ls hl => ?_)
      refine lv_iload hx hb dX6_leaks_49 (lv_at hl 0 rfl) ?_
      refine lv_if_eq (tgt := 61) hx hb dX6_leaks_51 (by decide) (fun hc => ?_) (fun hc => ?_)
      · have hf := if_t hf hc
        refine lv_iconst (v := (0 : Int32)) hx hb dX6_leaks_61 (by decide) ?_
        refine lv_istore (lv' := [(8, .int (0 : Int32)), (7, .int x116), (6, .int y0), (0, .ref v0), (1, .int x1), (2, .int x2), (3, .int x3), (4, .int x4), (5, .int x5)]) hx hb dX6_leaks_62 hl (by decide) rfl (fun ls hl => ?_)
        refine lv_iconst (v := (0 : Int32)) hx hb dX6_leaks_64 (by decide) ?_
        refine lv_istore (lv' := [(9, .int (0 : Int32)), (8, .int (0 : Int32)), (7, .int x116), (6, .int y0), (0, .ref v0), (1, .int x1), (2, .int x2), (3, .int x3), (4, .int x4), (5, .int x5)]) hx hb dX6_leaks_65 hl (by decide) rfl (fun ls hl => ?_)
        refine L67 _ _ _ _ _ _ _ _ _ _ _ _ _ _  hf hP hD hS (lv_sub hl [4, 5, 6, 7, 8, 9, 1, 0] rfl) (fun B117 x118 H locs ls hf hP hD hS hl => ?_)
        refine lv_iload hx hb dX6_leaks_137 (lv_at hl 0 rfl) ?_
        obtain ⟨rfl, rfl, rfl⟩ := some_p3 hf
        rw [hQ]; exact Ct.iret hx hb hr hlocks hAe hP hD hS dX6_leaks_139
      · have hf := if_f hf hc
        refine lv_aload_n hx hb dX6_leaks_54 rfl (lv_at hl 2 rfl) ?_
        refine lv_iload hx hb dX6_leaks_55 (lv_at hl 0 rfl) ?_
        obtain ⟨x119, fd120, hg, hf⟩ := o2_s hf
        refine Ct.callV0 (ws' := wV g v0 u0 u1 u2 u3 k0 k1 k2 k3 h0 h1 h2 h3 s0 s1 s2 s3 c0 c1 c2 p0 r0 t0 t1 t2 t3 z0 f0 ea R N B S C P Q K X fd120 tl ik) (As := [.int x116]) (rest := []) (st1 := [.int x119]) (c_X6_finding l g v0 u0 u1 u2 u3 k0 k1 k2 k3 h0 h1 h2 h3 s0 s1 s2 s3 c0 c1 c2 p0 r0 t0 t1 t2 t3 z0 f0 ea R N B S C P Q K X fd tl ik x116 hg) (cwV 1 hts gX6_leaks_X6_finding rfl rfl rfl q_X6_finding ⟨Nat.le_of_ble_eq_true rfl, Nat.le_of_ble_eq_true rfl⟩) ⟨hx, hb, hml, hown, hts⟩ hE hP hD hS hA 6 0 rfl rfl rfl rfl hl.1 rfl rfl (Nat.le_of_ble_eq_true rfl) dX6_leaks_57 (fun H locs hP hD hS => ?_)
        obtain ⟨rfl, rfl, rfl⟩ := some_p3 hf
        rw [hQ]; exact Ct.iret hx hb hr hlocks hAe hP hD hS dX6_leaks_60
  have J26 : ∀ (B : Rf) (fd : Nat → Int32) (x1 : Int32) (x2 : Int32) (x3 : Int32) (x4 : Int32) (x5 : Int32) (H : Heap) (locs : List Loc) (ls : Array Slot), fX6_leaks_J26 R B fd x1 x2 x3 x4 x5 = some (r, B', fd') → va_P g.1 vwK (wV g v0 u0 u1 u2 u3 k0 k1 k2 k3 h0 h1 h2 h3 s0 s1 s2 s3 c0 c1 c2 p0 r0 t0 t1 t2 t3 z0 f0 ea R N B S C P Q K X fd tl ik) H → va_D A (wV g v0 u0 u1 u2 u3 k0 k1 k2 k3 h0 h1 h2 h3 s0 s1 s2 s3 c0 c1 c2 p0 r0 t0 t1 t2 t3 z0 f0 ea R N B S C P Q K X fd tl ik) → va_S A s.heap H locs → lv_has ls 10 [(0, .ref v0), (1, .int x1), (2, .int x2), (3, .int x3), (4, .int x4), (5, .int x5)] → W p l e (rmm 6 137) s m args below meth c H locs 0 0 Qx (F0 m 26 ls []) := by
    intro B fd x1 x2 x3 x4 x5 H locs ls hf hP hD hS hl
    unfold fX6_leaks_J26 at hf
    refine lv_iconst (v := (0 : Int32)) hx hb dX6_leaks_26 (by decide) ?_
    exact J27 _ _ _ _ _ _ _ _ _ _ _  hf hP hD hS (lv_sub hl [0, 1, 2, 3, 4, 5] rfl)
  unfold fX6_leaks at hf
  refine lv_aload_n hx hb dX6_leaks_0 rfl (lv_at hl 0 rfl) ?_
  refine va_get (D := g.1) (ci := 6) (v := .ref u0) (C := RX6) (T := TX6) (N := 11) hx hb hts i_X6_leaks_X6 hown hE.1 hP 0 rfl rfl 0 (by decide) w1 (fun _ h9 => h9) rfl dX6_leaks_1 ?_
  refine lv_iload_n hx hb dX6_leaks_4 rfl (lv_at hl 1 rfl) ?_
  obtain ⟨x101, hg, hf⟩ := o1_s hf
  refine Ct.callV (ws' := wV g v0 u0 u1 u2 u3 k0 k1 k2 k3 h0 h1 h2 h3 s0 s1 s2 s3 c0 c1 c2 p0 r0 t0 t1 t2 t3 z0 f0 ea R N B S C P Q K X fd tl ik) (As := [.int a1]) (rest := []) (st1 := [.int x101]) (c_X1_hasCistern l g u0 u1 u2 u3 R a1 hg) (cwV 1 hts gX6_leaks_X1_hasCistern rfl rfl rfl q_X1_hasCistern ⟨Nat.le_of_ble_eq_true rfl, Nat.le_of_ble_eq_true rfl⟩) ⟨hx, hb, hml, hown, hts⟩ hE hP hD hS hA [1, 2, 3, 4] rfl rfl rfl rfl 1 1 rfl rfl rfl rfl hl.1 rfl rfl (Nat.le_of_ble_eq_true rfl) dX6_leaks_5 (fun H locs hP hD hS => ?_)
  refine lv_if_eq (tgt := 26) hx hb dX6_leaks_8 (by decide) (fun hc => ?_) (fun hc => ?_)
  · have hf := if_t hf hc
    exact J26 _ _ _ _ _ _ _ _ _ _  hf hP hD hS (lv_sub hl [0, 1, 2, 3, 4, 5] rfl)
  · have hf := if_f hf hc
    refine lv_iload hx hb dX6_leaks_11 (lv_at hl 5 rfl) ?_
    refine lv_iconst (v := (0 : Int32)) hx hb dX6_leaks_13 (by decide) ?_
    refine lv_bipush (v := (40 : Int32)) hx hb dX6_leaks_14 (by decide) ?_
    obtain ⟨x121, hg, hf⟩ := o1_s hf
    refine Ct.callS (ws' := wV g v0 u0 u1 u2 u3 k0 k1 k2 k3 h0 h1 h2 h3 s0 s1 s2 s3 c0 c1 c2 p0 r0 t0 t1 t2 t3 z0 f0 ea R N B S C P Q K X fd tl ik) (As := [.int a5, .int (0 : Int32), .int (40 : Int32)]) (rest := []) (st1 := [.int x121]) (c_X6_isWithin l g a5 (0 : Int32) (40 : Int32) hg) (va_cwS 3 hts gX6_leaks_X6_isWithin rfl rfl rfl q_X6_isWithin.2 ⟨Nat.le_of_ble_eq_true rfl, Nat.le_of_ble_eq_true rfl⟩) ⟨hx, hb, hml, hown, hts⟩ hE hP hD hS hA [] rfl rfl rfl rfl rfl hl.1 rfl rfl (Nat.le_of_ble_eq_true rfl) dX6_leaks_16 (fun H locs hP hD hS => ?_)
    refine lv_if_eq (tgt := 26) hx hb dX6_leaks_19 (by decide) (fun hc => ?_) (fun hc => ?_)
    · have hf := if_t hf hc
      exact J26 _ _ _ _ _ _ _ _ _ _  hf hP hD hS (lv_sub hl [0, 1, 2, 3, 4, 5] rfl)
    · have hf := if_f hf hc
      refine lv_iconst (v := (1 : Int32)) hx hb dX6_leaks_22 (by decide) ?_
      refine lv_goto (tgt := 27) hx hb dX6_leaks_23 (by decide) ?_
      exact J27 _ _ _ _ _ _ _ _ _ _ _  hf hP hD hS (lv_sub hl [0, 1, 2, 3, 4, 5] rfl)
