theorem q_X6_sheetAt : yX6_sheetAt.cls = RX6 ∧ yX6_sheetAt.cls ≠ "java/lang/invoke/MethodHandle" ∧ yX6_sheetAt.cls ≠ "java/lang/invoke/VarHandle" ∧ (parseMethodDescriptor yX6_sheetAt.desc).map (fun d => d.parameters.length) = some 1 := by decide +kernel
theorem i_X6_sheetAt_X6 : ∀ w ∈ u_ws RX6 TX6 11, w ∈ wsX6_sheetAt := fun _ h => List.mem_cons_of_mem _ (List.mem_append_right _ (h))
set_option maxHeartbeats 4000000 in
theorem c_X6_sheetAt_null (l : Launch) (g : gG) (v0 u0 u1 u2 u3 k0 k1 k2 k3 h0 h1 h2 h3 s0 s1 s2 s3 c0 c1 c2 p0 r0 t0 t1 t2 t3 z0 f0 : Nat) (ea : Nat → Nat) (R : Rf) (N : Rf) (B : Rf) (S : Sv) (C : Ca) (P : Nat → Int32) (Q : Tr) (K : Tk) (X : F4) (fd : Nat → Int32) (tl : Int32) (ik : Int32) (a1 : Int32) (hs : a1 < 0 ∨ 4 ≤ a1) : Ct l yX6_sheetAt wsX6_sheetAt (rmm 0 0) g (wV g v0 u0 u1 u2 u3 k0 k1 k2 k3 h0 h1 h2 h3 s0 s1 s2 s3 c0 c1 c2 p0 r0 t0 t1 t2 t3 z0 f0 ea R N B S C P Q K X fd tl ik) (wV g v0 u0 u1 u2 u3 k0 k1 k2 k3 h0 h1 h2 h3 s0 s1 s2 s3 c0 c1 c2 p0 r0 t0 t1 t2 t3 z0 f0 ea R N B S C P Q K X fd tl ik) [.ref v0, .int a1] (some .null) := by
  refine Ct.mk (by decide) rfl (Nat.le_of_ble_eq_true rfl) ?_
  intro p e s m args below meth c A ls hx hb hr hml hts hown hlocks hA hE hP hD hS hl hAe
  have hown : s.vm.findClass RX6 = some m.cls := hown
  have hl : lv_has ls 2 [(0, .ref v0), (1, .int a1)] := hl
  have w1 := hts (.fieldLink RX6 54 "RainVault" "sheets" "[LRainVault$Sheet;") (List.mem_of_getElem? (i := 1) rfl)
  refine lv_iload_n hx hb dX6_sheetAt_0 rfl (lv_at hl 1 rfl) ?_
  refine lv_if_lt (tgt := 22) hx hb dX6_sheetAt_1 (by decide) (fun hc => ?_) (fun hc => ?_)
  · refine lv_null hx hb dX6_sheetAt_22 ?_
    subst hAe
    exact W.aret hx hb hr (Or.inl ⟨_, rfl⟩) (Or.inl rfl) (fun t ht hW => ⟨rfl, by rw [ht]; exact hP, hD, hS.F ht⟩) hS.2.2 dX6_sheetAt_23 hlocks
  · refine lv_iload_n hx hb dX6_sheetAt_4 rfl (lv_at hl 1 rfl) ?_
    refine lv_aload_n hx hb dX6_sheetAt_5 rfl (lv_at hl 0 rfl) ?_
    refine va_get (D := g.1) (ci := 6) (v := .ref z0) (C := RX6) (T := TX6) (N := 11) hx hb hts i_X6_sheetAt_X6 hown hE.1 hP 0 rfl rfl 7 (by decide) w1 (fun _ h9 => h9) rfl dX6_sheetAt_6 ?_
    refine va_alen (v := (4 : Int32)) hx hb hE.1 hP 26 1 rfl rfl (show Int32.ofNat 4 = (4 : Int32) by decide) dX6_sheetAt_9 ?_
    refine lv_icmp_ge (tgt := 22) hx hb dX6_sheetAt_10 (by decide) (fun hc2 => ?_) (fun hc2 => ?_)
    · refine lv_null hx hb dX6_sheetAt_22 ?_
      subst hAe
      exact W.aret hx hb hr (Or.inl ⟨_, rfl⟩) (Or.inl rfl) (fun t ht hW => ⟨rfl, by rw [ht]; exact hP, hD, hS.F ht⟩) hS.2.2 dX6_sheetAt_23 hlocks
    · exact absurd (hs.elim (fun q => absurd q hc) id) hc2
set_option maxHeartbeats 4000000 in
theorem c_X6_sheetAt (l : Launch) (g : gG) (v0 u0 u1 u2 u3 k0 k1 k2 k3 h0 h1 h2 h3 s0 s1 s2 s3 c0 c1 c2 p0 r0 t0 t1 t2 t3 z0 f0 : Nat) (ea : Nat → Nat) (R : Rf) (N : Rf) (B : Rf) (S : Sv) (C : Ca) (P : Nat → Int32) (Q : Tr) (K : Tk) (X : F4) (fd : Nat → Int32) (tl : Int32) (ik : Int32) (j : Nat) (hj : j < 4) (a1 : Int32) (hs : a1 = Int32.ofNat j) : Ct l yX6_sheetAt wsX6_sheetAt (rmm 0 0) g (wV g v0 u0 u1 u2 u3 k0 k1 k2 k3 h0 h1 h2 h3 s0 s1 s2 s3 c0 c1 c2 p0 r0 t0 t1 t2 t3 z0 f0 ea R N B S C P Q K X fd tl ik) (wV g v0 u0 u1 u2 u3 k0 k1 k2 k3 h0 h1 h2 h3 s0 s1 s2 s3 c0 c1 c2 p0 r0 t0 t1 t2 t3 z0 f0 ea R N B S C P Q K X fd tl ik) [.ref v0, .int a1] (some (.ref (ea j))) := by
  have hc0 : ¬ a1 < 0 := by rw [hs]; exact nI_pos (by omega)
  have hc4 : ¬ 4 ≤ a1 := by rw [hs]; exact nI_ge (a := j) (b := 4) hj (by omega)
  have hin : vp_in a1 4 := by rw [hs]; exact vp_in_nI hj (by omega)
  have hj2 : j = a1.toNatClampNeg := by rw [hs]; exact (nI_clamp (by omega)).symm
  refine Ct.mk (by decide) rfl (Nat.le_of_ble_eq_true rfl) ?_
  intro p e s m args below meth c A ls hx hb hr hml hts hown hlocks hA hE hP hD hS hl hAe
  have hown : s.vm.findClass RX6 = some m.cls := hown
  have hl : lv_has ls 2 [(0, .ref v0), (1, .int a1)] := hl
  have w1 := hts (.fieldLink RX6 54 "RainVault" "sheets" "[LRainVault$Sheet;") (List.mem_of_getElem? (i := 1) rfl)
  refine lv_iload_n hx hb dX6_sheetAt_0 rfl (lv_at hl 1 rfl) ?_
  refine lv_if_lt (tgt := 22) hx hb dX6_sheetAt_1 (by decide) (fun hc => absurd hc hc0) (fun hc => ?_)
  refine lv_iload_n hx hb dX6_sheetAt_4 rfl (lv_at hl 1 rfl) ?_
  refine lv_aload_n hx hb dX6_sheetAt_5 rfl (lv_at hl 0 rfl) ?_
  refine va_get (D := g.1) (ci := 6) (v := .ref z0) (C := RX6) (T := TX6) (N := 11) hx hb hts i_X6_sheetAt_X6 hown hE.1 hP 0 rfl rfl 7 (by decide) w1 (fun _ h9 => h9) rfl dX6_sheetAt_6 ?_
  refine va_alen (v := (4 : Int32)) hx hb hE.1 hP 26 1 rfl rfl (show Int32.ofNat 4 = (4 : Int32) by decide) dX6_sheetAt_9 ?_
  refine lv_icmp_ge (tgt := 22) hx hb dX6_sheetAt_10 (by decide) (fun hc => absurd hc hc4) (fun hc => ?_)
  refine lv_aload_n hx hb dX6_sheetAt_13 rfl (lv_at hl 0 rfl) ?_
  refine va_get (D := g.1) (ci := 6) (v := .ref z0) (C := RX6) (T := TX6) (N := 11) hx hb hts i_X6_sheetAt_X6 hown hE.1 hP 0 rfl rfl 7 (by decide) w1 (fun _ h9 => h9) rfl dX6_sheetAt_14 ?_
  refine lv_iload_n hx hb dX6_sheetAt_17 rfl (lv_at hl 1 rfl) ?_
  refine st_aldz (f := ea) (j := j) hx hb hE.1 hP 26 1 rfl rfl hin hj2 dX6_sheetAt_18 ?_
  refine lv_goto (tgt := 23) hx hb dX6_sheetAt_19 (by decide) ?_
  exact Ct.aret hx hb hr (Or.inl ⟨_, rfl⟩) hlocks hAe hP hD hS dX6_sheetAt_23
def fX6_finding (fd : Nat → Int32) (a1 : Int32) : Option (Int32 × (Nat → Int32)) := o1 (fX6_at 7 fd ((-1000001 : Int32) - a1)) (fun x101 => o1 (fX6_put 7 fd ((-1000001 : Int32) - a1) (x101 + (1 : Int32))) (fun f102 => some (a1, f102)))
theorem q_X6_finding : yX6_finding.cls = RX6 ∧ yX6_finding.cls ≠ "java/lang/invoke/MethodHandle" ∧ yX6_finding.cls ≠ "java/lang/invoke/VarHandle" ∧ (parseMethodDescriptor yX6_finding.desc).map (fun d => d.parameters.length) = some 1 := by decide +kernel
theorem i_X6_finding_X6 : ∀ w ∈ u_ws RX6 TX6 11, w ∈ wsX6_finding := fun _ h => List.mem_cons_of_mem _ (List.mem_append_right _ (h))
set_option maxHeartbeats 4000000 in
set_option maxRecDepth 100000 in
theorem c_X6_finding (l : Launch) (g : gG) (v0 u0 u1 u2 u3 k0 k1 k2 k3 h0 h1 h2 h3 s0 s1 s2 s3 c0 c1 c2 p0 r0 t0 t1 t2 t3 z0 f0 : Nat) (ea : Nat → Nat) (R : Rf) (N : Rf) (B : Rf) (S : Sv) (C : Ca) (P : Nat → Int32) (Q : Tr) (K : Tk) (X : F4) (fd : Nat → Int32) (tl : Int32) (ik : Int32) (a1 : Int32) {r : Int32} {fd' : Nat → Int32} (hf : fX6_finding fd a1 = some (r, fd')) : Ct l yX6_finding wsX6_finding (rmm 1 22) g (wV g v0 u0 u1 u2 u3 k0 k1 k2 k3 h0 h1 h2 h3 s0 s1 s2 s3 c0 c1 c2 p0 r0 t0 t1 t2 t3 z0 f0 ea R N B S C P Q K X fd tl ik) (wV g v0 u0 u1 u2 u3 k0 k1 k2 k3 h0 h1 h2 h3 s0 s1 s2 s3 c0 c1 c2 p0 r0 t0 t1 t2 t3 z0 f0 ea R N B S C P Q K X (fd') tl ik) [.ref v0, .int a1] (some (.int r)) := by
  refine Ct.mk (by decide) rfl (Nat.le_of_ble_eq_true rfl) ?_
  intro p e s m args below meth c A ls hx hb hr hml hts hown hlocks hA hE hP hD hS hl hAe
  obtain ⟨Qx, hQ⟩ : ∃ Qx : State → Prop, Qx = MQ below (QcG g (wV g v0 u0 u1 u2 u3 k0 k1 k2 k3 h0 h1 h2 h3 s0 s1 s2 s3 c0 c1 c2 p0 r0 t0 t1 t2 t3 z0 f0 ea R N B S C P Q K X fd tl ik) (wV g v0 u0 u1 u2 u3 k0 k1 k2 k3 h0 h1 h2 h3 s0 s1 s2 s3 c0 c1 c2 p0 r0 t0 t1 t2 t3 z0 f0 ea R N B S C P Q K X (fd') tl ik) (some (.int r)) s.heap.size) args s 0 0 A := ⟨_, rfl⟩
  rw [← hQ]
  have hown : s.vm.findClass RX6 = some m.cls := hown
  have hl : lv_has ls 3 [(0, .ref v0), (1, .int a1)] := hl
  have w1 := hts (.constant RX6 73 (-1000001)) (List.mem_of_getElem? (i := 1) rfl)
  have w2 := hts (.fieldLink RX6 58 "RainVault" "findings" "[I") (List.mem_of_getElem? (i := 2) rfl)
  unfold fX6_finding at hf
  refine lv_ldc hx hb hown w1 dX6_finding_0 ?_
  refine lv_iload_n hx hb dX6_finding_2 rfl (lv_at hl 1 rfl) ?_
  refine lv_isub hx hb dX6_finding_3 ?_
  refine lv_istore_n (lv' := [(2, .int ((-1000001 : Int32) - a1)), (0, .ref v0), (1, .int a1)]) hx hb dX6_finding_4 rfl hl (by decide) rfl (fun ls hl => ?_)
  refine lv_aload_n hx hb dX6_finding_5 rfl (lv_at hl 1 rfl) ?_
  refine va_get (D := g.1) (ci := 6) (v := .ref f0) (C := RX6) (T := TX6) (N := 11) hx hb hts i_X6_finding_X6 hown hE.1 hP 0 rfl rfl 8 (by decide) w2 (fun _ h9 => h9) rfl dX6_finding_6 ?_
  refine lv_iload_n hx hb dX6_finding_9 rfl (lv_at hl 0 rfl) ?_
  refine lv_aload_n hx hb dX6_finding_10 rfl (lv_at hl 1 rfl) ?_
  refine va_get (D := g.1) (ci := 6) (v := .ref f0) (C := RX6) (T := TX6) (N := 11) hx hb hts i_X6_finding_X6 hown hE.1 hP 0 rfl rfl 8 (by decide) w2 (fun _ h9 => h9) rfl dX6_finding_11 ?_
  refine lv_iload_n hx hb dX6_finding_14 rfl (lv_at hl 0 rfl) ?_
  obtain ⟨x101, hg, hf⟩ := o1_s hf
  refine Ct.callS (ws' := wV g v0 u0 u1 u2 u3 k0 k1 k2 k3 h0 h1 h2 h3 s0 s1 s2 s3 c0 c1 c2 p0 r0 t0 t1 t2 t3 z0 f0 ea R N B S C P Q K X fd tl ik) (As := [.ref f0, .int ((-1000001 : Int32) - a1)]) (rest := [.int ((-1000001 : Int32) - a1), .ref f0]) (st1 := [.int x101, .int ((-1000001 : Int32) - a1), .ref f0]) (c_X6_at l g f0 7 fd ((-1000001 : Int32) - a1) hg) (va_cwS 2 hts gX6_finding_X6_at rfl rfl rfl q_X6_at.2 ⟨Nat.le_of_ble_eq_true rfl, Nat.le_of_ble_eq_true rfl⟩) ⟨hx, hb, hml, hown, hts⟩ hE hP hD hS hA [35] rfl rfl rfl rfl rfl hl.1 rfl rfl (Nat.le_of_ble_eq_true rfl) dX6_finding_15 (fun H locs hP hD hS => ?_)
  refine lv_iconst (v := (1 : Int32)) hx hb dX6_finding_18 (by decide) ?_
  refine lv_iadd hx hb dX6_finding_19 ?_
  obtain ⟨f102, hg, hf⟩ := o1_s hf
  refine Ct.callS (ws' := wV g v0 u0 u1 u2 u3 k0 k1 k2 k3 h0 h1 h2 h3 s0 s1 s2 s3 c0 c1 c2 p0 r0 t0 t1 t2 t3 z0 f0 ea R N B S C P Q K X f102 tl ik) (As := [.ref f0, .int ((-1000001 : Int32) - a1), .int (x101 + (1 : Int32))]) (rest := []) (st1 := []) (c_X6_put l g f0 7 fd ((-1000001 : Int32) - a1) (x101 + (1 : Int32)) hg) (va_cwS 3 hts gX6_finding_X6_put rfl rfl rfl q_X6_put.2 ⟨Nat.le_of_ble_eq_true rfl, Nat.le_of_ble_eq_true rfl⟩) ⟨hx, hb, hml, hown, hts⟩ hE hP hD hS hA [35] rfl rfl rfl rfl rfl hl.1 rfl rfl (Nat.le_of_ble_eq_true rfl) dX6_finding_20 (fun H locs hP hD hS => ?_)
  refine lv_iload_n hx hb dX6_finding_23 rfl (lv_at hl 2 rfl) ?_
  obtain ⟨rfl, rfl⟩ := some_p2 hf
  rw [hQ]; exact Ct.iret hx hb hr hlocks hAe hP hD hS dX6_finding_24
def fX6_cistern (R : Rf) (fd : Nat → Int32) (a1 : Int32) (a2 : Int32) : Option (Int32 × Rf × (Nat → Int32)) := o1 (fX6_isWithin a1 (0 : Int32) (6 : Int32)) (fun x101 => if x101 = 0 then (o2 (fX6_finding fd (-1000001 : Int32)) (fun x102 fd103 => some (x102, R, fd103))) else (o1 (fX6_isWithin a2 (1 : Int32) (40 : Int32)) (fun x104 => if x104 = 0 then (o2 (fX6_finding fd (-1000001 : Int32)) (fun x109 fd110 => some (x109, R, fd110))) else (if R.2.2.2.1 < (8 : Int32) then (o2 (fX1_addCistern R a1 a2) (fun x105 R106 => some (x105, R106, fd))) else (o2 (fX6_finding fd (-1000002 : Int32)) (fun x107 fd108 => some (x107, R, fd108)))))))
theorem q_X6_cistern : yX6_cistern.cls = RX6 ∧ yX6_cistern.cls ≠ "java/lang/invoke/MethodHandle" ∧ yX6_cistern.cls ≠ "java/lang/invoke/VarHandle" ∧ (parseMethodDescriptor yX6_cistern.desc).map (fun d => d.parameters.length) = some 2 := by decide +kernel
theorem i_X6_cistern_X6 : ∀ w ∈ u_ws RX6 TX6 11, w ∈ wsX6_cistern := fun _ h => List.mem_cons_of_mem _ (List.mem_append_left _ (List.mem_append_right _ (h)))
theorem i_X6_cistern_X1 : ∀ w ∈ u_ws RX1 TX1 9, w ∈ wsX6_cistern := fun _ h => List.mem_cons_of_mem _ (List.mem_append_right _ (h))
set_option maxHeartbeats 4000000 in
set_option maxRecDepth 100000 in
theorem c_X6_cistern (l : Launch) (g : gG) (v0 u0 u1 u2 u3 k0 k1 k2 k3 h0 h1 h2 h3 s0 s1 s2 s3 c0 c1 c2 p0 r0 t0 t1 t2 t3 z0 f0 : Nat) (ea : Nat → Nat) (R : Rf) (N : Rf) (B : Rf) (S : Sv) (C : Ca) (P : Nat → Int32) (Q : Tr) (K : Tk) (X : F4) (fd : Nat → Int32) (tl : Int32) (ik : Int32) (a1 : Int32) (a2 : Int32) {r : Int32} {R' : Rf} {fd' : Nat → Int32} (hf : fX6_cistern R fd a1 a2 = some (r, R', fd')) : Ct l yX6_cistern wsX6_cistern (rmm 2 48) g (wV g v0 u0 u1 u2 u3 k0 k1 k2 k3 h0 h1 h2 h3 s0 s1 s2 s3 c0 c1 c2 p0 r0 t0 t1 t2 t3 z0 f0 ea R N B S C P Q K X fd tl ik) (wV g v0 u0 u1 u2 u3 k0 k1 k2 k3 h0 h1 h2 h3 s0 s1 s2 s3 c0 c1 c2 p0 r0 t0 t1 t2 t3 z0 f0 ea (R') N B S C P Q K X (fd') tl ik) [.ref v0, .int a1, .int a2] (some (.int r)) := by
  refine Ct.mk (by decide) rfl (Nat.le_of_ble_eq_true rfl) ?_
  intro p e s m args below meth c A ls hx hb hr hml hts hown hlocks hA hE hP hD hS hl hAe
  obtain ⟨Qx, hQ⟩ : ∃ Qx : State → Prop, Qx = MQ below (QcG g (wV g v0 u0 u1 u2 u3 k0 k1 k2 k3 h0 h1 h2 h3 s0 s1 s2 s3 c0 c1 c2 p0 r0 t0 t1 t2 t3 z0 f0 ea R N B S C P Q K X fd tl ik) (wV g v0 u0 u1 u2 u3 k0 k1 k2 k3 h0 h1 h2 h3 s0 s1 s2 s3 c0 c1 c2 p0 r0 t0 t1 t2 t3 z0 f0 ea (R') N B S C P Q K X (fd') tl ik) (some (.int r)) s.heap.size) args s 0 0 A := ⟨_, rfl⟩
  rw [← hQ]
  have hown : s.vm.findClass RX6 = some m.cls := hown
  have hl : lv_has ls 3 [(0, .ref v0), (1, .int a1), (2, .int a2)] := hl
  have w1 := hts (.constant RX6 73 (-1000001)) (List.mem_of_getElem? (i := 1) rfl)
  have w2 := hts (.fieldLink RX6 10 "RainVault" "roof" "LRainVault$Roof;") (List.mem_of_getElem? (i := 2) rfl)
  have w3 := hts (.constant RX6 81 (-1000002)) (List.mem_of_getElem? (i := 3) rfl)
  unfold fX6_cistern at hf
  refine lv_iload_n hx hb dX6_cistern_0 rfl (lv_at hl 1 rfl) ?_
  refine lv_iconst (v := (0 : Int32)) hx hb dX6_cistern_1 (by decide) ?_
  refine lv_bipush (v := (6 : Int32)) hx hb dX6_cistern_2 (by decide) ?_
  obtain ⟨x101, hg, hf⟩ := o1_s hf
  refine Ct.callS (ws' := wV g v0 u0 u1 u2 u3 k0 k1 k2 k3 h0 h1 h2 h3 s0 s1 s2 s3 c0 c1 c2 p0 r0 t0 t1 t2 t3 z0 f0 ea R N B S C P Q K X fd tl ik) (As := [.int a1, .int (0 : Int32), .int (6 : Int32)]) (rest := []) (st1 := [.int x101]) (c_X6_isWithin l g a1 (0 : Int32) (6 : Int32) hg) (va_cwS 3 hts gX6_cistern_X6_isWithin rfl rfl rfl q_X6_isWithin.2 ⟨Nat.le_of_ble_eq_true rfl, Nat.le_of_ble_eq_true rfl⟩) ⟨hx, hb, hml, hown, hts⟩ hE hP hD hS hA [] rfl rfl rfl rfl rfl hl.1 rfl rfl (Nat.le_of_ble_eq_true rfl) dX6_cistern_4 (fun H locs hP hD hS => ?_)
  refine lv_if_eq (tgt := 20) hx hb dX6_cistern_7 (by decide) (fun hc => ?_) (fun hc => ?_)
  · have hf := if_t hf hc
    refine lv_aload_n hx hb dX6_cistern_20 rfl (lv_at hl 0 rfl) ?_
    refine lv_ldc hx hb hown w1 dX6_cistern_21 ?_
    obtain ⟨x102, fd103, hg, hf⟩ := o2_s hf
    refine Ct.callV0 (ws' := wV g v0 u0 u1 u2 u3 k0 k1 k2 k3 h0 h1 h2 h3 s0 s1 s2 s3 c0 c1 c2 p0 r0 t0 t1 t2 t3 z0 f0 ea R N B S C P Q K X fd103 tl ik) (As := [.int (-1000001 : Int32)]) (rest := []) (st1 := [.int x102]) (c_X6_finding l g v0 u0 u1 u2 u3 k0 k1 k2 k3 h0 h1 h2 h3 s0 s1 s2 s3 c0 c1 c2 p0 r0 t0 t1 t2 t3 z0 f0 ea R N B S C P Q K X fd tl ik (-1000001 : Int32) hg) (cwV 1 hts gX6_cistern_X6_finding rfl rfl rfl q_X6_finding ⟨Nat.le_of_ble_eq_true rfl, Nat.le_of_ble_eq_true rfl⟩) ⟨hx, hb, hml, hown, hts⟩ hE hP hD hS hA 6 0 rfl rfl rfl rfl hl.1 rfl rfl (Nat.le_of_ble_eq_true rfl) dX6_cistern_23 (fun H locs hP hD hS => ?_)
    obtain ⟨rfl, rfl, rfl⟩ := some_p3 hf
    rw [hQ]; exact Ct.iret hx hb hr hlocks hAe hP hD hS dX6_cistern_26
  · have hf := if_f hf hc
    refine lv_iload_n hx hb dX6_cistern_10 rfl (lv_at hl 2 rfl) ?_
    refine lv_iconst (v := (1 : Int32)) hx hb dX6_cistern_11 (by decide) ?_
    refine lv_bipush (v := (40 : Int32)) hx hb dX6_cistern_12 (by decide) ?_
    obtain ⟨x104, hg, hf⟩ := o1_s hf
    refine Ct.callS (ws' := wV g v0 u0 u1 u2 u3 k0 k1 k2 k3 h0 h1 h2 h3 s0 s1 s2 s3 c0 c1 c2 p0 r0 t0 t1 t2 t3 z0 f0 ea R N B S C P Q K X fd tl ik) (As := [.int a2, .int (1 : Int32), .int (40 : Int32)]) (rest := []) (st1 := [.int x104]) (c_X6_isWithin l g a2 (1 : Int32) (40 : Int32) hg) (va_cwS 3 hts gX6_cistern_X6_isWithin rfl rfl rfl q_X6_isWithin.2 ⟨Nat.le_of_ble_eq_true rfl, Nat.le_of_ble_eq_true rfl⟩) ⟨hx, hb, hml, hown, hts⟩ hE hP hD hS hA [] rfl rfl rfl rfl rfl hl.1 rfl rfl (Nat.le_of_ble_eq_true rfl) dX6_cistern_14 (fun H locs hP hD hS => ?_)
    refine lv_if_ne (tgt := 27) hx hb dX6_cistern_17 (by decide) (fun hc => ?_) (fun hc => ?_)
    · have hf := if_f hf hc
      refine lv_aload_n hx hb dX6_cistern_27 rfl (lv_at hl 0 rfl) ?_
      refine va_get (D := g.1) (ci := 6) (v := .ref u0) (C := RX6) (T := TX6) (N := 11) hx hb hts i_X6_cistern_X6 hown hE.1 hP 0 rfl rfl 0 (by decide) w2 (fun _ h9 => h9) rfl dX6_cistern_28 ?_
      refine va_getN (D := g.1) (ci := 1) (v := .int R.2.2.2.1) (C := RX1) (T := TX1) (N := 9) hx hb hts i_X6_cistern_X1 hown hE.1 hP 1 rfl rfl 3 (by decide) (va_Nw.use rfl (hE.2.1 _ (List.mem_of_getElem? (i := 1) rfl))) (fun _ h9 => h9) rfl dX6_cistern_31 ?_
      refine lv_bipush (v := (8 : Int32)) hx hb dX6_cistern_34 (by decide) ?_
      refine lv_icmp_lt (tgt := 46) hx hb dX6_cistern_36 (by decide) (fun hc => ?_) (fun hc => ?_)
      · have hf := if_t hf hc
        refine lv_aload_n hx hb dX6_cistern_46 rfl (lv_at hl 0 rfl) ?_
        refine va_get (D := g.1) (ci := 6) (v := .ref u0) (C := RX6) (T := TX6) (N := 11) hx hb hts i_X6_cistern_X6 hown hE.1 hP 0 rfl rfl 0 (by decide) w2 (fun _ h9 => h9) rfl dX6_cistern_47 ?_
        refine lv_iload_n hx hb dX6_cistern_50 rfl (lv_at hl 1 rfl) ?_
        refine lv_iload_n hx hb dX6_cistern_51 rfl (lv_at hl 2 rfl) ?_
        obtain ⟨x105, R106, hg, hf⟩ := o2_s hf
        refine Ct.callV (ws' := wV g v0 u0 u1 u2 u3 k0 k1 k2 k3 h0 h1 h2 h3 s0 s1 s2 s3 c0 c1 c2 p0 r0 t0 t1 t2 t3 z0 f0 ea R106 N B S C P Q K X fd tl ik) (As := [.int a1, .int a2]) (rest := []) (st1 := [.int x105]) (c_X1_addCistern l g u0 u1 u2 u3 R a1 a2 hg) (cwV 2 hts gX6_cistern_X1_addCistern rfl rfl rfl q_X1_addCistern ⟨Nat.le_of_ble_eq_true rfl, Nat.le_of_ble_eq_true rfl⟩) ⟨hx, hb, hml, hown, hts⟩ hE hP hD hS hA [1, 2, 3, 4] rfl rfl rfl rfl 1 1 rfl rfl rfl rfl hl.1 rfl rfl (Nat.le_of_ble_eq_true rfl) dX6_cistern_52 (fun H locs hP hD hS => ?_)
        obtain ⟨rfl, rfl, rfl⟩ := some_p3 hf
        rw [hQ]; exact Ct.iret hx hb hr hlocks hAe hP hD hS dX6_cistern_55
      · have hf := if_f hf hc
        refine lv_aload_n hx hb dX6_cistern_39 rfl (lv_at hl 0 rfl) ?_
        refine lv_ldc hx hb hown w3 dX6_cistern_40 ?_
        obtain ⟨x107, fd108, hg, hf⟩ := o2_s hf
        refine Ct.callV0 (ws' := wV g v0 u0 u1 u2 u3 k0 k1 k2 k3 h0 h1 h2 h3 s0 s1 s2 s3 c0 c1 c2 p0 r0 t0 t1 t2 t3 z0 f0 ea R N B S C P Q K X fd108 tl ik) (As := [.int (-1000002 : Int32)]) (rest := []) (st1 := [.int x107]) (c_X6_finding l g v0 u0 u1 u2 u3 k0 k1 k2 k3 h0 h1 h2 h3 s0 s1 s2 s3 c0 c1 c2 p0 r0 t0 t1 t2 t3 z0 f0 ea R N B S C P Q K X fd tl ik (-1000002 : Int32) hg) (cwV 1 hts gX6_cistern_X6_finding rfl rfl rfl q_X6_finding ⟨Nat.le_of_ble_eq_true rfl, Nat.le_of_ble_eq_true rfl⟩) ⟨hx, hb, hml, hown, hts⟩ hE hP hD hS hA 6 0 rfl rfl rfl rfl hl.1 rfl rfl (Nat.le_of_ble_eq_true rfl) dX6_cistern_42 (fun H locs hP hD hS => ?_)
        obtain ⟨rfl, rfl, rfl⟩ := some_p3 hf
        rw [hQ]; exact Ct.iret hx hb hr hlocks hAe hP hD hS dX6_cistern_45
    · have hf := if_t hf hc
      refine lv_aload_n hx hb dX6_cistern_20 rfl (lv_at hl 0 rfl) ?_
      refine lv_ldc hx hb hown w1 dX6_cistern_21 ?_
      obtain ⟨x109, fd110, hg, hf⟩ := o2_s hf
      refine Ct.callV0 (ws' := wV g v0 u0 u1 u2 u3 k0 k1 k2 k3 h0 h1 h2 h3 s0 s1 s2 s3 c0 c1 c2 p0 r0 t0 t1 t2 t3 z0 f0 ea R N B S C P Q K X fd110 tl ik) (As := [.int (-1000001 : Int32)]) (rest := []) (st1 := [.int x109]) (c_X6_finding l g v0 u0 u1 u2 u3 k0 k1 k2 k3 h0 h1 h2 h3 s0 s1 s2 s3 c0 c1 c2 p0 r0 t0 t1 t2 t3 z0 f0 ea R N B S C P Q K X fd tl ik (-1000001 : Int32) hg) (cwV 1 hts gX6_cistern_X6_finding rfl rfl rfl q_X6_finding ⟨Nat.le_of_ble_eq_true rfl, Nat.le_of_ble_eq_true rfl⟩) ⟨hx, hb, hml, hown, hts⟩ hE hP hD hS hA 6 0 rfl rfl rfl rfl hl.1 rfl rfl (Nat.le_of_ble_eq_true rfl) dX6_cistern_23 (fun H locs hP hD hS => ?_)
      obtain ⟨rfl, rfl, rfl⟩ := some_p3 hf
      rw [hQ]; exact Ct.iret hx hb hr hlocks hAe hP hD hS dX6_cistern_26
def fX6_of (R : Rf) (fd : Nat → Int32) (a1 : Int32) (a2 : Int32) : Option (Int32 × (Nat → Int32)) := o1 (fX1_hasCistern R a1) (fun x101 => if x101 = 0 then (o2 (fX6_finding fd (-1000001 : Int32)) (fun x102 fd103 => some (x102, fd103))) else (o1 (fX6_isWithin a2 (0 : Int32) (10 : Int32)) (fun x104 => if x104 = 0 then (o2 (fX6_finding fd (-1000001 : Int32)) (fun x107 fd108 => some (x107, fd108))) else (if a2 = (6 : Int32) then (o1 (fX1_shown R a1) (fun x106 => some (x106, fd))) else (o1 (fX1_get R a1 a2) (fun x105 => some (x105, fd)))))))
theorem q_X6_of : yX6_of.cls = RX6 ∧ yX6_of.cls ≠ "java/lang/invoke/MethodHandle" ∧ yX6_of.cls ≠ "java/lang/invoke/VarHandle" ∧ (parseMethodDescriptor yX6_of.desc).map (fun d => d.parameters.length) = some 2 := by decide +kernel
theorem i_X6_of_X6 : ∀ w ∈ u_ws RX6 TX6 11, w ∈ wsX6_of := fun _ h => List.mem_cons_of_mem _ (List.mem_append_left _ (List.mem_append_right _ (h)))
set_option maxHeartbeats 4000000 in
set_option maxRecDepth 100000 in
theorem c_X6_of (l : Launch) (g : gG) (v0 u0 u1 u2 u3 k0 k1 k2 k3 h0 h1 h2 h3 s0 s1 s2 s3 c0 c1 c2 p0 r0 t0 t1 t2 t3 z0 f0 : Nat) (ea : Nat → Nat) (R : Rf) (N : Rf) (B : Rf) (S : Sv) (C : Ca) (P : Nat → Int32) (Q : Tr) (K : Tk) (X : F4) (fd : Nat → Int32) (tl : Int32) (ik : Int32) (a1 : Int32) (a2 : Int32) {r : Int32} {fd' : Nat → Int32} (hf : fX6_of R fd a1 a2 = some (r, fd')) : Ct l yX6_of wsX6_of (rmm 3 68) g (wV g v0 u0 u1 u2 u3 k0 k1 k2 k3 h0 h1 h2 h3 s0 s1 s2 s3 c0 c1 c2 p0 r0 t0 t1 t2 t3 z0 f0 ea R N B S C P Q K X fd tl ik) (wV g v0 u0 u1 u2 u3 k0 k1 k2 k3 h0 h1 h2 h3 s0 s1 s2 s3 c0 c1 c2 p0 r0 t0 t1 t2 t3 z0 f0 ea R N B S C P Q K X (fd') tl ik) [.ref v0, .int a1, .int a2] (some (.int r)) := by
  refine Ct.mk (by decide) rfl (Nat.le_of_ble_eq_true rfl) ?_
  intro p e s m args below meth c A ls hx hb hr hml hts hown hlocks hA hE hP hD hS hl hAe
  obtain ⟨Qx, hQ⟩ : ∃ Qx : State → Prop, Qx = MQ below (QcG g (wV g v0 u0 u1 u2 u3 k0 k1 k2 k3 h0 h1 h2 h3 s0 s1 s2 s3 c0 c1 c2 p0 r0 t0 t1 t2 t3 z0 f0 ea R N B S C P Q K X fd tl ik) (wV g v0 u0 u1 u2 u3 k0 k1 k2 k3 h0 h1 h2 h3 s0 s1 s2 s3 c0 c1 c2 p0 r0 t0 t1 t2 t3 z0 f0 ea R N B S C P Q K X (fd') tl ik) (some (.int r)) s.heap.size) args s 0 0 A := ⟨_, rfl⟩
  rw [← hQ]
  have hown : s.vm.findClass RX6 = some m.cls := hown
  have hl : lv_has ls 3 [(0, .ref v0), (1, .int a1), (2, .int a2)] := hl
  have w1 := hts (.fieldLink RX6 10 "RainVault" "roof" "LRainVault$Roof;") (List.mem_of_getElem? (i := 1) rfl)
  have w2 := hts (.constant RX6 73 (-1000001)) (List.mem_of_getElem? (i := 2) rfl)
  unfold fX6_of at hf
  refine lv_aload_n hx hb dX6_of_0 rfl (lv_at hl 0 rfl) ?_
  refine va_get (D := g.1) (ci := 6) (v := .ref u0) (C := RX6) (T := TX6) (N := 11) hx hb hts i_X6_of_X6 hown hE.1 hP 0 rfl rfl 0 (by decide) w1 (fun _ h9 => h9) rfl dX6_of_1 ?_
  refine lv_iload_n hx hb dX6_of_4 rfl (lv_at hl 1 rfl) ?_
  obtain ⟨x101, hg, hf⟩ := o1_s hf
  refine Ct.callV (ws' := wV g v0 u0 u1 u2 u3 k0 k1 k2 k3 h0 h1 h2 h3 s0 s1 s2 s3 c0 c1 c2 p0 r0 t0 t1 t2 t3 z0 f0 ea R N B S C P Q K X fd tl ik) (As := [.int a1]) (rest := []) (st1 := [.int x101]) (c_X1_hasCistern l g u0 u1 u2 u3 R a1 hg) (cwV 1 hts gX6_of_X1_hasCistern rfl rfl rfl q_X1_hasCistern ⟨Nat.le_of_ble_eq_true rfl, Nat.le_of_ble_eq_true rfl⟩) ⟨hx, hb, hml, hown, hts⟩ hE hP hD hS hA [1, 2, 3, 4] rfl rfl rfl rfl 1 1 rfl rfl rfl rfl hl.1 rfl rfl (Nat.le_of_ble_eq_true rfl) dX6_of_5 (fun H locs hP hD hS => ?_)
  refine lv_if_eq (tgt := 21) hx hb dX6_of_8 (by decide) (fun hc => ?_) (fun hc => ?_)
  · have hf := if_t hf hc
    refine lv_aload_n hx hb dX6_of_21 rfl (lv_at hl 0 rfl) ?_
    refine lv_ldc hx hb hown w2 dX6_of_22 ?_
    obtain ⟨x102, fd103, hg, hf⟩ := o2_s hf
    refine Ct.callV0 (ws' := wV g v0 u0 u1 u2 u3 k0 k1 k2 k3 h0 h1 h2 h3 s0 s1 s2 s3 c0 c1 c2 p0 r0 t0 t1 t2 t3 z0 f0 ea R N B S C P Q K X fd103 tl ik) (As := [.int (-1000001 : Int32)]) (rest := []) (st1 := [.int x102]) (c_X6_finding l g v0 u0 u1 u2 u3 k0 k1 k2 k3 h0 h1 h2 h3 s0 s1 s2 s3 c0 c1 c2 p0 r0 t0 t1 t2 t3 z0 f0 ea R N B S C P Q K X fd tl ik (-1000001 : Int32) hg) (cwV 1 hts gX6_of_X6_finding rfl rfl rfl q_X6_finding ⟨Nat.le_of_ble_eq_true rfl, Nat.le_of_ble_eq_true rfl⟩) ⟨hx, hb, hml, hown, hts⟩ hE hP hD hS hA 6 0 rfl rfl rfl rfl hl.1 rfl rfl (Nat.le_of_ble_eq_true rfl) dX6_of_24 (fun H locs hP hD hS => ?_)
    obtain ⟨rfl, rfl⟩ := some_p2 hf
    rw [hQ]; exact Ct.iret hx hb hr hlocks hAe hP hD hS dX6_of_27
  · have hf := if_f hf hc
    refine lv_iload_n hx hb dX6_of_11 rfl (lv_at hl 2 rfl) ?_
    refine lv_iconst (v := (0 : Int32)) hx hb dX6_of_12 (by decide) ?_
    refine lv_bipush (v := (10 : Int32)) hx hb dX6_of_13 (by decide) ?_
    obtain ⟨x104, hg, hf⟩ := o1_s hf
    refine Ct.callS (ws' := wV g v0 u0 u1 u2 u3 k0 k1 k2 k3 h0 h1 h2 h3 s0 s1 s2 s3 c0 c1 c2 p0 r0 t0 t1 t2 t3 z0 f0 ea R N B S C P Q K X fd tl ik) (As := [.int a2, .int (0 : Int32), .int (10 : Int32)]) (rest := []) (st1 := [.int x104]) (c_X6_isWithin l g a2 (0 : Int32) (10 : Int32) hg) (va_cwS 3 hts gX6_of_X6_isWithin rfl rfl rfl q_X6_isWithin.2 ⟨Nat.le_of_ble_eq_true rfl, Nat.le_of_ble_eq_true rfl⟩) ⟨hx, hb, hml, hown, hts⟩ hE hP hD hS hA [] rfl rfl rfl rfl rfl hl.1 rfl rfl (Nat.le_of_ble_eq_true rfl) dX6_of_15 (fun H locs hP hD hS => ?_)
    refine lv_if_ne (tgt := 28) hx hb dX6_of_18 (by decide) (fun hc => ?_) (fun hc => ?_)
    · have hf := if_f hf hc
      refine lv_iload_n hx hb dX6_of_28 rfl (lv_at hl 2 rfl) ?_
      refine lv_bipush (v := (6 : Int32)) hx hb dX6_of_29 (by decide) ?_
      refine lv_icmp_ne (tgt := 45) hx hb dX6_of_31 (by decide) (fun hc => ?_) (fun hc => ?_)
      · have hf := if_f hf hc
        refine lv_aload_n hx hb dX6_of_45 rfl (lv_at hl 0 rfl) ?_
        refine va_get (D := g.1) (ci := 6) (v := .ref u0) (C := RX6) (T := TX6) (N := 11) hx hb hts i_X6_of_X6 hown hE.1 hP 0 rfl rfl 0 (by decide) w1 (fun _ h9 => h9) rfl dX6_of_46 ?_
        refine lv_iload_n hx hb dX6_of_49 rfl (lv_at hl 1 rfl) ?_
        refine lv_iload_n hx hb dX6_of_50 rfl (lv_at hl 2 rfl) ?_
        obtain ⟨x105, hg, hf⟩ := o1_s hf
        refine Ct.callV (ws' := wV g v0 u0 u1 u2 u3 k0 k1 k2 k3 h0 h1 h2 h3 s0 s1 s2 s3 c0 c1 c2 p0 r0 t0 t1 t2 t3 z0 f0 ea R N B S C P Q K X fd tl ik) (As := [.int a1, .int a2]) (rest := []) (st1 := [.int x105]) (c_X1_get l g u0 u1 u2 u3 R a1 a2 hg) (cwV 2 hts gX6_of_X1_get rfl rfl rfl q_X1_get ⟨Nat.le_of_ble_eq_true rfl, Nat.le_of_ble_eq_true rfl⟩) ⟨hx, hb, hml, hown, hts⟩ hE hP hD hS hA [1, 2, 3, 4] rfl rfl rfl rfl 1 1 rfl rfl rfl rfl hl.1 rfl rfl (Nat.le_of_ble_eq_true rfl) dX6_of_51 (fun H locs hP hD hS => ?_)
        obtain ⟨rfl, rfl⟩ := some_p2 hf
        rw [hQ]; exact Ct.iret hx hb hr hlocks hAe hP hD hS dX6_of_54
      · have hf := if_t hf hc
        refine lv_aload_n hx hb dX6_of_34 rfl (lv_at hl 0 rfl) ?_
        refine va_get (D := g.1) (ci := 6) (v := .ref u0) (C := RX6) (T := TX6) (N := 11) hx hb hts i_X6_of_X6 hown hE.1 hP 0 rfl rfl 0 (by decide) w1 (fun _ h9 => h9) rfl dX6_of_35 ?_
        refine lv_iload_n hx hb dX6_of_38 rfl (lv_at hl 1 rfl) ?_
        obtain ⟨x106, hg, hf⟩ := o1_s hf
        refine Ct.callV (ws' := wV g v0 u0 u1 u2 u3 k0 k1 k2 k3 h0 h1 h2 h3 s0 s1 s2 s3 c0 c1 c2 p0 r0 t0 t1 t2 t3 z0 f0 ea R N B S C P Q K X fd tl ik) (As := [.int a1]) (rest := []) (st1 := [.int x106]) (c_X1_shown l g u0 u1 u2 u3 R a1 hg) (cwV 1 hts gX6_of_X1_shown rfl rfl rfl q_X1_shown ⟨Nat.le_of_ble_eq_true rfl, Nat.le_of_ble_eq_true rfl⟩) ⟨hx, hb, hml, hown, hts⟩ hE hP hD hS hA [1, 2, 3, 4] rfl rfl rfl rfl 1 1 rfl rfl rfl rfl hl.1 rfl rfl (Nat.le_of_ble_eq_true rfl) dX6_of_39 (fun H locs hP hD hS => ?_)
        refine lv_goto (tgt := 54) hx hb dX6_of_42 (by decide) ?_
        obtain ⟨rfl, rfl⟩ := some_p2 hf
        rw [hQ]; exact Ct.iret hx hb hr hlocks hAe hP hD hS dX6_of_54
    · have hf := if_t hf hc
      refine lv_aload_n hx hb dX6_of_21 rfl (lv_at hl 0 rfl) ?_
      refine lv_ldc hx hb hown w2 dX6_of_22 ?_
      obtain ⟨x107, fd108, hg, hf⟩ := o2_s hf
      refine Ct.callV0 (ws' := wV g v0 u0 u1 u2 u3 k0 k1 k2 k3 h0 h1 h2 h3 s0 s1 s2 s3 c0 c1 c2 p0 r0 t0 t1 t2 t3 z0 f0 ea R N B S C P Q K X fd108 tl ik) (As := [.int (-1000001 : Int32)]) (rest := []) (st1 := [.int x107]) (c_X6_finding l g v0 u0 u1 u2 u3 k0 k1 k2 k3 h0 h1 h2 h3 s0 s1 s2 s3 c0 c1 c2 p0 r0 t0 t1 t2 t3 z0 f0 ea R N B S C P Q K X fd tl ik (-1000001 : Int32) hg) (cwV 1 hts gX6_of_X6_finding rfl rfl rfl q_X6_finding ⟨Nat.le_of_ble_eq_true rfl, Nat.le_of_ble_eq_true rfl⟩) ⟨hx, hb, hml, hown, hts⟩ hE hP hD hS hA 6 0 rfl rfl rfl rfl hl.1 rfl rfl (Nat.le_of_ble_eq_true rfl) dX6_of_24 (fun H locs hP hD hS => ?_)
      obtain ⟨rfl, rfl⟩ := some_p2 hf
      rw [hQ]; exact Ct.iret hx hb hr hlocks hAe hP hD hS dX6_of_27
def fX6_change (R : Rf) (fd : Nat → Int32) (a1 : Int32) (a2 : Int32) (a3 : Int32) : Option (Int32 × Rf × (Nat → Int32)) := o1 (fX1_hasCistern R a1) (fun x101 => if x101 = 0 then (o2 (fX6_finding fd (-1000001 : Int32)) (fun x102 fd103 => some (x102, R, fd103))) else (o1 (fX6_isWithin a2 (0 : Int32) (10 : Int32)) (fun x104 => if x104 = 0 then (o2 (fX6_finding fd (-1000001 : Int32)) (fun x105 fd106 => some (x105, R, fd106))) else (o1 (fX1_mayBecome R a1 a2 a3) (fun x107 => if x107 = 0 then (o2 (fX6_finding fd (-1000001 : Int32)) (fun x110 fd111 => some (x110, R, fd111))) else (o1 (fX1_get R a1 a2) (fun x108 => o1 (fX1_set R a1 a2 a3) (fun R109 => some (x108, R109, fd)))))))))
theorem q_X6_change : yX6_change.cls = RX6 ∧ yX6_change.cls ≠ "java/lang/invoke/MethodHandle" ∧ yX6_change.cls ≠ "java/lang/invoke/VarHandle" ∧ (parseMethodDescriptor yX6_change.desc).map (fun d => d.parameters.length) = some 3 := by decide +kernel
theorem i_X6_change_X6 : ∀ w ∈ u_ws RX6 TX6 11, w ∈ wsX6_change := fun _ h => List.mem_cons_of_mem _ (List.mem_append_left _ (List.mem_append_right _ (h)))
set_option maxHeartbeats 4000000 in
set_option maxRecDepth 100000 in
theorem c_X6_change (l : Launch) (g : gG) (v0 u0 u1 u2 u3 k0 k1 k2 k3 h0 h1 h2 h3 s0 s1 s2 s3 c0 c1 c2 p0 r0 t0 t1 t2 t3 z0 f0 : Nat) (ea : Nat → Nat) (R : Rf) (N : Rf) (B : Rf) (S : Sv) (C : Ca) (P : Nat → Int32) (Q : Tr) (K : Tk) (X : F4) (fd : Nat → Int32) (tl : Int32) (ik : Int32) (a1 : Int32) (a2 : Int32) (a3 : Int32) {r : Int32} {R' : Rf} {fd' : Nat → Int32} (hf : fX6_change R fd a1 a2 a3 = some (r, R', fd')) : Ct l yX6_change wsX6_change (rmm 2 65) g (wV g v0 u0 u1 u2 u3 k0 k1 k2 k3 h0 h1 h2 h3 s0 s1 s2 s3 c0 c1 c2 p0 r0 t0 t1 t2 t3 z0 f0 ea R N B S C P Q K X fd tl ik) (wV g v0 u0 u1 u2 u3 k0 k1 k2 k3 h0 h1 h2 h3 s0 s1 s2 s3 c0 c1 c2 p0 r0 t0 t1 t2 t3 z0 f0 ea (R') N B S C P Q K X (fd') tl ik) [.ref v0, .int a1, .int a2, .int a3] (some (.int r)) := by
  refine Ct.mk (by decide) rfl (Nat.le_of_ble_eq_true rfl) ?_
  intro p e s m args below meth c A ls hx hb hr hml hts hown hlocks hA hE hP hD hS hl hAe
  obtain ⟨Qx, hQ⟩ : ∃ Qx : State → Prop, Qx = MQ below (QcG g (wV g v0 u0 u1 u2 u3 k0 k1 k2 k3 h0 h1 h2 h3 s0 s1 s2 s3 c0 c1 c2 p0 r0 t0 t1 t2 t3 z0 f0 ea R N B S C P Q K X fd tl ik) (wV g v0 u0 u1 u2 u3 k0 k1 k2 k3 h0 h1 h2 h3 s0 s1 s2 s3 c0 c1 c2 p0 r0 t0 t1 t2 t3 z0 f0 ea (R') N B S C P Q K X (fd') tl ik) (some (.int r)) s.heap.size) args s 0 0 A := ⟨_, rfl⟩
  rw [← hQ]
  have hown : s.vm.findClass RX6 = some m.cls := hown
  have hl : lv_has ls 5 [(0, .ref v0), (1, .int a1), (2, .int a2), (3, .int a3)] := hl
  have w1 := hts (.fieldLink RX6 10 "RainVault" "roof" "LRainVault$Roof;") (List.mem_of_getElem? (i := 1) rfl)
  have w2 := hts (.constant RX6 73 (-1000001)) (List.mem_of_getElem? (i := 2) rfl)
  unfold fX6_change at hf
  refine lv_aload_n hx hb dX6_change_0 rfl (lv_at hl 0 rfl) ?_
  refine va_get (D := g.1) (ci := 6) (v := .ref u0) (C := RX6) (T := TX6) (N := 11) hx hb hts i_X6_change_X6 hown hE.1 hP 0 rfl rfl 0 (by decide) w1 (fun _ h9 => h9) rfl dX6_change_1 ?_
  refine lv_iload_n hx hb dX6_change_4 rfl (lv_at hl 1 rfl) ?_
  obtain ⟨x101, hg, hf⟩ := o1_s hf
  refine Ct.callV (ws' := wV g v0 u0 u1 u2 u3 k0 k1 k2 k3 h0 h1 h2 h3 s0 s1 s2 s3 c0 c1 c2 p0 r0 t0 t1 t2 t3 z0 f0 ea R N B S C P Q K X fd tl ik) (As := [.int a1]) (rest := []) (st1 := [.int x101]) (c_X1_hasCistern l g u0 u1 u2 u3 R a1 hg) (cwV 1 hts gX6_change_X1_hasCistern rfl rfl rfl q_X1_hasCistern ⟨Nat.le_of_ble_eq_true rfl, Nat.le_of_ble_eq_true rfl⟩) ⟨hx, hb, hml, hown, hts⟩ hE hP hD hS hA [1, 2, 3, 4] rfl rfl rfl rfl 1 1 rfl rfl rfl rfl hl.1 rfl rfl (Nat.le_of_ble_eq_true rfl) dX6_change_5 (fun H locs hP hD hS => ?_)
  refine lv_if_eq (tgt := 34) hx hb dX6_change_8 (by decide) (fun hc => ?_) (fun hc => ?_)
  · have hf := if_t hf hc
    refine lv_aload_n hx hb dX6_change_34 rfl (lv_at hl 0 rfl) ?_
    refine lv_ldc hx hb hown w2 dX6_change_35 ?_
    obtain ⟨x102, fd103, hg, hf⟩ := o2_s hf
    refine Ct.callV0 (ws' := wV g v0 u0 u1 u2 u3 k0 k1 k2 k3 h0 h1 h2 h3 s0 s1 s2 s3 c0 c1 c2 p0 r0 t0 t1 t2 t3 z0 f0 ea R N B S C P Q K X fd103 tl ik) (As := [.int (-1000001 : Int32)]) (rest := []) (st1 := [.int x102]) (c_X6_finding l g v0 u0 u1 u2 u3 k0 k1 k2 k3 h0 h1 h2 h3 s0 s1 s2 s3 c0 c1 c2 p0 r0 t0 t1 t2 t3 z0 f0 ea R N B S C P Q K X fd tl ik (-1000001 : Int32) hg) (cwV 1 hts gX6_change_X6_finding rfl rfl rfl q_X6_finding ⟨Nat.le_of_ble_eq_true rfl, Nat.le_of_ble_eq_true rfl⟩) ⟨hx, hb, hml, hown, hts⟩ hE hP hD hS hA 6 0 rfl rfl rfl rfl hl.1 rfl rfl (Nat.le_of_ble_eq_true rfl) dX6_change_37 (fun H locs hP hD hS => ?_)
    obtain ⟨rfl, rfl, rfl⟩ := some_p3 hf
    rw [hQ]; exact Ct.iret hx hb hr hlocks hAe hP hD hS dX6_change_40
  · have hf := if_f hf hc
    refine lv_iload_n hx hb dX6_change_11 rfl (lv_at hl 2 rfl) ?_
    refine lv_iconst (v := (0 : Int32)) hx hb dX6_change_12 (by decide) ?_
    refine lv_bipush (v := (10 : Int32)) hx hb dX6_change_13 (by decide) ?_
    obtain ⟨x104, hg, hf⟩ := o1_s hf
    refine Ct.callS (ws' := wV g v0 u0 u1 u2 u3 k0 k1 k2 k3 h0 h1 h2 h3 s0 s1 s2 s3 c0 c1 c2 p0 r0 t0 t1 t2 t3 z0 f0 ea R N B S C P Q K X fd tl ik) (As := [.int a2, .int (0 : Int32), .int (10 : Int32)]) (rest := []) (st1 := [.int x104]) (c_X6_isWithin l g a2 (0 : Int32) (10 : Int32) hg) (va_cwS 3 hts gX6_change_X6_isWithin rfl rfl rfl q_X6_isWithin.2 ⟨Nat.le_of_ble_eq_true rfl, Nat.le_of_ble_eq_true rfl⟩) ⟨hx, hb, hml, hown, hts⟩ hE hP hD hS hA [] rfl rfl rfl rfl rfl hl.1 rfl rfl (Nat.le_of_ble_eq_true rfl) dX6_change_15 (fun H locs hP hD hS => ?_)
    refine lv_if_eq (tgt := 34) hx hb dX6_change_18 (by decide) (fun hc => ?_) (fun hc => ?_)
    · have hf := if_t hf hc
      refine lv_aload_n hx hb dX6_change_34 rfl (lv_at hl 0 rfl) ?_
      refine lv_ldc hx hb hown w2 dX6_change_35 ?_
      obtain ⟨x105, fd106, hg, hf⟩ := o2_s hf
      refine Ct.callV0 (ws' := wV g v0 u0 u1 u2 u3 k0 k1 k2 k3 h0 h1 h2 h3 s0 s1 s2 s3 c0 c1 c2 p0 r0 t0 t1 t2 t3 z0 f0 ea R N B S C P Q K X fd106 tl ik) (As := [.int (-1000001 : Int32)]) (rest := []) (st1 := [.int x105]) (c_X6_finding l g v0 u0 u1 u2 u3 k0 k1 k2 k3 h0 h1 h2 h3 s0 s1 s2 s3 c0 c1 c2 p0 r0 t0 t1 t2 t3 z0 f0 ea R N B S C P Q K X fd tl ik (-1000001 : Int32) hg) (cwV 1 hts gX6_change_X6_finding rfl rfl rfl q_X6_finding ⟨Nat.le_of_ble_eq_true rfl, Nat.le_of_ble_eq_true rfl⟩) ⟨hx, hb, hml, hown, hts⟩ hE hP hD hS hA 6 0 rfl rfl rfl rfl hl.1 rfl rfl (Nat.le_of_ble_eq_true rfl) dX6_change_37 (fun H locs hP hD hS => ?_)
      obtain ⟨rfl, rfl, rfl⟩ := some_p3 hf
      rw [hQ]; exact Ct.iret hx hb hr hlocks hAe hP hD hS dX6_change_40
    · have hf := if_f hf hc
      refine lv_aload_n hx hb dX6_change_21 rfl (lv_at hl 0 rfl) ?_
      refine va_get (D := g.1) (ci := 6) (v := .ref u0) (C := RX6) (T := TX6) (N := 11) hx hb hts i_X6_change_X6 hown hE.1 hP 0 rfl rfl 0 (by decide) w1 (fun _ h9 => h9) rfl dX6_change_22 ?_
      refine lv_iload_n hx hb dX6_change_25 rfl (lv_at hl 1 rfl) ?_
      refine lv_iload_n hx hb dX6_change_26 rfl (lv_at hl 2 rfl) ?_
      refine lv_iload_n hx hb dX6_change_27 rfl (lv_at hl 3 rfl) ?_
      obtain ⟨x107, hg, hf⟩ := o1_s hf
      refine Ct.callV (ws' := wV g v0 u0 u1 u2 u3 k0 k1 k2 k3 h0 h1 h2 h3 s0 s1 s2 s3 c0 c1 c2 p0 r0 t0 t1 t2 t3 z0 f0 ea R N B S C P Q K X fd tl ik) (As := [.int a1, .int a2, .int a3]) (rest := []) (st1 := [.int x107]) (c_X1_mayBecome l g u0 u1 u2 u3 R a1 a2 a3 hg) (cwV 3 hts gX6_change_X1_mayBecome rfl rfl rfl q_X1_mayBecome ⟨Nat.le_of_ble_eq_true rfl, Nat.le_of_ble_eq_true rfl⟩) ⟨hx, hb, hml, hown, hts⟩ hE hP hD hS hA [1, 2, 3, 4] rfl rfl rfl rfl 1 1 rfl rfl rfl rfl hl.1 rfl rfl (Nat.le_of_ble_eq_true rfl) dX6_change_28 (fun H locs hP hD hS => ?_)
      refine lv_if_ne (tgt := 41) hx hb dX6_change_31 (by decide) (fun hc => ?_) (fun hc => ?_)
      · have hf := if_f hf hc
        refine lv_aload_n hx hb dX6_change_41 rfl (lv_at hl 0 rfl) ?_
        refine va_get (D := g.1) (ci := 6) (v := .ref u0) (C := RX6) (T := TX6) (N := 11) hx hb hts i_X6_change_X6 hown hE.1 hP 0 rfl rfl 0 (by decide) w1 (fun _ h9 => h9) rfl dX6_change_42 ?_
        refine lv_iload_n hx hb dX6_change_45 rfl (lv_at hl 1 rfl) ?_
        refine lv_iload_n hx hb dX6_change_46 rfl (lv_at hl 2 rfl) ?_
        obtain ⟨x108, hg, hf⟩ := o1_s hf
        refine Ct.callV (ws' := wV g v0 u0 u1 u2 u3 k0 k1 k2 k3 h0 h1 h2 h3 s0 s1 s2 s3 c0 c1 c2 p0 r0 t0 t1 t2 t3 z0 f0 ea R N B S C P Q K X fd tl ik) (As := [.int a1, .int a2]) (rest := []) (st1 := [.int x108]) (c_X1_get l g u0 u1 u2 u3 R a1 a2 hg) (cwV 2 hts gX6_change_X1_get rfl rfl rfl q_X1_get ⟨Nat.le_of_ble_eq_true rfl, Nat.le_of_ble_eq_true rfl⟩) ⟨hx, hb, hml, hown, hts⟩ hE hP hD hS hA [1, 2, 3, 4] rfl rfl rfl rfl 1 1 rfl rfl rfl rfl hl.1 rfl rfl (Nat.le_of_ble_eq_true rfl) dX6_change_47 (fun H locs hP hD hS => ?_)
        refine lv_istore (lv' := [(4, .int x108), (0, .ref v0), (1, .int a1), (2, .int a2), (3, .int a3)]) hx hb dX6_change_50 hl (by decide) rfl (fun ls hl => ?_)
        refine lv_aload_n hx hb dX6_change_52 rfl (lv_at hl 1 rfl) ?_
        refine va_get (D := g.1) (ci := 6) (v := .ref u0) (C := RX6) (T := TX6) (N := 11) hx hb hts i_X6_change_X6 hown hE.1 hP 0 rfl rfl 0 (by decide) w1 (fun _ h9 => h9) rfl dX6_change_53 ?_
        refine lv_iload_n hx hb dX6_change_56 rfl (lv_at hl 2 rfl) ?_
        refine lv_iload_n hx hb dX6_change_57 rfl (lv_at hl 3 rfl) ?_
        refine lv_iload_n hx hb dX6_change_58 rfl (lv_at hl 4 rfl) ?_
        obtain ⟨R109, hg, hf⟩ := o1_s hf
        refine Ct.callV (ws' := wV g v0 u0 u1 u2 u3 k0 k1 k2 k3 h0 h1 h2 h3 s0 s1 s2 s3 c0 c1 c2 p0 r0 t0 t1 t2 t3 z0 f0 ea R109 N B S C P Q K X fd tl ik) (As := [.int a1, .int a2, .int a3]) (rest := []) (st1 := []) (c_X1_set l g u0 u1 u2 u3 R a1 a2 a3 hg) (cwV 3 hts gX6_change_X1_set rfl rfl rfl q_X1_set ⟨Nat.le_of_ble_eq_true rfl, Nat.le_of_ble_eq_true rfl⟩) ⟨hx, hb, hml, hown, hts⟩ hE hP hD hS hA [1, 2, 3, 4] rfl rfl rfl rfl 1 1 rfl rfl rfl rfl hl.1 rfl rfl (Nat.le_of_ble_eq_true rfl) dX6_change_59 (fun H locs hP hD hS => ?_)
        refine lv_iload hx hb dX6_change_62 (lv_at hl 0 rfl) ?_
        obtain ⟨rfl, rfl, rfl⟩ := some_p3 hf
        rw [hQ]; exact Ct.iret hx hb hr hlocks hAe hP hD hS dX6_change_64
      · have hf := if_t hf hc
        refine lv_aload_n hx hb dX6_change_34 rfl (lv_at hl 0 rfl) ?_
        refine lv_ldc hx hb hown w2 dX6_change_35 ?_
        obtain ⟨x110, fd111, hg, hf⟩ := o2_s hf
        refine Ct.callV0 (ws' := wV g v0 u0 u1 u2 u3 k0 k1 k2 k3 h0 h1 h2 h3 s0 s1 s2 s3 c0 c1 c2 p0 r0 t0 t1 t2 t3 z0 f0 ea R N B S C P Q K X fd111 tl ik) (As := [.int (-1000001 : Int32)]) (rest := []) (st1 := [.int x110]) (c_X6_finding l g v0 u0 u1 u2 u3 k0 k1 k2 k3 h0 h1 h2 h3 s0 s1 s2 s3 c0 c1 c2 p0 r0 t0 t1 t2 t3 z0 f0 ea R N B S C P Q K X fd tl ik (-1000001 : Int32) hg) (cwV 1 hts gX6_change_X6_finding rfl rfl rfl q_X6_finding ⟨Nat.le_of_ble_eq_true rfl, Nat.le_of_ble_eq_true rfl⟩) ⟨hx, hb, hml, hown, hts⟩ hE hP hD hS hA 6 0 rfl rfl rfl rfl hl.1 rfl rfl (Nat.le_of_ble_eq_true rfl) dX6_change_37 (fun H locs hP hD hS => ?_)
        obtain ⟨rfl, rfl, rfl⟩ := some_p3 hf
        rw [hQ]; exact Ct.iret hx hb hr hlocks hAe hP hD hS dX6_change_40
def fX6_cold (R : Rf) (fd : Nat → Int32) (a1 : Int32) : Option (Int32 × Rf × (Nat → Int32)) := o1 (fX6_isWithin a1 (0 : Int32) (1 : Int32)) (fun x101 => if x101 = 0 then (o2 (fX6_finding fd (-1000001 : Int32)) (fun x102 fd103 => some (x102, R, fd103))) else (if R.2.2.2.2.2.1 = 0 then (if a1 = (1 : Int32) then (some ((0 : Int32), (R.1, R.2.1, R.2.2.1, R.2.2.2.1, R.2.2.2.2.1, (1 : Int32), R.2.2.2.2.2.2.1, R.2.2.2.2.2.2.2.1, R.2.2.2.2.2.2.2.2), fd)) else (some ((0 : Int32), (R.1, R.2.1, R.2.2.1, R.2.2.2.1, R.2.2.2.2.1, (0 : Int32), R.2.2.2.2.2.2.1, R.2.2.2.2.2.2.2.1, R.2.2.2.2.2.2.2.2), fd))) else (if a1 = (1 : Int32) then (some ((1 : Int32), (R.1, R.2.1, R.2.2.1, R.2.2.2.1, R.2.2.2.2.1, (1 : Int32), R.2.2.2.2.2.2.1, R.2.2.2.2.2.2.2.1, R.2.2.2.2.2.2.2.2), fd)) else (some ((1 : Int32), (R.1, R.2.1, R.2.2.1, R.2.2.2.1, R.2.2.2.2.1, (0 : Int32), R.2.2.2.2.2.2.1, R.2.2.2.2.2.2.2.1, R.2.2.2.2.2.2.2.2), fd)))))
theorem q_X6_cold : yX6_cold.cls = RX6 ∧ yX6_cold.cls ≠ "java/lang/invoke/MethodHandle" ∧ yX6_cold.cls ≠ "java/lang/invoke/VarHandle" ∧ (parseMethodDescriptor yX6_cold.desc).map (fun d => d.parameters.length) = some 1 := by decide +kernel
theorem i_X6_cold_X6 : ∀ w ∈ u_ws RX6 TX6 11, w ∈ wsX6_cold := fun _ h => List.mem_cons_of_mem _ (List.mem_append_left _ (List.mem_append_right _ (h)))
theorem i_X6_cold_X1 : ∀ w ∈ u_ws RX1 TX1 9, w ∈ wsX6_cold := fun _ h => List.mem_cons_of_mem _ (List.mem_append_right _ (h))
set_option maxHeartbeats 4000000 in
set_option maxRecDepth 100000 in
theorem c_X6_cold (l : Launch) (g : gG) (v0 u0 u1 u2 u3 k0 k1 k2 k3 h0 h1 h2 h3 s0 s1 s2 s3 c0 c1 c2 p0 r0 t0 t1 t2 t3 z0 f0 : Nat) (ea : Nat → Nat) (R : Rf) (N : Rf) (B : Rf) (S : Sv) (C : Ca) (P : Nat → Int32) (Q : Tr) (K : Tk) (X : F4) (fd : Nat → Int32) (tl : Int32) (ik : Int32) (a1 : Int32) {r : Int32} {R' : Rf} {fd' : Nat → Int32} (hf : fX6_cold R fd a1 = some (r, R', fd')) : Ct l yX6_cold wsX6_cold (rmm 2 44) g (wV g v0 u0 u1 u2 u3 k0 k1 k2 k3 h0 h1 h2 h3 s0 s1 s2 s3 c0 c1 c2 p0 r0 t0 t1 t2 t3 z0 f0 ea R N B S C P Q K X fd tl ik) (wV g v0 u0 u1 u2 u3 k0 k1 k2 k3 h0 h1 h2 h3 s0 s1 s2 s3 c0 c1 c2 p0 r0 t0 t1 t2 t3 z0 f0 ea (R') N B S C P Q K X (fd') tl ik) [.ref v0, .int a1] (some (.int r)) := by
  refine Ct.mk (by decide) rfl (Nat.le_of_ble_eq_true rfl) ?_
  intro p e s m args below meth c A ls hx hb hr hml hts hown hlocks hA hE hP hD hS hl hAe
  obtain ⟨Qx, hQ⟩ : ∃ Qx : State → Prop, Qx = MQ below (QcG g (wV g v0 u0 u1 u2 u3 k0 k1 k2 k3 h0 h1 h2 h3 s0 s1 s2 s3 c0 c1 c2 p0 r0 t0 t1 t2 t3 z0 f0 ea R N B S C P Q K X fd tl ik) (wV g v0 u0 u1 u2 u3 k0 k1 k2 k3 h0 h1 h2 h3 s0 s1 s2 s3 c0 c1 c2 p0 r0 t0 t1 t2 t3 z0 f0 ea (R') N B S C P Q K X (fd') tl ik) (some (.int r)) s.heap.size) args s 0 0 A := ⟨_, rfl⟩
  rw [← hQ]
  have hown : s.vm.findClass RX6 = some m.cls := hown
  have hl : lv_has ls 3 [(0, .ref v0), (1, .int a1)] := hl
  have w1 := hts (.fieldLink RX6 10 "RainVault" "roof" "LRainVault$Roof;") (List.mem_of_getElem? (i := 2) rfl)
  have w2 := hts (.constant RX6 73 (-1000001)) (List.mem_of_getElem? (i := 1) rfl)
  unfold fX6_cold at hf
  refine lv_iload_n hx hb dX6_cold_0 rfl (lv_at hl 1 rfl) ?_
  refine lv_iconst (v := (0 : Int32)) hx hb dX6_cold_1 (by decide) ?_
  refine lv_iconst (v := (1 : Int32)) hx hb dX6_cold_2 (by decide) ?_
  obtain ⟨x101, hg, hf⟩ := o1_s hf
  refine Ct.callS (ws' := wV g v0 u0 u1 u2 u3 k0 k1 k2 k3 h0 h1 h2 h3 s0 s1 s2 s3 c0 c1 c2 p0 r0 t0 t1 t2 t3 z0 f0 ea R N B S C P Q K X fd tl ik) (As := [.int a1, .int (0 : Int32), .int (1 : Int32)]) (rest := []) (st1 := [.int x101]) (c_X6_isWithin l g a1 (0 : Int32) (1 : Int32) hg) (va_cwS 3 hts gX6_cold_X6_isWithin rfl rfl rfl q_X6_isWithin.2 ⟨Nat.le_of_ble_eq_true rfl, Nat.le_of_ble_eq_true rfl⟩) ⟨hx, hb, hml, hown, hts⟩ hE hP hD hS hA [] rfl rfl rfl rfl rfl hl.1 rfl rfl (Nat.le_of_ble_eq_true rfl) dX6_cold_3 (fun H locs hP hD hS => ?_)
  refine lv_if_ne (tgt := 16) hx hb dX6_cold_6 (by decide) (fun hc => ?_) (fun hc => ?_)
  · have hf := if_f hf hc
    refine lv_aload_n hx hb dX6_cold_16 rfl (lv_at hl 0 rfl) ?_
    refine va_get (D := g.1) (ci := 6) (v := .ref u0) (C := RX6) (T := TX6) (N := 11) hx hb hts i_X6_cold_X6 hown hE.1 hP 0 rfl rfl 0 (by decide) w1 (fun _ h9 => h9) rfl dX6_cold_17 ?_
    refine va_getN (D := g.1) (ci := 1) (v := .int R.2.2.2.2.2.1) (C := RX1) (T := TX1) (N := 9) hx hb hts i_X6_cold_X1 hown hE.1 hP 1 rfl rfl 5 (by decide) (va_Nw.use rfl (hE.2.1 _ (List.mem_of_getElem? (i := 6) rfl))) (fun _ h9 => h9) rfl dX6_cold_20 ?_
    refine lv_if_eq (tgt := 30) hx hb dX6_cold_23 (by decide) (fun hc => ?_) (fun hc => ?_)
    · have hf := if_t hf hc
      refine lv_iconst (v := (0 : Int32)) hx hb dX6_cold_30 (by decide) ?_
      refine lv_istore_n (lv' := [(2, .int (0 : Int32)), (0, .ref v0), (1, .int a1)]) hx hb dX6_cold_31 rfl hl (by decide) rfl (fun ls hl => ?_)
      refine lv_aload_n hx hb dX6_cold_32 rfl (lv_at hl 1 rfl) ?_
      refine va_get (D := g.1) (ci := 6) (v := .ref u0) (C := RX6) (T := TX6) (N := 11) hx hb hts i_X6_cold_X6 hown hE.1 hP 0 rfl rfl 0 (by decide) w1 (fun _ h9 => h9) rfl dX6_cold_33 ?_
      refine lv_iload_n hx hb dX6_cold_36 rfl (lv_at hl 2 rfl) ?_
      refine lv_iconst (v := (1 : Int32)) hx hb dX6_cold_37 (by decide) ?_
      refine lv_icmp_ne (tgt := 45) hx hb dX6_cold_38 (by decide) (fun hc => ?_) (fun hc => ?_)
      · have hf := if_f hf hc
        refine lv_iconst (v := (0 : Int32)) hx hb dX6_cold_45 (by decide) ?_
        refine va_putN (D := g.1) (ci := 1) (v := .int (0 : Int32)) (ty := .boolean) (C := RX1) (T := TX1) (N := 9) hx hb hts i_X6_cold_X1 tyX1 tyX1_ok nmX1 hown hE.1 hP hD hS 1 rfl rfl 5 (by decide) (va_Nw.use rfl (hE.2.1 _ (List.mem_of_getElem? (i := 6) rfl))) (fun _ h9 => h9) rfl (by decide +kernel) rfl rfl (Nat.le_of_ble_eq_true rfl) dX6_cold_46 (fun H locs hP hD hS => ?_)
        have hP : va_P g.1 vwK (wV g v0 u0 u1 u2 u3 k0 k1 k2 k3 h0 h1 h2 h3 s0 s1 s2 s3 c0 c1 c2 p0 r0 t0 t1 t2 t3 z0 f0 ea (R.1, R.2.1, R.2.2.1, R.2.2.2.1, R.2.2.2.2.1, (0 : Int32), R.2.2.2.2.2.2.1, R.2.2.2.2.2.2.2.1, R.2.2.2.2.2.2.2.2) N B S C P Q K X fd tl ik) H := hP
        have hD : va_D A (wV g v0 u0 u1 u2 u3 k0 k1 k2 k3 h0 h1 h2 h3 s0 s1 s2 s3 c0 c1 c2 p0 r0 t0 t1 t2 t3 z0 f0 ea (R.1, R.2.1, R.2.2.1, R.2.2.2.1, R.2.2.2.2.1, (0 : Int32), R.2.2.2.2.2.2.1, R.2.2.2.2.2.2.2.1, R.2.2.2.2.2.2.2.2) N B S C P Q K X fd tl ik) := hD
        refine lv_iload_n hx hb dX6_cold_49 rfl (lv_at hl 0 rfl) ?_
        obtain ⟨rfl, rfl, rfl⟩ := some_p3 hf
        rw [hQ]; exact Ct.iret hx hb hr hlocks hAe hP hD hS dX6_cold_50
      · have hf := if_t hf hc
        refine lv_iconst (v := (1 : Int32)) hx hb dX6_cold_41 (by decide) ?_
        refine lv_goto (tgt := 46) hx hb dX6_cold_42 (by decide) ?_
        refine va_putN (D := g.1) (ci := 1) (v := .int (1 : Int32)) (ty := .boolean) (C := RX1) (T := TX1) (N := 9) hx hb hts i_X6_cold_X1 tyX1 tyX1_ok nmX1 hown hE.1 hP hD hS 1 rfl rfl 5 (by decide) (va_Nw.use rfl (hE.2.1 _ (List.mem_of_getElem? (i := 6) rfl))) (fun _ h9 => h9) rfl (by decide +kernel) rfl rfl (Nat.le_of_ble_eq_true rfl) dX6_cold_46 (fun H locs hP hD hS => ?_)
        have hP : va_P g.1 vwK (wV g v0 u0 u1 u2 u3 k0 k1 k2 k3 h0 h1 h2 h3 s0 s1 s2 s3 c0 c1 c2 p0 r0 t0 t1 t2 t3 z0 f0 ea (R.1, R.2.1, R.2.2.1, R.2.2.2.1, R.2.2.2.2.1, (1 : Int32), R.2.2.2.2.2.2.1, R.2.2.2.2.2.2.2.1, R.2.2.2.2.2.2.2.2) N B S C P Q K X fd tl ik) H := hP
        have hD : va_D A (wV g v0 u0 u1 u2 u3 k0 k1 k2 k3 h0 h1 h2 h3 s0 s1 s2 s3 c0 c1 c2 p0 r0 t0 t1 t2 t3 z0 f0 ea (R.1, R.2.1, R.2.2.1, R.2.2.2.1, R.2.2.2.2.1, (1 : Int32), R.2.2.2.2.2.2.1, R.2.2.2.2.2.2.2.1, R.2.2.2.2.2.2.2.2) N B S C P Q K X fd tl ik) := hD
        refine lv_iload_n hx hb dX6_cold_49 rfl (lv_at hl 0 rfl) ?_
        obtain ⟨rfl, rfl, rfl⟩ := some_p3 hf
        rw [hQ]; exact Ct.iret hx hb hr hlocks hAe hP hD hS dX6_cold_50
    · have hf := if_f hf hc
      refine lv_iconst (v := (1 : Int32)) hx hb dX6_cold_26 (by decide) ?_
      refine lv_goto (tgt := 31) hx hb dX6_cold_27 (by decide) ?_
      refine lv_istore_n (lv' := [(2, .int (1 : Int32)), (0, .ref v0), (1, .int a1)]) hx hb dX6_cold_31 rfl hl (by decide) rfl (fun ls hl => ?_)
      refine lv_aload_n hx hb dX6_cold_32 rfl (lv_at hl 1 rfl) ?_
      refine va_get (D := g.1) (ci := 6) (v := .ref u0) (C := RX6) (T := TX6) (N := 11) hx hb hts i_X6_cold_X6 hown hE.1 hP 0 rfl rfl 0 (by decide) w1 (fun _ h9 => h9) rfl dX6_cold_33 ?_
      refine lv_iload_n hx hb dX6_cold_36 rfl (lv_at hl 2 rfl) ?_
      refine lv_iconst (v := (1 : Int32)) hx hb dX6_cold_37 (by decide) ?_
      refine lv_icmp_ne (tgt := 45) hx hb dX6_cold_38 (by decide) (fun hc => ?_) (fun hc => ?_)
      · have hf := if_f hf hc
        refine lv_iconst (v := (0 : Int32)) hx hb dX6_cold_45 (by decide) ?_
        refine va_putN (D := g.1) (ci := 1) (v := .int (0 : Int32)) (ty := .boolean) (C := RX1) (T := TX1) (N := 9) hx hb hts i_X6_cold_X1 tyX1 tyX1_ok nmX1 hown hE.1 hP hD hS 1 rfl rfl 5 (by decide) (va_Nw.use rfl (hE.2.1 _ (List.mem_of_getElem? (i := 6) rfl))) (fun _ h9 => h9) rfl (by decide +kernel) rfl rfl (Nat.le_of_ble_eq_true rfl) dX6_cold_46 (fun H locs hP hD hS => ?_)
        have hP : va_P g.1 vwK (wV g v0 u0 u1 u2 u3 k0 k1 k2 k3 h0 h1 h2 h3 s0 s1 s2 s3 c0 c1 c2 p0 r0 t0 t1 t2 t3 z0 f0 ea (R.1, R.2.1, R.2.2.1, R.2.2.2.1, R.2.2.2.2.1, (0 : Int32), R.2.2.2.2.2.2.1, R.2.2.2.2.2.2.2.1, R.2.2.2.2.2.2.2.2) N B S C P Q K X fd tl ik) H := hP
        have hD : va_D A (wV g v0 u0 u1 u2 u3 k0 k1 k2 k3 h0 h1 h2 h3 s0 s1 s2 s3 c0 c1 c2 p0 r0 t0 t1 t2 t3 z0 f0 ea (R.1, R.2.1, R.2.2.1, R.2.2.2.1, R.2.2.2.2.1, (0 : Int32), R.2.2.2.2.2.2.1, R.2.2.2.2.2.2.2.1, R.2.2.2.2.2.2.2.2) N B S C P Q K X fd tl ik) := hD
        refine lv_iload_n hx hb dX6_cold_49 rfl (lv_at hl 0 rfl) ?_
        obtain ⟨rfl, rfl, rfl⟩ := some_p3 hf
        rw [hQ]; exact Ct.iret hx hb hr hlocks hAe hP hD hS dX6_cold_50
      · have hf := if_t hf hc
        refine lv_iconst (v := (1 : Int32)) hx hb dX6_cold_41 (by decide) ?_
        refine lv_goto (tgt := 46) hx hb dX6_cold_42 (by decide) ?_
        refine va_putN (D := g.1) (ci := 1) (v := .int (1 : Int32)) (ty := .boolean) (C := RX1) (T := TX1) (N := 9) hx hb hts i_X6_cold_X1 tyX1 tyX1_ok nmX1 hown hE.1 hP hD hS 1 rfl rfl 5 (by decide) (va_Nw.use rfl (hE.2.1 _ (List.mem_of_getElem? (i := 6) rfl))) (fun _ h9 => h9) rfl (by decide +kernel) rfl rfl (Nat.le_of_ble_eq_true rfl) dX6_cold_46 (fun H locs hP hD hS => ?_)
        have hP : va_P g.1 vwK (wV g v0 u0 u1 u2 u3 k0 k1 k2 k3 h0 h1 h2 h3 s0 s1 s2 s3 c0 c1 c2 p0 r0 t0 t1 t2 t3 z0 f0 ea (R.1, R.2.1, R.2.2.1, R.2.2.2.1, R.2.2.2.2.1, (1 : Int32), R.2.2.2.2.2.2.1, R.2.2.2.2.2.2.2.1, R.2.2.2.2.2.2.2.2) N B S C P Q K X fd tl ik) H := hP
        have hD : va_D A (wV g v0 u0 u1 u2 u3 k0 k1 k2 k3 h0 h1 h2 h3 s0 s1 s2 s3 c0 c1 c2 p0 r0 t0 t1 t2 t3 z0 f0 ea (R.1, R.2.1, R.2.2.1, R.2.2.2.1, R.2.2.2.2.1, (1 : Int32), R.2.2.2.2.2.2.1, R.2.2.2.2.2.2.2.1, R.2.2.2.2.2.2.2.2) N B S C P Q K X fd tl ik) := hD
        refine lv_iload_n hx hb dX6_cold_49 rfl (lv_at hl 0 rfl) ?_
        obtain ⟨rfl, rfl, rfl⟩ := some_p3 hf
        rw [hQ]; exact Ct.iret hx hb hr hlocks hAe hP hD hS dX6_cold_50
  · have hf := if_t hf hc
    refine lv_aload_n hx hb dX6_cold_9 rfl (lv_at hl 0 rfl) ?_
    refine lv_ldc hx hb hown w2 dX6_cold_10 ?_
    obtain ⟨x102, fd103, hg, hf⟩ := o2_s hf
    refine Ct.callV0 (ws' := wV g v0 u0 u1 u2 u3 k0 k1 k2 k3 h0 h1 h2 h3 s0 s1 s2 s3 c0 c1 c2 p0 r0 t0 t1 t2 t3 z0 f0 ea R N B S C P Q K X fd103 tl ik) (As := [.int (-1000001 : Int32)]) (rest := []) (st1 := [.int x102]) (c_X6_finding l g v0 u0 u1 u2 u3 k0 k1 k2 k3 h0 h1 h2 h3 s0 s1 s2 s3 c0 c1 c2 p0 r0 t0 t1 t2 t3 z0 f0 ea R N B S C P Q K X fd tl ik (-1000001 : Int32) hg) (cwV 1 hts gX6_cold_X6_finding rfl rfl rfl q_X6_finding ⟨Nat.le_of_ble_eq_true rfl, Nat.le_of_ble_eq_true rfl⟩) ⟨hx, hb, hml, hown, hts⟩ hE hP hD hS hA 6 0 rfl rfl rfl rfl hl.1 rfl rfl (Nat.le_of_ble_eq_true rfl) dX6_cold_12 (fun H locs hP hD hS => ?_)
    obtain ⟨rfl, rfl, rfl⟩ := some_p3 hf
    rw [hQ]; exact Ct.iret hx hb hr hlocks hAe hP hD hS dX6_cold_15
def fX6_catches (R : Rf) (fd : Nat → Int32) (a1 : Int32) (a2 : Int32) (a3 : Int32) : Option (Int32 × (Nat → Int32)) := o1 (fX1_hasCistern R a1) (fun x101 => if x101 = 0 then (o2 (fX6_finding fd (-1000001 : Int32)) (fun x102 fd103 => some (x102, fd103))) else (o1 (fX6_isRain a2 a3) (fun x104 => if x104 = 0 then (o2 (fX6_finding fd (-1000001 : Int32)) (fun x106 fd107 => some (x106, fd107))) else (o1 (fX1_caught R a1 a2 a3) (fun x105 => some (x105, fd))))))
theorem q_X6_catches : yX6_catches.cls = RX6 ∧ yX6_catches.cls ≠ "java/lang/invoke/MethodHandle" ∧ yX6_catches.cls ≠ "java/lang/invoke/VarHandle" ∧ (parseMethodDescriptor yX6_catches.desc).map (fun d => d.parameters.length) = some 3 := by decide +kernel
theorem i_X6_catches_X6 : ∀ w ∈ u_ws RX6 TX6 11, w ∈ wsX6_catches := fun _ h => List.mem_cons_of_mem _ (List.mem_append_left _ (List.mem_append_right _ (h)))
set_option maxHeartbeats 4000000 in
set_option maxRecDepth 100000 in
theorem c_X6_catches (l : Launch) (g : gG) (v0 u0 u1 u2 u3 k0 k1 k2 k3 h0 h1 h2 h3 s0 s1 s2 s3 c0 c1 c2 p0 r0 t0 t1 t2 t3 z0 f0 : Nat) (ea : Nat → Nat) (R : Rf) (N : Rf) (B : Rf) (S : Sv) (C : Ca) (P : Nat → Int32) (Q : Tr) (K : Tk) (X : F4) (fd : Nat → Int32) (tl : Int32) (ik : Int32) (a1 : Int32) (a2 : Int32) (a3 : Int32) {r : Int32} {fd' : Nat → Int32} (hf : fX6_catches R fd a1 a2 a3 = some (r, fd')) : Ct l yX6_catches wsX6_catches (rmm 3 70) g (wV g v0 u0 u1 u2 u3 k0 k1 k2 k3 h0 h1 h2 h3 s0 s1 s2 s3 c0 c1 c2 p0 r0 t0 t1 t2 t3 z0 f0 ea R N B S C P Q K X fd tl ik) (wV g v0 u0 u1 u2 u3 k0 k1 k2 k3 h0 h1 h2 h3 s0 s1 s2 s3 c0 c1 c2 p0 r0 t0 t1 t2 t3 z0 f0 ea R N B S C P Q K X (fd') tl ik) [.ref v0, .int a1, .int a2, .int a3] (some (.int r)) := by
  refine Ct.mk (by decide) rfl (Nat.le_of_ble_eq_true rfl) ?_
  intro p e s m args below meth c A ls hx hb hr hml hts hown hlocks hA hE hP hD hS hl hAe
  obtain ⟨Qx, hQ⟩ : ∃ Qx : State → Prop, Qx = MQ below (QcG g (wV g v0 u0 u1 u2 u3 k0 k1 k2 k3 h0 h1 h2 h3 s0 s1 s2 s3 c0 c1 c2 p0 r0 t0 t1 t2 t3 z0 f0 ea R N B S C P Q K X fd tl ik) (wV g v0 u0 u1 u2 u3 k0 k1 k2 k3 h0 h1 h2 h3 s0 s1 s2 s3 c0 c1 c2 p0 r0 t0 t1 t2 t3 z0 f0 ea R N B S C P Q K X (fd') tl ik) (some (.int r)) s.heap.size) args s 0 0 A := ⟨_, rfl⟩
  rw [← hQ]
  have hown : s.vm.findClass RX6 = some m.cls := hown
  have hl : lv_has ls 4 [(0, .ref v0), (1, .int a1), (2, .int a2), (3, .int a3)] := hl
  have w1 := hts (.fieldLink RX6 10 "RainVault" "roof" "LRainVault$Roof;") (List.mem_of_getElem? (i := 1) rfl)
  have w2 := hts (.constant RX6 73 (-1000001)) (List.mem_of_getElem? (i := 2) rfl)
  unfold fX6_catches at hf
  refine lv_aload_n hx hb dX6_catches_0 rfl (lv_at hl 0 rfl) ?_
  refine va_get (D := g.1) (ci := 6) (v := .ref u0) (C := RX6) (T := TX6) (N := 11) hx hb hts i_X6_catches_X6 hown hE.1 hP 0 rfl rfl 0 (by decide) w1 (fun _ h9 => h9) rfl dX6_catches_1 ?_
  refine lv_iload_n hx hb dX6_catches_4 rfl (lv_at hl 1 rfl) ?_
  obtain ⟨x101, hg, hf⟩ := o1_s hf
  refine Ct.callV (ws' := wV g v0 u0 u1 u2 u3 k0 k1 k2 k3 h0 h1 h2 h3 s0 s1 s2 s3 c0 c1 c2 p0 r0 t0 t1 t2 t3 z0 f0 ea R N B S C P Q K X fd tl ik) (As := [.int a1]) (rest := []) (st1 := [.int x101]) (c_X1_hasCistern l g u0 u1 u2 u3 R a1 hg) (cwV 1 hts gX6_catches_X1_hasCistern rfl rfl rfl q_X1_hasCistern ⟨Nat.le_of_ble_eq_true rfl, Nat.le_of_ble_eq_true rfl⟩) ⟨hx, hb, hml, hown, hts⟩ hE hP hD hS hA [1, 2, 3, 4] rfl rfl rfl rfl 1 1 rfl rfl rfl rfl hl.1 rfl rfl (Nat.le_of_ble_eq_true rfl) dX6_catches_5 (fun H locs hP hD hS => ?_)
  refine lv_if_eq (tgt := 19) hx hb dX6_catches_8 (by decide) (fun hc => ?_) (fun hc => ?_)
  · have hf := if_t hf hc
    refine lv_aload_n hx hb dX6_catches_19 rfl (lv_at hl 0 rfl) ?_
    refine lv_ldc hx hb hown w2 dX6_catches_20 ?_
    obtain ⟨x102, fd103, hg, hf⟩ := o2_s hf
    refine Ct.callV0 (ws' := wV g v0 u0 u1 u2 u3 k0 k1 k2 k3 h0 h1 h2 h3 s0 s1 s2 s3 c0 c1 c2 p0 r0 t0 t1 t2 t3 z0 f0 ea R N B S C P Q K X fd103 tl ik) (As := [.int (-1000001 : Int32)]) (rest := []) (st1 := [.int x102]) (c_X6_finding l g v0 u0 u1 u2 u3 k0 k1 k2 k3 h0 h1 h2 h3 s0 s1 s2 s3 c0 c1 c2 p0 r0 t0 t1 t2 t3 z0 f0 ea R N B S C P Q K X fd tl ik (-1000001 : Int32) hg) (cwV 1 hts gX6_catches_X6_finding rfl rfl rfl q_X6_finding ⟨Nat.le_of_ble_eq_true rfl, Nat.le_of_ble_eq_true rfl⟩) ⟨hx, hb, hml, hown, hts⟩ hE hP hD hS hA 6 0 rfl rfl rfl rfl hl.1 rfl rfl (Nat.le_of_ble_eq_true rfl) dX6_catches_22 (fun H locs hP hD hS => ?_)
    obtain ⟨rfl, rfl⟩ := some_p2 hf
    rw [hQ]; exact Ct.iret hx hb hr hlocks hAe hP hD hS dX6_catches_25
  · have hf := if_f hf hc
    refine lv_iload_n hx hb dX6_catches_11 rfl (lv_at hl 2 rfl) ?_
    refine lv_iload_n hx hb dX6_catches_12 rfl (lv_at hl 3 rfl) ?_
    obtain ⟨x104, hg, hf⟩ := o1_s hf
    refine Ct.callS (ws' := wV g v0 u0 u1 u2 u3 k0 k1 k2 k3 h0 h1 h2 h3 s0 s1 s2 s3 c0 c1 c2 p0 r0 t0 t1 t2 t3 z0 f0 ea R N B S C P Q K X fd tl ik) (As := [.int a2, .int a3]) (rest := []) (st1 := [.int x104]) (c_X6_isRain l g a2 a3 hg) (va_cwS 2 hts gX6_catches_X6_isRain rfl rfl rfl q_X6_isRain.2 ⟨Nat.le_of_ble_eq_true rfl, Nat.le_of_ble_eq_true rfl⟩) ⟨hx, hb, hml, hown, hts⟩ hE hP hD hS hA [] rfl rfl rfl rfl rfl hl.1 rfl rfl (Nat.le_of_ble_eq_true rfl) dX6_catches_13 (fun H locs hP hD hS => ?_)
    refine lv_if_ne (tgt := 26) hx hb dX6_catches_16 (by decide) (fun hc => ?_) (fun hc => ?_)
    · have hf := if_f hf hc
      refine lv_aload_n hx hb dX6_catches_26 rfl (lv_at hl 0 rfl) ?_
      refine va_get (D := g.1) (ci := 6) (v := .ref u0) (C := RX6) (T := TX6) (N := 11) hx hb hts i_X6_catches_X6 hown hE.1 hP 0 rfl rfl 0 (by decide) w1 (fun _ h9 => h9) rfl dX6_catches_27 ?_
      refine lv_iload_n hx hb dX6_catches_30 rfl (lv_at hl 1 rfl) ?_
      refine lv_iload_n hx hb dX6_catches_31 rfl (lv_at hl 2 rfl) ?_
      refine lv_iload_n hx hb dX6_catches_32 rfl (lv_at hl 3 rfl) ?_
      obtain ⟨x105, hg, hf⟩ := o1_s hf
      refine Ct.callV (ws' := wV g v0 u0 u1 u2 u3 k0 k1 k2 k3 h0 h1 h2 h3 s0 s1 s2 s3 c0 c1 c2 p0 r0 t0 t1 t2 t3 z0 f0 ea R N B S C P Q K X fd tl ik) (As := [.int a1, .int a2, .int a3]) (rest := []) (st1 := [.int x105]) (c_X1_caught l g u0 u1 u2 u3 R a1 a2 a3 hg) (cwV 3 hts gX6_catches_X1_caught rfl rfl rfl q_X1_caught ⟨Nat.le_of_ble_eq_true rfl, Nat.le_of_ble_eq_true rfl⟩) ⟨hx, hb, hml, hown, hts⟩ hE hP hD hS hA [1, 2, 3, 4] rfl rfl rfl rfl 1 1 rfl rfl rfl rfl hl.1 rfl rfl (Nat.le_of_ble_eq_true rfl) dX6_catches_33 (fun H locs hP hD hS => ?_)
      obtain ⟨rfl, rfl⟩ := some_p2 hf
      rw [hQ]; exact Ct.iret hx hb hr hlocks hAe hP hD hS dX6_catches_36
    · have hf := if_t hf hc
      refine lv_aload_n hx hb dX6_catches_19 rfl (lv_at hl 0 rfl) ?_
      refine lv_ldc hx hb hown w2 dX6_catches_20 ?_
      obtain ⟨x106, fd107, hg, hf⟩ := o2_s hf
      refine Ct.callV0 (ws' := wV g v0 u0 u1 u2 u3 k0 k1 k2 k3 h0 h1 h2 h3 s0 s1 s2 s3 c0 c1 c2 p0 r0 t0 t1 t2 t3 z0 f0 ea R N B S C P Q K X fd107 tl ik) (As := [.int (-1000001 : Int32)]) (rest := []) (st1 := [.int x106]) (c_X6_finding l g v0 u0 u1 u2 u3 k0 k1 k2 k3 h0 h1 h2 h3 s0 s1 s2 s3 c0 c1 c2 p0 r0 t0 t1 t2 t3 z0 f0 ea R N B S C P Q K X fd tl ik (-1000001 : Int32) hg) (cwV 1 hts gX6_catches_X6_finding rfl rfl rfl q_X6_finding ⟨Nat.le_of_ble_eq_true rfl, Nat.le_of_ble_eq_true rfl⟩) ⟨hx, hb, hml, hown, hts⟩ hE hP hD hS hA 6 0 rfl rfl rfl rfl hl.1 rfl rfl (Nat.le_of_ble_eq_true rfl) dX6_catches_22 (fun H locs hP hD hS => ?_)
      obtain ⟨rfl, rfl⟩ := some_p2 hf
      rw [hQ]; exact Ct.iret hx hb hr hlocks hAe hP hD hS dX6_catches_25
def fX6_below (R : Rf) (fd : Nat → Int32) (a1 : Int32) : Option (Int32 × (Nat → Int32)) := o1 (fX1_hasCistern R a1) (fun x101 => if x101 = 0 then (o2 (fX6_finding fd (-1000001 : Int32)) (fun x103 fd104 => some (x103, fd104))) else (o1 (fX1_reachedFrom R a1) (fun x102 => some (x102, fd))))
theorem q_X6_below : yX6_below.cls = RX6 ∧ yX6_below.cls ≠ "java/lang/invoke/MethodHandle" ∧ yX6_below.cls ≠ "java/lang/invoke/VarHandle" ∧ (parseMethodDescriptor yX6_below.desc).map (fun d => d.parameters.length) = some 1 := by decide +kernel
theorem i_X6_below_X6 : ∀ w ∈ u_ws RX6 TX6 11, w ∈ wsX6_below := fun _ h => List.mem_cons_of_mem _ (List.mem_append_left _ (List.mem_append_right _ (h)))
set_option maxHeartbeats 4000000 in
set_option maxRecDepth 100000 in
theorem c_X6_below (l : Launch) (g : gG) (v0 u0 u1 u2 u3 k0 k1 k2 k3 h0 h1 h2 h3 s0 s1 s2 s3 c0 c1 c2 p0 r0 t0 t1 t2 t3 z0 f0 : Nat) (ea : Nat → Nat) (R : Rf) (N : Rf) (B : Rf) (S : Sv) (C : Ca) (P : Nat → Int32) (Q : Tr) (K : Tk) (X : F4) (fd : Nat → Int32) (tl : Int32) (ik : Int32) (a1 : Int32) {r : Int32} {fd' : Nat → Int32} (hf : fX6_below R fd a1 = some (r, fd')) : Ct l yX6_below wsX6_below (rmm 3 69) g (wV g v0 u0 u1 u2 u3 k0 k1 k2 k3 h0 h1 h2 h3 s0 s1 s2 s3 c0 c1 c2 p0 r0 t0 t1 t2 t3 z0 f0 ea R N B S C P Q K X fd tl ik) (wV g v0 u0 u1 u2 u3 k0 k1 k2 k3 h0 h1 h2 h3 s0 s1 s2 s3 c0 c1 c2 p0 r0 t0 t1 t2 t3 z0 f0 ea R N B S C P Q K X (fd') tl ik) [.ref v0, .int a1] (some (.int r)) := by
  refine Ct.mk (by decide) rfl (Nat.le_of_ble_eq_true rfl) ?_
  intro p e s m args below meth c A ls hx hb hr hml hts hown hlocks hA hE hP hD hS hl hAe
  obtain ⟨Qx, hQ⟩ : ∃ Qx : State → Prop, Qx = MQ below (QcG g (wV g v0 u0 u1 u2 u3 k0 k1 k2 k3 h0 h1 h2 h3 s0 s1 s2 s3 c0 c1 c2 p0 r0 t0 t1 t2 t3 z0 f0 ea R N B S C P Q K X fd tl ik) (wV g v0 u0 u1 u2 u3 k0 k1 k2 k3 h0 h1 h2 h3 s0 s1 s2 s3 c0 c1 c2 p0 r0 t0 t1 t2 t3 z0 f0 ea R N B S C P Q K X (fd') tl ik) (some (.int r)) s.heap.size) args s 0 0 A := ⟨_, rfl⟩
  rw [← hQ]
  have hown : s.vm.findClass RX6 = some m.cls := hown
  have hl : lv_has ls 2 [(0, .ref v0), (1, .int a1)] := hl
  have w1 := hts (.fieldLink RX6 10 "RainVault" "roof" "LRainVault$Roof;") (List.mem_of_getElem? (i := 1) rfl)
  have w2 := hts (.constant RX6 73 (-1000001)) (List.mem_of_getElem? (i := 2) rfl)
  unfold fX6_below at hf
  refine lv_aload_n hx hb dX6_below_0 rfl (lv_at hl 0 rfl) ?_
  refine va_get (D := g.1) (ci := 6) (v := .ref u0) (C := RX6) (T := TX6) (N := 11) hx hb hts i_X6_below_X6 hown hE.1 hP 0 rfl rfl 0 (by decide) w1 (fun _ h9 => h9) rfl dX6_below_1 ?_
  refine lv_iload_n hx hb dX6_below_4 rfl (lv_at hl 1 rfl) ?_
  obtain ⟨x101, hg, hf⟩ := o1_s hf
  refine Ct.callV (ws' := wV g v0 u0 u1 u2 u3 k0 k1 k2 k3 h0 h1 h2 h3 s0 s1 s2 s3 c0 c1 c2 p0 r0 t0 t1 t2 t3 z0 f0 ea R N B S C P Q K X fd tl ik) (As := [.int a1]) (rest := []) (st1 := [.int x101]) (c_X1_hasCistern l g u0 u1 u2 u3 R a1 hg) (cwV 1 hts gX6_below_X1_hasCistern rfl rfl rfl q_X1_hasCistern ⟨Nat.le_of_ble_eq_true rfl, Nat.le_of_ble_eq_true rfl⟩) ⟨hx, hb, hml, hown, hts⟩ hE hP hD hS hA [1, 2, 3, 4] rfl rfl rfl rfl 1 1 rfl rfl rfl rfl hl.1 rfl rfl (Nat.le_of_ble_eq_true rfl) dX6_below_5 (fun H locs hP hD hS => ?_)
  refine lv_if_ne (tgt := 18) hx hb dX6_below_8 (by decide) (fun hc => ?_) (fun hc => ?_)
  · have hf := if_f hf hc
    refine lv_aload_n hx hb dX6_below_18 rfl (lv_at hl 0 rfl) ?_
    refine va_get (D := g.1) (ci := 6) (v := .ref u0) (C := RX6) (T := TX6) (N := 11) hx hb hts i_X6_below_X6 hown hE.1 hP 0 rfl rfl 0 (by decide) w1 (fun _ h9 => h9) rfl dX6_below_19 ?_
    refine lv_iload_n hx hb dX6_below_22 rfl (lv_at hl 1 rfl) ?_
    obtain ⟨x102, hg, hf⟩ := o1_s hf
    refine Ct.callV (ws' := wV g v0 u0 u1 u2 u3 k0 k1 k2 k3 h0 h1 h2 h3 s0 s1 s2 s3 c0 c1 c2 p0 r0 t0 t1 t2 t3 z0 f0 ea R N B S C P Q K X fd tl ik) (As := [.int a1]) (rest := []) (st1 := [.int x102]) (c_X1_reachedFrom l g u0 u1 u2 u3 R a1 hg) (cwV 1 hts gX6_below_X1_reachedFrom rfl rfl rfl q_X1_reachedFrom ⟨Nat.le_of_ble_eq_true rfl, Nat.le_of_ble_eq_true rfl⟩) ⟨hx, hb, hml, hown, hts⟩ hE hP hD hS hA [1, 2, 3, 4] rfl rfl rfl rfl 1 1 rfl rfl rfl rfl hl.1 rfl rfl (Nat.le_of_ble_eq_true rfl) dX6_below_23 (fun H locs hP hD hS => ?_)
    obtain ⟨rfl, rfl⟩ := some_p2 hf
    rw [hQ]; exact Ct.iret hx hb hr hlocks hAe hP hD hS dX6_below_26
  · have hf := if_t hf hc
    refine lv_aload_n hx hb dX6_below_11 rfl (lv_at hl 0 rfl) ?_
    refine lv_ldc hx hb hown w2 dX6_below_12 ?_
    obtain ⟨x103, fd104, hg, hf⟩ := o2_s hf
    refine Ct.callV0 (ws' := wV g v0 u0 u1 u2 u3 k0 k1 k2 k3 h0 h1 h2 h3 s0 s1 s2 s3 c0 c1 c2 p0 r0 t0 t1 t2 t3 z0 f0 ea R N B S C P Q K X fd104 tl ik) (As := [.int (-1000001 : Int32)]) (rest := []) (st1 := [.int x103]) (c_X6_finding l g v0 u0 u1 u2 u3 k0 k1 k2 k3 h0 h1 h2 h3 s0 s1 s2 s3 c0 c1 c2 p0 r0 t0 t1 t2 t3 z0 f0 ea R N B S C P Q K X fd tl ik (-1000001 : Int32) hg) (cwV 1 hts gX6_below_X6_finding rfl rfl rfl q_X6_finding ⟨Nat.le_of_ble_eq_true rfl, Nat.le_of_ble_eq_true rfl⟩) ⟨hx, hb, hml, hown, hts⟩ hE hP hD hS hA 6 0 rfl rfl rfl rfl hl.1 rfl rfl (Nat.le_of_ble_eq_true rfl) dX6_below_14 (fun H locs hP hD hS => ?_)
    obtain ⟨rfl, rfl⟩ := some_p2 hf
    rw [hQ]; exact Ct.iret hx hb hr hlocks hAe hP hD hS dX6_below_17
def fX6_lock (R : Rf) (fd : Nat → Int32) (a1 : Int32) (a2 : Int32) (a3 : Int32) : Option (Int32 × Rf × (Nat → Int32)) := o1 (fX6_isWithin a1 (0 : Int32) (4 : Int32)) (fun x101 => if x101 = 0 then (o2 (fX6_finding fd (-1000001 : Int32)) (fun x102 fd103 => some (x102, R, fd103))) else (o1 (fX6_isWithin a2 (0 : Int32) (7 : Int32)) (fun x104 => if x104 = 0 then (o2 (fX6_finding fd (-1000001 : Int32)) (fun x105 fd106 => some (x105, R, fd106))) else (o1 (fX6_mostRight a1) (fun x107 => o1 (fX6_isWithin a3 (0 : Int32) x107) (fun x108 => if x108 = 0 then (o2 (fX6_finding fd (-1000001 : Int32)) (fun x113 fd114 => some (x113, R, fd114))) else (if R.2.2.2.2.1 < (8 : Int32) then (o2 (fX1_addCondition R a1 a2 a3) (fun x109 R110 => some (x109, R110, fd))) else (o2 (fX6_finding fd (-1000002 : Int32)) (fun x111 fd112 => some (x111, R, fd112))))))))))
theorem q_X6_lock : yX6_lock.cls = RX6 ∧ yX6_lock.cls ≠ "java/lang/invoke/MethodHandle" ∧ yX6_lock.cls ≠ "java/lang/invoke/VarHandle" ∧ (parseMethodDescriptor yX6_lock.desc).map (fun d => d.parameters.length) = some 3 := by decide +kernel
theorem i_X6_lock_X6 : ∀ w ∈ u_ws RX6 TX6 11, w ∈ wsX6_lock := fun _ h => List.mem_cons_of_mem _ (List.mem_append_left _ (List.mem_append_right _ (h)))
theorem i_X6_lock_X1 : ∀ w ∈ u_ws RX1 TX1 9, w ∈ wsX6_lock := fun _ h => List.mem_cons_of_mem _ (List.mem_append_right _ (h))
set_option maxHeartbeats 4000000 in
set_option maxRecDepth 100000 in
theorem c_X6_lock (l : Launch) (g : gG) (v0 u0 u1 u2 u3 k0 k1 k2 k3 h0 h1 h2 h3 s0 s1 s2 s3 c0 c1 c2 p0 r0 t0 t1 t2 t3 z0 f0 : Nat) (ea : Nat → Nat) (R : Rf) (N : Rf) (B : Rf) (S : Sv) (C : Ca) (P : Nat → Int32) (Q : Tr) (K : Tk) (X : F4) (fd : Nat → Int32) (tl : Int32) (ik : Int32) (a1 : Int32) (a2 : Int32) (a3 : Int32) {r : Int32} {R' : Rf} {fd' : Nat → Int32} (hf : fX6_lock R fd a1 a2 a3 = some (r, R', fd')) : Ct l yX6_lock wsX6_lock (rmm 3 70) g (wV g v0 u0 u1 u2 u3 k0 k1 k2 k3 h0 h1 h2 h3 s0 s1 s2 s3 c0 c1 c2 p0 r0 t0 t1 t2 t3 z0 f0 ea R N B S C P Q K X fd tl ik) (wV g v0 u0 u1 u2 u3 k0 k1 k2 k3 h0 h1 h2 h3 s0 s1 s2 s3 c0 c1 c2 p0 r0 t0 t1 t2 t3 z0 f0 ea (R') N B S C P Q K X (fd') tl ik) [.ref v0, .int a1, .int a2, .int a3] (some (.int r)) := by
  refine Ct.mk (by decide) rfl (Nat.le_of_ble_eq_true rfl) ?_
  intro p e s m args below meth c A ls hx hb hr hml hts hown hlocks hA hE hP hD hS hl hAe
  obtain ⟨Qx, hQ⟩ : ∃ Qx : State → Prop, Qx = MQ below (QcG g (wV g v0 u0 u1 u2 u3 k0 k1 k2 k3 h0 h1 h2 h3 s0 s1 s2 s3 c0 c1 c2 p0 r0 t0 t1 t2 t3 z0 f0 ea R N B S C P Q K X fd tl ik) (wV g v0 u0 u1 u2 u3 k0 k1 k2 k3 h0 h1 h2 h3 s0 s1 s2 s3 c0 c1 c2 p0 r0 t0 t1 t2 t3 z0 f0 ea (R') N B S C P Q K X (fd') tl ik) (some (.int r)) s.heap.size) args s 0 0 A := ⟨_, rfl⟩
  rw [← hQ]
  have hown : s.vm.findClass RX6 = some m.cls := hown
  have hl : lv_has ls 4 [(0, .ref v0), (1, .int a1), (2, .int a2), (3, .int a3)] := hl
  have w1 := hts (.constant RX6 73 (-1000001)) (List.mem_of_getElem? (i := 1) rfl)
  have w2 := hts (.fieldLink RX6 10 "RainVault" "roof" "LRainVault$Roof;") (List.mem_of_getElem? (i := 2) rfl)
  have w3 := hts (.constant RX6 81 (-1000002)) (List.mem_of_getElem? (i := 3) rfl)
  unfold fX6_lock at hf
  refine lv_iload_n hx hb dX6_lock_0 rfl (lv_at hl 1 rfl) ?_
  refine lv_iconst (v := (0 : Int32)) hx hb dX6_lock_1 (by decide) ?_
  refine lv_iconst (v := (4 : Int32)) hx hb dX6_lock_2 (by decide) ?_
  obtain ⟨x101, hg, hf⟩ := o1_s hf
  refine Ct.callS (ws' := wV g v0 u0 u1 u2 u3 k0 k1 k2 k3 h0 h1 h2 h3 s0 s1 s2 s3 c0 c1 c2 p0 r0 t0 t1 t2 t3 z0 f0 ea R N B S C P Q K X fd tl ik) (As := [.int a1, .int (0 : Int32), .int (4 : Int32)]) (rest := []) (st1 := [.int x101]) (c_X6_isWithin l g a1 (0 : Int32) (4 : Int32) hg) (va_cwS 3 hts gX6_lock_X6_isWithin rfl rfl rfl q_X6_isWithin.2 ⟨Nat.le_of_ble_eq_true rfl, Nat.le_of_ble_eq_true rfl⟩) ⟨hx, hb, hml, hown, hts⟩ hE hP hD hS hA [] rfl rfl rfl rfl rfl hl.1 rfl rfl (Nat.le_of_ble_eq_true rfl) dX6_lock_3 (fun H locs hP hD hS => ?_)
  refine lv_if_eq (tgt := 31) hx hb dX6_lock_6 (by decide) (fun hc => ?_) (fun hc => ?_)
  · have hf := if_t hf hc
    refine lv_aload_n hx hb dX6_lock_31 rfl (lv_at hl 0 rfl) ?_
    refine lv_ldc hx hb hown w1 dX6_lock_32 ?_
    obtain ⟨x102, fd103, hg, hf⟩ := o2_s hf
    refine Ct.callV0 (ws' := wV g v0 u0 u1 u2 u3 k0 k1 k2 k3 h0 h1 h2 h3 s0 s1 s2 s3 c0 c1 c2 p0 r0 t0 t1 t2 t3 z0 f0 ea R N B S C P Q K X fd103 tl ik) (As := [.int (-1000001 : Int32)]) (rest := []) (st1 := [.int x102]) (c_X6_finding l g v0 u0 u1 u2 u3 k0 k1 k2 k3 h0 h1 h2 h3 s0 s1 s2 s3 c0 c1 c2 p0 r0 t0 t1 t2 t3 z0 f0 ea R N B S C P Q K X fd tl ik (-1000001 : Int32) hg) (cwV 1 hts gX6_lock_X6_finding rfl rfl rfl q_X6_finding ⟨Nat.le_of_ble_eq_true rfl, Nat.le_of_ble_eq_true rfl⟩) ⟨hx, hb, hml, hown, hts⟩ hE hP hD hS hA 6 0 rfl rfl rfl rfl hl.1 rfl rfl (Nat.le_of_ble_eq_true rfl) dX6_lock_34 (fun H locs hP hD hS => ?_)
    obtain ⟨rfl, rfl, rfl⟩ := some_p3 hf
    rw [hQ]; exact Ct.iret hx hb hr hlocks hAe hP hD hS dX6_lock_37
  · have hf := if_f hf hc
    refine lv_iload_n hx hb dX6_lock_9 rfl (lv_at hl 2 rfl) ?_
    refine lv_iconst (v := (0 : Int32)) hx hb dX6_lock_10 (by decide) ?_
    refine lv_bipush (v := (7 : Int32)) hx hb dX6_lock_11 (by decide) ?_
    obtain ⟨x104, hg, hf⟩ := o1_s hf
    refine Ct.callS (ws' := wV g v0 u0 u1 u2 u3 k0 k1 k2 k3 h0 h1 h2 h3 s0 s1 s2 s3 c0 c1 c2 p0 r0 t0 t1 t2 t3 z0 f0 ea R N B S C P Q K X fd tl ik) (As := [.int a2, .int (0 : Int32), .int (7 : Int32)]) (rest := []) (st1 := [.int x104]) (c_X6_isWithin l g a2 (0 : Int32) (7 : Int32) hg) (va_cwS 3 hts gX6_lock_X6_isWithin rfl rfl rfl q_X6_isWithin.2 ⟨Nat.le_of_ble_eq_true rfl, Nat.le_of_ble_eq_true rfl⟩) ⟨hx, hb, hml, hown, hts⟩ hE hP hD hS hA [] rfl rfl rfl rfl rfl hl.1 rfl rfl (Nat.le_of_ble_eq_true rfl) dX6_lock_13 (fun H locs hP hD hS => ?_)
    refine lv_if_eq (tgt := 31) hx hb dX6_lock_16 (by decide) (fun hc => ?_) (fun hc => ?_)
    · have hf := if_t hf hc
      refine lv_aload_n hx hb dX6_lock_31 rfl (lv_at hl 0 rfl) ?_
      refine lv_ldc hx hb hown w1 dX6_lock_32 ?_
      obtain ⟨x105, fd106, hg, hf⟩ := o2_s hf
      refine Ct.callV0 (ws' := wV g v0 u0 u1 u2 u3 k0 k1 k2 k3 h0 h1 h2 h3 s0 s1 s2 s3 c0 c1 c2 p0 r0 t0 t1 t2 t3 z0 f0 ea R N B S C P Q K X fd106 tl ik) (As := [.int (-1000001 : Int32)]) (rest := []) (st1 := [.int x105]) (c_X6_finding l g v0 u0 u1 u2 u3 k0 k1 k2 k3 h0 h1 h2 h3 s0 s1 s2 s3 c0 c1 c2 p0 r0 t0 t1 t2 t3 z0 f0 ea R N B S C P Q K X fd tl ik (-1000001 : Int32) hg) (cwV 1 hts gX6_lock_X6_finding rfl rfl rfl q_X6_finding ⟨Nat.le_of_ble_eq_true rfl, Nat.le_of_ble_eq_true rfl⟩) ⟨hx, hb, hml, hown, hts⟩ hE hP hD hS hA 6 0 rfl rfl rfl rfl hl.1 rfl rfl (Nat.le_of_ble_eq_true rfl) dX6_lock_34 (fun H locs hP hD hS => ?_)
      obtain ⟨rfl, rfl, rfl⟩ := some_p3 hf
      rw [hQ]; exact Ct.iret hx hb hr hlocks hAe hP hD hS dX6_lock_37
    · have hf := if_f hf hc
      refine lv_iload_n hx hb dX6_lock_19 rfl (lv_at hl 3 rfl) ?_
      refine lv_iconst (v := (0 : Int32)) hx hb dX6_lock_20 (by decide) ?_
      refine lv_iload_n hx hb dX6_lock_21 rfl (lv_at hl 1 rfl) ?_
      obtain ⟨x107, hg, hf⟩ := o1_s hf
      refine Ct.callS (ws' := wV g v0 u0 u1 u2 u3 k0 k1 k2 k3 h0 h1 h2 h3 s0 s1 s2 s3 c0 c1 c2 p0 r0 t0 t1 t2 t3 z0 f0 ea R N B S C P Q K X fd tl ik) (As := [.int a1]) (rest := [.int (0 : Int32), .int a3]) (st1 := [.int x107, .int (0 : Int32), .int a3]) (c_X6_mostRight l g a1 hg) (va_cwS 1 hts gX6_lock_X6_mostRight rfl rfl rfl q_X6_mostRight.2 ⟨Nat.le_of_ble_eq_true rfl, Nat.le_of_ble_eq_true rfl⟩) ⟨hx, hb, hml, hown, hts⟩ hE hP hD hS hA [] rfl rfl rfl rfl rfl hl.1 rfl rfl (Nat.le_of_ble_eq_true rfl) dX6_lock_22 (fun H locs hP hD hS => ?_)
      obtain ⟨x108, hg, hf⟩ := o1_s hf
      refine Ct.callS (ws' := wV g v0 u0 u1 u2 u3 k0 k1 k2 k3 h0 h1 h2 h3 s0 s1 s2 s3 c0 c1 c2 p0 r0 t0 t1 t2 t3 z0 f0 ea R N B S C P Q K X fd tl ik) (As := [.int a3, .int (0 : Int32), .int x107]) (rest := []) (st1 := [.int x108]) (c_X6_isWithin l g a3 (0 : Int32) x107 hg) (va_cwS 3 hts gX6_lock_X6_isWithin rfl rfl rfl q_X6_isWithin.2 ⟨Nat.le_of_ble_eq_true rfl, Nat.le_of_ble_eq_true rfl⟩) ⟨hx, hb, hml, hown, hts⟩ hE hP hD hS hA [] rfl rfl rfl rfl rfl hl.1 rfl rfl (Nat.le_of_ble_eq_true rfl) dX6_lock_25 (fun H locs hP hD hS => ?_)
      refine lv_if_ne (tgt := 38) hx hb dX6_lock_28 (by decide) (fun hc => ?_) (fun hc => ?_)
      · have hf := if_f hf hc
        refine lv_aload_n hx hb dX6_lock_38 rfl (lv_at hl 0 rfl) ?_
        refine va_get (D := g.1) (ci := 6) (v := .ref u0) (C := RX6) (T := TX6) (N := 11) hx hb hts i_X6_lock_X6 hown hE.1 hP 0 rfl rfl 0 (by decide) w2 (fun _ h9 => h9) rfl dX6_lock_39 ?_
        refine va_getN (D := g.1) (ci := 1) (v := .int R.2.2.2.2.1) (C := RX1) (T := TX1) (N := 9) hx hb hts i_X6_lock_X1 hown hE.1 hP 1 rfl rfl 4 (by decide) (va_Nw.use rfl (hE.2.1 _ (List.mem_of_getElem? (i := 4) rfl))) (fun _ h9 => h9) rfl dX6_lock_42 ?_
        refine lv_bipush (v := (8 : Int32)) hx hb dX6_lock_45 (by decide) ?_
        refine lv_icmp_lt (tgt := 57) hx hb dX6_lock_47 (by decide) (fun hc => ?_) (fun hc => ?_)
        · have hf := if_t hf hc
          refine lv_aload_n hx hb dX6_lock_57 rfl (lv_at hl 0 rfl) ?_
          refine va_get (D := g.1) (ci := 6) (v := .ref u0) (C := RX6) (T := TX6) (N := 11) hx hb hts i_X6_lock_X6 hown hE.1 hP 0 rfl rfl 0 (by decide) w2 (fun _ h9 => h9) rfl dX6_lock_58 ?_
          refine lv_iload_n hx hb dX6_lock_61 rfl (lv_at hl 1 rfl) ?_
          refine lv_iload_n hx hb dX6_lock_62 rfl (lv_at hl 2 rfl) ?_
          refine lv_iload_n hx hb dX6_lock_63 rfl (lv_at hl 3 rfl) ?_
          obtain ⟨x109, R110, hg, hf⟩ := o2_s hf
          refine Ct.callV (ws' := wV g v0 u0 u1 u2 u3 k0 k1 k2 k3 h0 h1 h2 h3 s0 s1 s2 s3 c0 c1 c2 p0 r0 t0 t1 t2 t3 z0 f0 ea R110 N B S C P Q K X fd tl ik) (As := [.int a1, .int a2, .int a3]) (rest := []) (st1 := [.int x109]) (c_X1_addCondition l g u0 u1 u2 u3 R a1 a2 a3 hg) (cwV 3 hts gX6_lock_X1_addCondition rfl rfl rfl q_X1_addCondition ⟨Nat.le_of_ble_eq_true rfl, Nat.le_of_ble_eq_true rfl⟩) ⟨hx, hb, hml, hown, hts⟩ hE hP hD hS hA [1, 2, 3, 4] rfl rfl rfl rfl 1 1 rfl rfl rfl rfl hl.1 rfl rfl (Nat.le_of_ble_eq_true rfl) dX6_lock_64 (fun H locs hP hD hS => ?_)
          obtain ⟨rfl, rfl, rfl⟩ := some_p3 hf
          rw [hQ]; exact Ct.iret hx hb hr hlocks hAe hP hD hS dX6_lock_67
        · have hf := if_f hf hc
          refine lv_aload_n hx hb dX6_lock_50 rfl (lv_at hl 0 rfl) ?_
          refine lv_ldc hx hb hown w3 dX6_lock_51 ?_
          obtain ⟨x111, fd112, hg, hf⟩ := o2_s hf
          refine Ct.callV0 (ws' := wV g v0 u0 u1 u2 u3 k0 k1 k2 k3 h0 h1 h2 h3 s0 s1 s2 s3 c0 c1 c2 p0 r0 t0 t1 t2 t3 z0 f0 ea R N B S C P Q K X fd112 tl ik) (As := [.int (-1000002 : Int32)]) (rest := []) (st1 := [.int x111]) (c_X6_finding l g v0 u0 u1 u2 u3 k0 k1 k2 k3 h0 h1 h2 h3 s0 s1 s2 s3 c0 c1 c2 p0 r0 t0 t1 t2 t3 z0 f0 ea R N B S C P Q K X fd tl ik (-1000002 : Int32) hg) (cwV 1 hts gX6_lock_X6_finding rfl rfl rfl q_X6_finding ⟨Nat.le_of_ble_eq_true rfl, Nat.le_of_ble_eq_true rfl⟩) ⟨hx, hb, hml, hown, hts⟩ hE hP hD hS hA 6 0 rfl rfl rfl rfl hl.1 rfl rfl (Nat.le_of_ble_eq_true rfl) dX6_lock_53 (fun H locs hP hD hS => ?_)
          obtain ⟨rfl, rfl, rfl⟩ := some_p3 hf
          rw [hQ]; exact Ct.iret hx hb hr hlocks hAe hP hD hS dX6_lock_56
      · have hf := if_t hf hc
        refine lv_aload_n hx hb dX6_lock_31 rfl (lv_at hl 0 rfl) ?_
        refine lv_ldc hx hb hown w1 dX6_lock_32 ?_
        obtain ⟨x113, fd114, hg, hf⟩ := o2_s hf
        refine Ct.callV0 (ws' := wV g v0 u0 u1 u2 u3 k0 k1 k2 k3 h0 h1 h2 h3 s0 s1 s2 s3 c0 c1 c2 p0 r0 t0 t1 t2 t3 z0 f0 ea R N B S C P Q K X fd114 tl ik) (As := [.int (-1000001 : Int32)]) (rest := []) (st1 := [.int x113]) (c_X6_finding l g v0 u0 u1 u2 u3 k0 k1 k2 k3 h0 h1 h2 h3 s0 s1 s2 s3 c0 c1 c2 p0 r0 t0 t1 t2 t3 z0 f0 ea R N B S C P Q K X fd tl ik (-1000001 : Int32) hg) (cwV 1 hts gX6_lock_X6_finding rfl rfl rfl q_X6_finding ⟨Nat.le_of_ble_eq_true rfl, Nat.le_of_ble_eq_true rfl⟩) ⟨hx, hb, hml, hown, hts⟩ hE hP hD hS hA 6 0 rfl rfl rfl rfl hl.1 rfl rfl (Nat.le_of_ble_eq_true rfl) dX6_lock_34 (fun H locs hP hD hS => ?_)
        obtain ⟨rfl, rfl, rfl⟩ := some_p3 hf
        rw [hQ]; exact Ct.iret hx hb hr hlocks hAe hP hD hS dX6_lock_37
