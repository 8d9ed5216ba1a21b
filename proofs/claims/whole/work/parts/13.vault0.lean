theorem q_X6_sheetAt : yX6_sheetAt.cls = RX6 ∧ yX6_sheetAt.cls ≠ "java/lang/invoke/MethodHandle" ∧ yX6_sheetAt.cls ≠ "java/lang/invoke/VarHandle" ∧ (parseMethodDescriptor yX6_sheetAt.desc).map (fun d => d.parameters.length) = some 1 := by decide +kernel
theorem i_X6_sheetAt_X6 : ∀ w ∈ u_ws RX6 TX6 11, w ∈ wsX6_sheetAt := fun _ h => List.mem_cons_of_mem _ (List.mem_append_right _ (h))
set_option maxHeartbeats 4000000 in
theorem c_X6_sheetAt_null (l : Launch) (g : gG) (v0 u0 u1 u2 u3 k0 k1 k2 k3 h0 h1 h2 h3 s0 s1 s2 s3 c0 c1 c2 p0 r0 t0 t1 t2 t3 z0 f0 : Nat) (ea : Nat → Nat) (R : Rf) (N : Rf) (B : Rf) (S : Sv) (C : Ca) (P : Nat → Int32) (Q : Tr) (K : Tk) (X : F4) (fd : Nat → Int32) (tl : Int32) (ik : Int32) (a1 : Int32) (hs : a1 < 0 ∨ 4 ≤ a1) : Ct l yX6_sheetAt wsX6_sheetAt (rmm 0 0) g (wV g v0 u0 u1 u2 u3 k0 k1 k2 k3 h0 h1 h2 h3 s0 s1 s2 s3 c0 c1 c2 p0 r0 t0 t1 t2 t3 z0 f0 ea R N B S C P Q K X fd tl ik) (wV g v0 u0 u1 u2 u3 k0 k1 k2 k3 h0 h1 h2 h3 s0 s1 s2 s3 c0 c1 c2 p0 r0 t0 t1 t2 t3 z0 f0 ea R N B S C P Q K X fd tl ik) [.ref v0, .int a1] (some .null) := by
  refine Ct.mk (by decide) rfl (Nat.le_of_ble_eq_true rfl) ?_
  intro p e s m args below meth c A ls hx hb hr hml hts hown hlocks hA hE hP hD hS hl hAe
  have hown : s.vm.findClass RX6 = some m.cls := hown
  have hl : lv_has ls 2 [(0, .ref v0), (1, .int a1)] := hl
  have w1 := hts (.fieldLink RX6 54 "RainVault" "sheets" "[LRainVault$Sheet;") (List.mem_of_getElem? (i := 1) rfl)
  refine lv_iload_n hx hb dX6_sheetAt_0 rfl (lv_at hl 1 rfl) ?_
  refine lv_if_lt (tgt := 22) hx hb dX6_sheetAt_1 (by decide) (fun hc => ?_) (fun hc => ?_)
  · refine lv_null hx hb dX6_sheetAt_22 ?_
    subst hAe
    exact W.aret hx hb hr (Or.inl ⟨_, rfl⟩) (Or.inl rfl) (fun t ht hW => ⟨rfl, by rw [ht]; exact hP, hD, hS.F ht⟩) hS.2.2 dX6_sheetAt_23 hlocks
  · refine lv_iload_n hx hb dX6_sheetAt_4 rfl (lv_at hl 1 rfl) ?_
    refine lv_aload_n hx hb dX6_sheetAt_5 rfl (lv_at hl 0 rfl) ?_
    refine va_get (D := g.1) (ci := 6) (v := .ref z0) (C := RX6) (T := TX6) (N := 11) hx hb hts i_X6_sheetAt_X6 hown hE.1 hP 0 rfl rfl 7 (by decide) w1 (fun _ h9 => h9) rfl dX6_sheetAt_6 ?_
    refine va_alen (v := (4 : Int32)) hx hb hE.1 hP 26 1 rfl rfl (show Int32.ofNat 4 = (4 : Int32) by decide) dX6_sheetAt_9 ?_
    refine lv_icmp_ge (tgt := 22) hx hb dX6_sheetAt_10 (by decide) (fun hc2 => ?_) (fun hc2 => ?_)
    · refine lv_null hx hb dX6_sheetAt_22 ?_
      subst hAe
      exact W.aret hx hb hr (Or.inl ⟨_, rfl⟩) (Or.inl rfl) (fun t ht hW => ⟨rfl, by rw [ht]; exact hP, hD, hS.F ht⟩) hS.2.2 dX6_sheetAt_23 hlocks
    · exact absurd (hs.elim (fun q => absurd q hc) id) hc2
set_option maxHeartbeats 4000000 in
theorem c_X6_sheetAt (l : Launch) (g : gG) (v0 u0 u1 u2 u3 k0 k1 k2 k3 h0 h1 h2 h3 s0 s1 s2 s3 c0 c1 c2 p0 r0 t0 t1 t2 t3 z0 f0 : Nat) (ea : Nat → Nat) (j : Nat) (hj : j < 4) (R : Rf) (N : Rf) (B : Rf) (S : Sv) (C : Ca) (P : Nat → Int32) (Q : Tr) (K : Tk) (X : F4) (fd : Nat → Int32) (tl : Int32) (ik : Int32) (a1 : Int32) (hs : a1 = Int32.ofNat j) : Ct l yX6_sheetAt wsX6_sheetAt (rmm 0 0) g (wV g v0 u0 u1 u2 u3 k0 k1 k2 k3 h0 h1 h2 h3 s0 s1 s2 s3 c0 c1 c2 p0 r0 t0 t1 t2 t3 z0 f0 ea R N B S C P Q K X fd tl ik) (wV g v0 u0 u1 u2 u3 k0 k1 k2 k3 h0 h1 h2 h3 s0 s1 s2 s3 c0 c1 c2 p0 r0 t0 t1 t2 t3 z0 f0 ea R N B S C P Q K X fd tl ik) [.ref v0, .int a1] (some (.ref (ea j))) := by
  have hc0 : ¬ a1 < 0 := by rw [hs]; exact nI_pos (by omega)
  have hc4 : ¬ 4 ≤ a1 := by rw [hs]; exact nI_ge hj (by omega)
  have hin : vp_in a1 4 := by rw [hs]; exact vp_in_nI hj (by omega)
  have hj2 : j = a1.toNatClampNeg := by rw [hs]; exact (nI_clamp (by omega)).symm
  refine Ct.mk (by decide) rfl (Nat.le_of_ble_eq_true rfl) ?_
  intro p e s m args below meth c A ls hx hb hr hml hts hown hlocks hA hE hP hD hS hl hAe
  have hown : s.vm.findClass RX6 = some m.cls := hown
  have hl : lv_has ls 2 [(0, .ref v0), (1, .int a1)] := hl
  have w1 := hts (.fieldLink RX6 54 "RainVault" "sheets" "[LRainVault$Sheet;") (List.mem_of_getElem? (i := 1) rfl)
  refine lv_iload_n hx hb dX6_sheetAt_0 rfl (lv_at hl 1 rfl) ?_
  refine lv_if_lt (tgt := 22) hx hb dX6_sheetAt_1 (by decide) (fun hc => absurd hc hc0) (fun hc => ?_)
  refine lv_iload_n hx hb dX6_sheetAt_4 rfl (lv_at hl 1 rfl) ?_
  refine lv_aload_n hx hb dX6_sheetAt_5 rfl (lv_at hl 0 rfl) ?_
  refine va_get (D := g.1) (ci := 6) (v := .ref z0) (C := RX6) (T := TX6) (N := 11) hx hb hts i_X6_sheetAt_X6 hown hE.1 hP 0 rfl rfl 7 (by decide) w1 (fun _ h9 => h9) rfl dX6_sheetAt_6 ?_
  refine va_alen (v := (4 : Int32)) hx hb hE.1 hP 26 1 rfl rfl (show Int32.ofNat 4 = (4 : Int32) by decide) dX6_sheetAt_9 ?_
  refine lv_icmp_ge (tgt := 22) hx hb dX6_sheetAt_10 (by decide) (fun hc => absurd hc hc4) (fun hc => ?_)
  refine lv_aload_n hx hb dX6_sheetAt_13 rfl (lv_at hl 0 rfl) ?_
  refine va_get (D := g.1) (ci := 6) (v := .ref z0) (C := RX6) (T := TX6) (N := 11) hx hb hts i_X6_sheetAt_X6 hown hE.1 hP 0 rfl rfl 7 (by decide) w1 (fun _ h9 => h9) rfl dX6_sheetAt_14 ?_
  refine lv_iload_n hx hb dX6_sheetAt_17 rfl (lv_at hl 1 rfl) ?_
  refine st_aldz (f := ea) (j := j) hx hb hE.1 hP 26 1 rfl rfl hin hj2 dX6_sheetAt_18 ?_
  refine lv_goto (tgt := 23) hx hb dX6_sheetAt_19 (by decide) ?_
  exact Ct.aret hx hb hr (Or.inl ⟨_, rfl⟩) hlocks hAe hP hD hS dX6_sheetAt_23
def fX6_finding (fd : Nat → Int32) (a1 : Int32) : Option (Int32 × (Nat → Int32)) := o1 (fX6_at 7 fd ((-1000001 : Int32) - a1)) (fun x101 => o1 (fX6_put 7 fd ((-1000001 : Int32) - a1) (x101 + (1 : Int32))) (fun f102 => some (a1, f102)))
theorem q_X6_finding : yX6_finding.cls = RX6 ∧ yX6_finding.cls ≠ "java/lang/invoke/MethodHandle" ∧ yX6_finding.cls ≠ "java/lang/invoke/VarHandle" ∧ (parseMethodDescriptor yX6_finding.desc).map (fun d => d.parameters.length) = some 1 := by decide +kernel
theorem i_X6_finding_X6 : ∀ w ∈ u_ws RX6 TX6 11, w ∈ wsX6_finding := fun _ h => List.mem_cons_of_mem _ (List.mem_append_right _ (h))
set_option maxHeartbeats 4000000 in
set_option maxRecDepth 100000 in
theorem c_X6_finding (l : Launch) (g : gG) (v0 u0 u1 u2 u3 k0 k1 k2 k3 h0 h1 h2 h3 s0 s1 s2 s3 c0 c1 c2 p0 r0 t0 t1 t2 t3 z0 f0 : Nat) (ea : Nat → Nat) (R : Rf) (N : Rf) (B : Rf) (S : Sv) (C : Ca) (P : Nat → Int32) (Q : Tr) (K : Tk) (X : F4) (fd : Nat → Int32) (tl : Int32) (ik : Int32) (a1 : Int32) {r : Int32} {fd' : Nat → Int32} (hf : fX6_finding fd a1 = some (r, fd')) : Ct l yX6_finding wsX6_finding (rmm 1 22) g (wV g v0 u0 u1 u2 u3 k0 k1 k2 k3 h0 h1 h2 h3 s0 s1 s2 s3 c0 c1 c2 p0 r0 t0 t1 t2 t3 z0 f0 ea R N B S C P Q K X fd tl ik) (wV g v0 u0 u1 u2 u3 k0 k1 k2 k3 h0 h1 h2 h3 s0 s1 s2 s3 c0 c1 c2 p0 r0 t0 t1 t2 t3 z0 f0 ea R N B S C P Q K X (fd') tl ik) [.ref v0, .int a1] (some (.int r)) := by
  refine Ct.mk (by decide) rfl (Nat.le_of_ble_eq_true rfl) ?_
  intro p e s m args below meth c A ls hx hb hr hml hts hown hlocks hA hE hP hD hS hl hAe
  have hown : s.vm.findClass RX6 = some m.cls := hown
  have hl : lv_has ls 3 [(0, .ref v0), (1, .int a1)] := hl
  have w1 := hts (.constant RX6 73 (-1000001)) (List.mem_of_getElem? (i := 1) rfl)
  have w2 := hts (.fieldLink RX6 58 "RainVault" "findings" "[I") (List.mem_of_getElem? (i := 2) rfl)
  unfold fX6_finding at hf
  refine lv_ldc hx hb hown w1 dX6_finding_0 ?_
  refine lv_iload_n hx hb dX6_finding_2 rfl (lv_at hl 1 rfl) ?_
  refine lv_isub hx hb dX6_finding_3 ?_
  refine lv_istore_n (lv' := [(2, .int ((-1000001 : Int32) - a1)), (0, .ref v0), (1, .int a1)]) hx hb dX6_finding_4 rfl hl (by decide) rfl (fun ls hl => ?_)
  refine lv_aload_n hx hb dX6_finding_5 rfl (lv_at hl 1 rfl) ?_
  refine va_get (D := g.1) (ci := 6) (v := .ref f0) (C := RX6) (T := TX6) (N := 11) hx hb hts i_X6_finding_X6 hown hE.1 hP 0 rfl rfl 8 (by decide) w2 (fun _ h9 => h9) rfl dX6_finding_6 ?_
  refine lv_iload_n hx hb dX6_finding_9 rfl (lv_at hl 0 rfl) ?_
  refine lv_aload_n hx hb dX6_finding_10 rfl (lv_at hl 1 rfl) ?_
  refine va_get (D := g.1) (ci := 6) (v := .ref f0) (C := RX6) (T := TX6) (N := 11) hx hb hts i_X6_finding_X6 hown hE.1 hP 0 rfl rfl 8 (by decide) w2 (fun _ h9 => h9) rfl dX6_finding_11 ?_
  refine lv_iload_n hx hb dX6_finding_14 rfl (lv_at hl 0 rfl) ?_
  obtain ⟨x101, hg, hf⟩ := o1_s hf
  refine Ct.callS (ws' := wV g v0 u0 u1 u2 u3 k0 k1 k2 k3 h0 h1 h2 h3 s0 s1 s2 s3 c0 c1 c2 p0 r0 t0 t1 t2 t3 z0 f0 ea R N B S C P Q K X fd tl ik) (As := [.ref f0, .int ((-1000001 : Int32) - a1)]) (rest := [.int ((-1000001 : Int32) - a1), .ref f0]) (st1 := [.int x101, .int ((-1000001 : Int32) - a1), .ref f0]) (c_X6_at l g f0 7 fd ((-1000001 : Int32) - a1) hg) (va_cwS 2 hts gX6_finding_X6_at rfl rfl rfl q_X6_at.2 ⟨Nat.le_of_ble_eq_true rfl, Nat.le_of_ble_eq_true rfl⟩) ⟨hx, hb, hml, hown, hts⟩ hE hP hD hS hA [35] rfl rfl rfl rfl rfl hl.1 rfl rfl (Nat.le_of_ble_eq_true rfl) dX6_finding_15 (fun H locs hP hD hS => ?_)
  refine lv_iconst (v := (1 : Int32)) hx hb dX6_finding_18 (by decide) ?_
  refine lv_iadd hx hb dX6_finding_19 ?_
  obtain ⟨f102, hg, hf⟩ := o1_s hf
  refine Ct.callS (ws' := wV g v0 u0 u1 u2 u3 k0 k1 k2 k3 h0 h1 h2 h3 s0 s1 s2 s3 c0 c1 c2 p0 r0 t0 t1 t2 t3 z0 f0 ea R N B S C P Q K X f102 tl ik) (As := [.ref f0, .int ((-1000001 : Int32) - a1), .int (x101 + (1 : Int32))]) (rest := []) (st1 := []) (c_X6_put l g f0 7 fd ((-1000001 : Int32) - a1) (x101 + (1 : Int32)) hg) (va_cwS 3 hts gX6_finding_X6_put rfl rfl rfl q_X6_put.2 ⟨Nat.le_of_ble_eq_true rfl, Nat.le_of_ble_eq_true rfl⟩) ⟨hx, hb, hml, hown, hts⟩ hE hP hD hS hA [35] rfl rfl rfl rfl rfl hl.1 rfl rfl (Nat.le_of_ble_eq_true rfl) dX6_finding_20 (fun H locs hP hD hS => ?_)
  refine lv_iload_n hx hb dX6_finding_23 rfl (lv_at hl 2 rfl) ?_
  cases hf
  exact Ct.iret hx hb hr hlocks hAe hP hD hS dX6_finding_24
def fX6_cistern (R : Rf) (fd : Nat → Int32) (a1 : Int32) (a2 : Int32) : Option (Int32 × Rf × (Nat → Int32)) := o1 (fX6_isWithin a1 (0 : Int32) (6 : Int32)) (fun x101 => if x101 = 0 then (o2 (fX6_finding fd (-1000001 : Int32)) (fun x102 fd103 => some (x102, R, fd103))) else (o1 (fX6_isWithin a2 (1 : Int32) (40 : Int32)) (fun x104 => if x104 = 0 then (o2 (fX6_finding fd (-1000001 : Int32)) (fun x109 fd110 => some (x109, R, fd110))) else (if R.2.2.2.1 < (8 : Int32) then (o2 (fX1_addCistern R a1 a2) (fun x105 R106 => some (x105, R106, fd))) else (o2 (fX6_finding fd (-1000002 : Int32)) (fun x107 fd108 => some (x107, R, fd108)))))))
theorem q_X6_cistern : yX6_cistern.cls = RX6 ∧ yX6_cistern.cls ≠ "java/lang/invoke/MethodHandle" ∧ yX6_cistern.cls ≠ "java/lang/invoke/VarHandle" ∧ (parseMethodDescriptor yX6_cistern.desc).map (fun d => d.parameters.length) = some 2 := by decide +kernel
theorem i_X6_cistern_X6 : ∀ w ∈ u_ws RX6 TX6 11, w ∈ wsX6_cistern := fun _ h => List.mem_cons_of_mem _ (List.mem_append_left _ (List.mem_append_right _ (h)))
theorem i_X6_cistern_X1 : ∀ w ∈ u_ws RX1 TX1 9, w ∈ wsX6_cistern := fun _ h => List.mem_cons_of_mem _ (List.mem_append_right _ (h))
set_option maxHeartbeats 4000000 in
set_option maxRecDepth 100000 in
theorem c_X6_cistern (l : Launch) (g : gG) (v0 u0 u1 u2 u3 k0 k1 k2 k3 h0 h1 h2 h3 s0 s1 s2 s3 c0 c1 c2 p0 r0 t0 t1 t2 t3 z0 f0 : Nat) (ea : Nat → Nat) (R : Rf) (N : Rf) (B : Rf) (S : Sv) (C : Ca) (P : Nat → Int32) (Q : Tr) (K : Tk) (X : F4) (fd : Nat → Int32) (tl : Int32) (ik : Int32) (a1 : Int32) (a2 : Int32) {r : Int32} {R' : Rf} {fd' : Nat → Int32} (hf : fX6_cistern R fd a1 a2 = some (r, R', fd')) : Ct l yX6_cistern wsX6_cistern (rmm 2 48) g (wV g v0 u0 u1 u2 u3 k0 k1 k2 k3 h0 h1 h2 h3 s0 s1 s2 s3 c0 c1 c2 p0 r0 t0 t1 t2 t3 z0 f0 ea R N B S C P Q K X fd tl ik) (wV g v0 u0 u1 u2 u3 k0 k1 k2 k3 h0 h1 h2 h3 s0 s1 s2 s3 c0 c1 c2 p0 r0 t0 t1 t2 t3 z0 f0 ea (R') N B S C P Q K X (fd') tl ik) [.ref v0, .int a1, .int a2] (some (.int r)) := by
  refine Ct.mk (by decide) rfl (Nat.le_of_ble_eq_true rfl) ?_
  intro p e s m args below meth c A ls hx hb hr hml hts hown hlocks hA hE hP hD hS hl hAe
  have hown : s.vm.findClass RX6 = some m.cls := hown
  have hl : lv_has ls 3 [(0, .ref v0), (1, .int a1), (2, .int a2)] := hl
  have w1 := hts (.constant RX6 73 (-1000001)) (List.mem_of_getElem? (i := 1) rfl)
  have w2 := hts (.fieldLink RX6 10 "RainVault" "roof" "LRainVault$Roof;") (List.mem_of_getElem? (i := 2) rfl)
  have w3 := hts (.constant RX6 81 (-1000002)) (List.mem_of_getElem? (i := 3) rfl)
  unfold fX6_cistern at hf
  refine lv_iload_n hx hb dX6_cistern_0 rfl (lv_at hl 1 rfl) ?_
  refine lv_iconst (v := (0 : Int32)) hx hb dX6_cistern_1 (by decide) ?_
  refine lv_bipush (v := (6 : Int32)) hx hb dX6_cistern_2 (by decide) ?_
  obtain ⟨x101, hg, hf⟩ := o1_s hf
  refine Ct.callS (ws' := wV g v0 u0 u1 u2 u3 k0 k1 k2 k3 h0 h1 h2 h3 s0 s1 s2 s3 c0 c1 c2 p0 r0 t0 t1 t2 t3 z0 f0 ea R N B S C P Q K X fd tl ik) (As := [.int a1, .int (0 : Int32), .int (6 : Int32)]) (rest := []) (st1 := [.int x101]) (c_X6_isWithin l g a1 (0 : Int32) (6 : Int32) hg) (va_cwS 3 hts gX6_cistern_X6_isWithin rfl rfl rfl q_X6_isWithin.2 ⟨Nat.le_of_ble_eq_true rfl, Nat.le_of_ble_eq_true rfl⟩) ⟨hx, hb, hml, hown, hts⟩ hE hP hD hS hA [] rfl rfl rfl rfl rfl hl.1 rfl rfl (Nat.le_of_ble_eq_true rfl) dX6_cistern_4 (fun H locs hP hD hS => ?_)
  refine lv_if_eq (tgt := 20) hx hb dX6_cistern_7 (by decide) (fun hc => ?_) (fun hc => ?_)
  · have hf := if_t hf hc
    refine lv_aload_n hx hb dX6_cistern_20 rfl (lv_at hl 0 rfl) ?_
    refine lv_ldc hx hb hown w1 dX6_cistern_21 ?_
    obtain ⟨x102, fd103, hg, hf⟩ := o2_s hf
    refine Ct.callV (ws' := wV g v0 u0 u1 u2 u3 k0 k1 k2 k3 h0 h1 h2 h3 s0 s1 s2 s3 c0 c1 c2 p0 r0 t0 t1 t2 t3 z0 f0 ea R N B S C P Q K X fd103 tl ik) (As := [.int (-1000001 : Int32)]) (rest := []) (st1 := [.int x102]) (c_X6_finding l g v0 u0 u1 u2 u3 k0 k1 k2 k3 h0 h1 h2 h3 s0 s1 s2 s3 c0 c1 c2 p0 r0 t0 t1 t2 t3 z0 f0 ea R N B S C P Q K X fd tl ik (-1000001 : Int32) hg) (cwV 1 hts gX6_cistern_X6_finding rfl rfl rfl q_X6_finding ⟨Nat.le_of_ble_eq_true rfl, Nat.le_of_ble_eq_true rfl⟩) ⟨hx, hb, hml, hown, hts⟩ hE hP hD hS hA [0, 1, 2, 3, 4, 5, 6, 7, 8, 9, 10, 11, 12, 13, 14, 15, 16, 17, 18, 19, 20, 21, 22, 23, 24, 25, 26, 27, 28, 29, 30, 31, 32, 33, 34, 35] rfl rfl rfl rfl 6 0 rfl rfl rfl rfl hl.1 rfl rfl (Nat.le_of_ble_eq_true rfl) dX6_cistern_23 (fun H locs hP hD hS => ?_)
    cases hf
    exact Ct.iret hx hb hr hlocks hAe hP hD hS dX6_cistern_26
  · have hf := if_f hf hc
    refine lv_iload_n hx hb dX6_cistern_10 rfl (lv_at hl 2 rfl) ?_
    refine lv_iconst (v := (1 : Int32)) hx hb dX6_cistern_11 (by decide) ?_
    refine lv_bipush (v := (40 : Int32)) hx hb dX6_cistern_12 (by decide) ?_
    obtain ⟨x104, hg, hf⟩ := o1_s hf
    refine Ct.callS (ws' := wV g v0 u0 u1 u2 u3 k0 k1 k2 k3 h0 h1 h2 h3 s0 s1 s2 s3 c0 c1 c2 p0 r0 t0 t1 t2 t3 z0 f0 ea R N B S C P Q K X fd tl ik) (As := [.int a2, .int (1 : Int32), .int (40 : Int32)]) (rest := []) (st1 := [.int x104]) (c_X6_isWithin l g a2 (1 : Int32) (40 : Int32) hg) (va_cwS 3 hts gX6_cistern_X6_isWithin rfl rfl rfl q_X6_isWithin.2 ⟨Nat.le_of_ble_eq_true rfl, Nat.le_of_ble_eq_true rfl⟩) ⟨hx, hb, hml, hown, hts⟩ hE hP hD hS hA [] rfl rfl rfl rfl rfl hl.1 rfl rfl (Nat.le_of_ble_eq_true rfl) dX6_cistern_14 (fun H locs hP hD hS => ?_)
    refine lv_if_ne (tgt := 27) hx hb dX6_cistern_17 (by decide) (fun hc => ?_) (fun hc => ?_)
    · have hf := if_f hf hc
      refine lv_aload_n hx hb dX6_cistern_27 rfl (lv_at hl 0 rfl) ?_
      refine va_get (D := g.1) (ci := 6) (v := .ref u0) (C := RX6) (T := TX6) (N := 11) hx hb hts i_X6_cistern_X6 hown hE.1 hP 0 rfl rfl 0 (by decide) w2 (fun _ h9 => h9) rfl dX6_cistern_28 ?_
      refine va_getN (D := g.1) (ci := 1) (v := .int R.2.2.2.1) (C := RX1) (T := TX1) (N := 9) hx hb hts i_X6_cistern_X1 hown hE.1 hP 1 rfl rfl 3 (by decide) (va_Nw.use rfl (hE.2.1 _ (List.mem_of_getElem? (i := 1) rfl))) (fun _ h9 => h9) rfl dX6_cistern_31 ?_
      refine lv_bipush (v := (8 : Int32)) hx hb dX6_cistern_34 (by decide) ?_
      refine lv_icmp_lt (tgt := 46) hx hb dX6_cistern_36 (by decide) (fun hc => ?_) (fun hc => ?_)
      · have hf := if_t hf hc
        refine lv_aload_n hx hb dX6_cistern_46 rfl (lv_at hl 0 rfl) ?_
        refine va_get (D := g.1) (ci := 6) (v := .ref u0) (C := RX6) (T := TX6) (N := 11) hx hb hts i_X6_cistern_X6 hown hE.1 hP 0 rfl rfl 0 (by decide) w2 (fun _ h9 => h9) rfl dX6_cistern_47 ?_
        refine lv_iload_n hx hb dX6_cistern_50 rfl (lv_at hl 1 rfl) ?_
        refine lv_iload_n hx hb dX6_cistern_51 rfl (lv_at hl 2 rfl) ?_
        obtain ⟨x105, R106, hg, hf⟩ := o2_s hf
        refine Ct.callV (ws' := wV g v0 u0 u1 u2 u3 k0 k1 k2 k3 h0 h1 h2 h3 s0 s1 s2 s3 c0 c1 c2 p0 r0 t0 t1 t2 t3 z0 f0 ea R106 N B S C P Q K X fd tl ik) (As := [.int a1, .int a2]) (rest := []) (st1 := [.int x105]) (c_X1_addCistern l g u0 u1 u2 u3 R a1 a2 hg) (cwV 2 hts gX6_cistern_X1_addCistern rfl rfl rfl q_X1_addCistern ⟨Nat.le_of_ble_eq_true rfl, Nat.le_of_ble_eq_true rfl⟩) ⟨hx, hb, hml, hown, hts⟩ hE hP hD hS hA [1, 2, 3, 4] rfl rfl rfl rfl 1 1 rfl rfl rfl rfl hl.1 rfl rfl (Nat.le_of_ble_eq_true rfl) dX6_cistern_52 (fun H locs hP hD hS => ?_)
        cases hf
        exact Ct.iret hx hb hr hlocks hAe hP hD hS dX6_cistern_55
      · have hf := if_f hf hc
        refine lv_aload_n hx hb dX6_cistern_39 rfl (lv_at hl 0 rfl) ?_
        refine lv_ldc hx hb hown w3 dX6_cistern_40 ?_
        obtain ⟨x107, fd108, hg, hf⟩ := o2_s hf
        refine Ct.callV (ws' := wV g v0 u0 u1 u2 u3 k0 k1 k2 k3 h0 h1 h2 h3 s0 s1 s2 s3 c0 c1 c2 p0 r0 t0 t1 t2 t3 z0 f0 ea R N B S C P Q K X fd108 tl ik) (As := [.int (-1000002 : Int32)]) (rest := []) (st1 := [.int x107]) (c_X6_finding l g v0 u0 u1 u2 u3 k0 k1 k2 k3 h0 h1 h2 h3 s0 s1 s2 s3 c0 c1 c2 p0 r0 t0 t1 t2 t3 z0 f0 ea R N B S C P Q K X fd tl ik (-1000002 : Int32) hg) (cwV 1 hts gX6_cistern_X6_finding rfl rfl rfl q_X6_finding ⟨Nat.le_of_ble_eq_true rfl, Nat.le_of_ble_eq_true rfl⟩) ⟨hx, hb, hml, hown, hts⟩ hE hP hD hS hA [0, 1, 2, 3, 4, 5, 6, 7, 8, 9, 10, 11, 12, 13, 14, 15, 16, 17, 18, 19, 20, 21, 22, 23, 24, 25, 26, 27, 28, 29, 30, 31, 32, 33, 34, 35] rfl rfl rfl rfl 6 0 rfl rfl rfl rfl hl.1 rfl rfl (Nat.le_of_ble_eq_true rfl) dX6_cistern_42 (fun H locs hP hD hS => ?_)
        cases hf
        exact Ct.iret hx hb hr hlocks hAe hP hD hS dX6_cistern_45
    · have hf := if_t hf hc
      refine lv_aload_n hx hb dX6_cistern_20 rfl (lv_at hl 0 rfl) ?_
      refine lv_ldc hx hb hown w1 dX6_cistern_21 ?_
      obtain ⟨x109, fd110, hg, hf⟩ := o2_s hf
      refine Ct.callV (ws' := wV g v0 u0 u1 u2 u3 k0 k1 k2 k3 h0 h1 h2 h3 s0 s1 s2 s3 c0 c1 c2 p0 r0 t0 t1 t2 t3 z0 f0 ea R N B S C P Q K X fd110 tl ik) (As := [.int (-1000001 : Int32)]) (rest := []) (st1 := [.int x109]) (c_X6_finding l g v0 u0 u1 u2 u3 k0 k1 k2 k3 h0 h1 h2 h3 s0 s1 s2 s3 c0 c1 c2 p0 r0 t0 t1 t2 t3 z0 f0 ea R N B S C P Q K X fd tl ik (-1000001 : Int32) hg) (cwV 1 hts gX6_cistern_X6_finding rfl rfl rfl q_X6_finding ⟨Nat.le_of_ble_eq_true rfl, Nat.le_of_ble_eq_true rfl⟩) ⟨hx, hb, hml, hown, hts⟩ hE hP hD hS hA [0, 1, 2, 3, 4, 5, 6, 7, 8, 9, 10, 11, 12, 13, 14, 15, 16, 17, 18, 19, 20, 21, 22, 23, 24, 25, 26, 27, 28, 29, 30, 31, 32, 33, 34, 35] rfl rfl rfl rfl 6 0 rfl rfl rfl rfl hl.1 rfl rfl (Nat.le_of_ble_eq_true rfl) dX6_cistern_23 (fun H locs hP hD hS => ?_)
      cases hf
      exact Ct.iret hx hb hr hlocks hAe hP hD hS dX6_cistern_26
def fX6_of (R : Rf) (fd : Nat → Int32) (a1 : Int32) (a2 : Int32) : Option (Int32 × (Nat → Int32)) := o1 (fX1_hasCistern R a1) (fun x101 => if x101 = 0 then (o2 (fX6_finding fd (-1000001 : Int32)) (fun x102 fd103 => some (x102, fd103))) else (o1 (fX6_isWithin a2 (0 : Int32) (10 : Int32)) (fun x104 => if x104 = 0 then (o2 (fX6_finding fd (-1000001 : Int32)) (fun x107 fd108 => some (x107, fd108))) else (if a2 = (6 : Int32) then (o1 (fX1_shown R a1) (fun x106 => some (x106, fd))) else (o1 (fX1_get R a1 a2) (fun x105 => some (x105, fd)))))))
theorem q_X6_of : yX6_of.cls = RX6 ∧ yX6_of.cls ≠ "java/lang/invoke/MethodHandle" ∧ yX6_of.cls ≠ "java/lang/invoke/VarHandle" ∧ (parseMethodDescriptor yX6_of.desc).map (fun d => d.parameters.length) = some 2 := by decide +kernel
theorem i_X6_of_X6 : ∀ w ∈ u_ws RX6 TX6 11, w ∈ wsX6_of := fun _ h => List.mem_cons_of_mem _ (List.mem_append_left _ (List.mem_append_right _ (h)))
set_option maxHeartbeats 4000000 in
set_option maxRecDepth 100000 in
theorem c_X6_of (l : Launch) (g : gG) (v0 u0 u1 u2 u3 k0 k1 k2 k3 h0 h1 h2 h3 s0 s1 s2 s3 c0 c1 c2 p0 r0 t0 t1 t2 t3 z0 f0 : Nat) (ea : Nat → Nat) (R : Rf) (N : Rf) (B : Rf) (S : Sv) (C : Ca) (P : Nat → Int32) (Q : Tr) (K : Tk) (X : F4) (fd : Nat → Int32) (tl : Int32) (ik : Int32) (a1 : Int32) (a2 : Int32) {r : Int32} {fd' : Nat → Int32} (hf : fX6_of R fd a1 a2 = some (r, fd')) : Ct l yX6_of wsX6_of (rmm 3 68) g (wV g v0 u0 u1 u2 u3 k0 k1 k2 k3 h0 h1 h2 h3 s0 s1 s2 s3 c0 c1 c2 p0 r0 t0 t1 t2 t3 z0 f0 ea R N B S C P Q K X fd tl ik) (wV g v0 u0 u1 u2 u3 k0 k1 k2 k3 h0 h1 h2 h3 s0 s1 s2 s3 c0 c1 c2 p0 r0 t0 t1 t2 t3 z0 f0 ea R N B S C P Q K X (fd') tl ik) [.ref v0, .int a1, .int a2] (some (.int r)) := by
  refine Ct.mk (by decide) rfl (Nat.le_of_ble_eq_true rfl) ?_
  intro p e s m args below meth c A ls hx hb hr hml hts hown hlocks hA hE hP hD hS hl hAe
  have hown : s.vm.findClass RX6 = some m.cls := hown
  have hl : lv_has ls 3 [(0, .ref v0), (1, .int a1), (2, .int a2)] := hl
  have w1 := hts (.fieldLink RX6 10 "RainVault" "roof" "LRainVault$Roof;") (List.mem_of_getElem? (i := 1) rfl)
  have w2 := hts (.constant RX6 73 (-1000001)) (List.mem_of_getElem? (i := 2) rfl)
  unfold fX6_of at hf
  refine lv_aload_n hx hb dX6_of_0 rfl (lv_at hl 0 rfl) ?_
  refine va_get (D := g.1) (ci := 6) (v := .ref u0) (C := RX6) (T := TX6) (N := 11) hx hb hts i_X6_of_X6 hown hE.1 hP 0 rfl rfl 0 (by decide) w1 (fun _ h9 => h9) rfl dX6_of_1 ?_
  refine lv_iload_n hx hb dX6_of_4 rfl (lv_at hl 1 rfl) ?_
  obtain ⟨x101, hg, hf⟩ := o1_s hf
  refine Ct.callV (ws' := wV g v0 u0 u1 u2 u3 k0 k1 k2 k3 h0 h1 h2 h3 s0 s1 s2 s3 c0 c1 c2 p0 r0 t0 t1 t2 t3 z0 f0 ea R N B S C P Q K X fd tl ik) (As := [.int a1]) (rest := []) (st1 := [.int x101]) (c_X1_hasCistern l g u0 u1 u2 u3 R a1 hg) (cwV 1 hts gX6_of_X1_hasCistern rfl rfl rfl q_X1_hasCistern ⟨Nat.le_of_ble_eq_true rfl, Nat.le_of_ble_eq_true rfl⟩) ⟨hx, hb, hml, hown, hts⟩ hE hP hD hS hA [1, 2, 3, 4] rfl rfl rfl rfl 1 1 rfl rfl rfl rfl hl.1 rfl rfl (Nat.le_of_ble_eq_true rfl) dX6_of_5 (fun H locs hP hD hS => ?_)
  refine lv_if_eq (tgt := 21) hx hb dX6_of_8 (by decide) (fun hc => ?_) (fun hc => ?_)
  · have hf := if_t hf hc
    refine lv_aload_n hx hb dX6_of_21 rfl (lv_at hl 0 rfl) ?_
    refine lv_ldc hx hb hown w2 dX6_of_22 ?_
    obtain ⟨x102, fd103, hg, hf⟩ := o2_s hf
    refine Ct.callV (ws' := wV g v0 u0 u1 u2 u3 k0 k1 k2 k3 h0 h1 h2 h3 s0 s1 s2 s3 c0 c1 c2 p0 r0 t0 t1 t2 t3 z0 f0 ea R N B S C P Q K X fd103 tl ik) (As := [.int (-1000001 : Int32)]) (rest := []) (st1 := [.int x102]) (c_X6_finding l g v0 u0 u1 u2 u3 k0 k1 k2 k3 h0 h1 h2 h3 s0 s1 s2 s3 c0 c1 c2 p0 r0 t0 t1 t2 t3 z0 f0 ea R N B S C P Q K X fd tl ik (-1000001 : Int32) hg) (cwV 1 hts gX6_of_X6_finding rfl rfl rfl q_X6_finding ⟨Nat.le_of_ble_eq_true rfl, Nat.le_of_ble_eq_true rfl⟩) ⟨hx, hb, hml, hown, hts⟩ hE hP hD hS hA [0, 1, 2, 3, 4, 5, 6, 7, 8, 9, 10, 11, 12, 13, 14, 15, 16, 17, 18, 19, 20, 21, 22, 23, 24, 25, 26, 27, 28, 29, 30, 31, 32, 33, 34, 35] rfl rfl rfl rfl 6 0 rfl rfl rfl rfl hl.1 rfl rfl (Nat.le_of_ble_eq_true rfl) dX6_of_24 (fun H locs hP hD hS => ?_)
    cases hf
    exact Ct.iret hx hb hr hlocks hAe hP hD hS dX6_of_27
  · have hf := if_f hf hc
    refine lv_iload_n hx hb dX6_of_11 rfl (lv_at hl 2 rfl) ?_
    refine lv_iconst (v := (0 : Int32)) hx hb dX6_of_12 (by decide) ?_
    refine lv_bipush (v := (10 : Int32)) hx hb dX6_of_13 (by decide) ?_
    obtain ⟨x104, hg, hf⟩ := o1_s hf
    refine Ct.callS (ws' := wV g v0 u0 u1 u2 u3 k0 k1 k2 k3 h0 h1 h2 h3 s0 s1 s2 s3 c0 c1 c2 p0 r0 t0 t1 t2 t3 z0 f0 ea R N B S C P Q K X fd tl ik) (As := [.int a2, .int (0 : Int32), .int (10 : Int32)]) (rest := []) (st1 := [.int x104]) (c_X6_isWithin l g a2 (0 : Int32) (10 : Int32) hg) (va_cwS 3 hts gX6_of_X6_isWithin rfl rfl rfl q_X6_isWithin.2 ⟨Nat.le_of_ble_eq_true rfl, Nat.le_of_ble_eq_true rfl⟩) ⟨hx, hb, hml, hown, hts⟩ hE hP hD hS hA [] rfl rfl rfl rfl rfl hl.1 rfl rfl (Nat.le_of_ble_eq_true rfl) dX6_of_15 (fun H locs hP hD hS => ?_)
    refine lv_if_ne (tgt := 28) hx hb dX6_of_18 (by decide) (fun hc => ?_) (fun hc => ?_)
    · have hf := if_f hf hc
      refine lv_iload_n hx hb dX6_of_28 rfl (lv_at hl 2 rfl) ?_
      refine lv_bipush (v := (6 : Int32)) hx hb dX6_of_29 (by decide) ?_
      refine lv_icmp_ne (tgt := 45) hx hb dX6_of_31 (by decide) (fun hc => ?_) (fun hc => ?_)
      · have hf := if_f hf hc
        refine lv_aload_n hx hb dX6_of_45 rfl (lv_at hl 0 rfl) ?_
        refine va_get (D := g.1) (ci := 6) (v := .ref u0) (C := RX6) (T := TX6) (N := 11) hx hb hts i_X6_of_X6 hown hE.1 hP 0 rfl rfl 0 (by decide) w1 (fun _ h9 => h9) rfl dX6_of_46 ?_
        refine lv_iload_n hx hb dX6_of_49 rfl (lv_at hl 1 rfl) ?_
        refine lv_iload_n hx hb dX6_of_50 rfl (lv_at hl 2 rfl) ?_
        obtain ⟨x105, hg, hf⟩ := o1_s hf
        refine Ct.callV (ws' := wV g v0 u0 u1 u2 u3 k0 k1 k2 k3 h0 h1 h2 h3 s0 s1 s2 s3 c0 c1 c2 p0 r0 t0 t1 t2 t3 z0 f0 ea R N B S C P Q K X fd tl ik) (As := [.int a1, .int a2]) (rest := []) (st1 := [.int x105]) (c_X1_get l g u0 u1 u2 u3 R a1 a2 hg) (cwV 2 hts gX6_of_X1_get rfl rfl rfl q_X1_get ⟨Nat.le_of_ble_eq_true rfl, Nat.le_of_ble_eq_true rfl⟩) ⟨hx, hb, hml, hown, hts⟩ hE hP hD hS hA [1, 2, 3, 4] rfl rfl rfl rfl 1 1 rfl rfl rfl rfl hl.1 rfl rfl (Nat.le_of_ble_eq_true rfl) dX6_of_51 (fun H locs hP hD hS => ?_)
        cases hf
        exact Ct.iret hx hb hr hlocks hAe hP hD hS dX6_of_54
      · have hf := if_t hf hc
        refine lv_aload_n hx hb dX6_of_34 rfl (lv_at hl 0 rfl) ?_
        refine va_get (D := g.1) (ci := 6) (v := .ref u0) (C := RX6) (T := TX6) (N := 11) hx hb hts i_X6_of_X6 hown hE.1 hP 0 rfl rfl 0 (by decide) w1 (fun _ h9 => h9) rfl dX6_of_35 ?_
        refine lv_iload_n hx hb dX6_of_38 rfl (lv_at hl 1 rfl) ?_
        obtain ⟨x106, hg, hf⟩ := o1_s hf
        refine Ct.callV (ws' := wV g v0 u0 u1 u2 u3 k0 k1 k2 k3 h0 h1 h2 h3 s0 s1 s2 s3 c0 c1 c2 p0 r0 t0 t1 t2 t3 z0 f0 ea R N B S C P Q K X fd tl ik) (As := [.int a1]) (rest := []) (st1 := [.int x106]) (c_X1_shown l g u0 u1 u2 u3 R a1 hg) (cwV 1 hts gX6_of_X1_shown rfl rfl rfl q_X1_shown ⟨Nat.le_of_ble_eq_true rfl, Nat.le_of_ble_eq_true rfl⟩) ⟨hx, hb, hml, hown, hts⟩ hE hP hD hS hA [1, 2, 3, 4] rfl rfl rfl rfl 1 1 rfl rfl rfl rfl hl.1 rfl rfl (Nat.le_of_ble_eq_true rfl) dX6_of_39 (fun H locs hP hD hS => ?_)
        refine lv_goto (tgt := 54) hx hb dX6_of_42 (by decide) ?_
        cases hf
        exact Ct.iret hx hb hr hlocks hAe hP hD hS dX6_of_54
    · have hf := if_t hf hc
      refine lv_aload_n hx hb dX6_of_21 rfl (lv_at hl 0 rfl) ?_
      refine lv_ldc hx hb hown w2 dX6_of_22 ?_
      obtain ⟨x107, fd108, hg, hf⟩ := o2_s hf
      refine Ct.callV (ws' := wV g v0 u0 u1 u2 u3 k0 k1 k2 k3 h0 h1 h2 h3 s0 s1 s2 s3 c0 c1 c2 p0 r0 t0 t1 t2 t3 z0 f0 ea R N B S C P Q K X fd108 tl ik) (As := [.int (-1000001 : Int32)]) (rest := []) (st1 := [.int x107]) (c_X6_finding l g v0 u0 u1 u2 u3 k0 k1 k2 k3 h0 h1 h2 h3 s0 s1 s2 s3 c0 c1 c2 p0 r0 t0 t1 t2 t3 z0 f0 ea R N B S C P Q K X fd tl ik (-1000001 : Int32) hg) (cwV 1 hts gX6_of_X6_finding rfl rfl rfl q_X6_finding ⟨Nat.le_of_ble_eq_true rfl, Nat.le_of_ble_eq_true rfl⟩) ⟨hx, hb, hml, hown, hts⟩ hE hP hD hS hA [0, 1, 2, 3, 4, 5, 6, 7, 8, 9, 10, 11, 12, 13, 14, 15, 16, 17, 18, 19, 20, 21, 22, 23, 24, 25, 26, 27, 28, 29, 30, 31, 32, 33, 34, 35] rfl rfl rfl rfl 6 0 rfl rfl rfl rfl hl.1 rfl rfl (Nat.le_of_ble_eq_true rfl) dX6_of_24 (fun H locs hP hD hS => ?_)
      cases hf
      exact Ct.iret hx hb hr hlocks hAe hP hD hS dX6_of_27
def fX6_change (R : Rf) (fd : Nat → Int32) (a1 : Int32) (a2 : Int32) (a3 : Int32) : Option (Int32 × Rf × (Nat → Int32)) := o1 (fX1_hasCistern R a1) (fun x101 => if x101 = 0 then (o2 (fX6_finding fd (-1000001 : Int32)) (fun x102 fd103 => some (x102, R, fd103))) else (o1 (fX6_isWithin a2 (0 : Int32) (10 : Int32)) (fun x104 => if x104 = 0 then (o2 (fX6_finding fd (-1000001 : Int32)) (fun x105 fd106 => some (x105, R, fd106))) else (o1 (fX1_mayBecome R a1 a2 a3) (fun x107 => if x107 = 0 then (o2 (fX6_finding fd (-1000001 : Int32)) (fun x110 fd111 => some (x110, R, fd111))) else (o1 (fX1_get R a1 a2) (fun x108 => o1 (fX1_set R a1 a2 a3) (fun R109 => some (x108, R109, fd)))))))))
theorem q_X6_change : yX6_change.cls = RX6 ∧ yX6_change.cls ≠ "java/lang/invoke/MethodHandle" ∧ yX6_change.cls ≠ "java/lang/invoke/VarHandle" ∧ (parseMethodDescriptor yX6_change.desc).map (fun d => d.parameters.length) = some 3 := by decide +kernel
theorem i_X6_change_X6 : ∀ w ∈ u_ws RX6 TX6 11, w ∈ wsX6_change := fun _ h => List.mem_cons_of_mem _ (List.mem_append_left _ (List.mem_append_right _ (h)))
set_option maxHeartbeats 4000000 in
set_option maxRecDepth 100000 in
theorem c_X6_change (l : Launch) (g : gG) (v0 u0 u1 u2 u3 k0 k1 k2 k3 h0 h1 h2 h3 s0 s1 s2 s3 c0 c1 c2 p0 r0 t0 t1 t2 t3 z0 f0 : Nat) (ea : Nat → Nat) (R : Rf) (N : Rf) (B : Rf) (S : Sv) (C : Ca) (P : Nat → Int32) (Q : Tr) (K : Tk) (X : F4) (fd : Nat → Int32) (tl : Int32) (ik : Int32) (a1 : Int32) (a2 : Int32) (a3 : Int32) {r : Int32} {R' : Rf} {fd' : Nat → Int32} (hf : fX6_change R fd a1 a2 a3 = some (r, R', fd')) : Ct l yX6_change wsX6_change (rmm 2 65) g (wV g v0 u0 u1 u2 u3 k0 k1 k2 k3 h0 h1 h2 h3 s0 s1 s2 s3 c0 c1 c2 p0 r0 t0 t1 t2 t3 z0 f0 ea R N B S C P Q K X fd tl ik) (wV g v0 u0 u1 u2 u3 k0 k1 k2 k3 h0 h1 h2 h3 s0 s1 s2 s3 c0 c1 c2 p0 r0 t0 t1 t2 t3 z0 f0 ea (R') N B S C P Q K X (fd') tl ik) [.ref v0, .int a1, .int a2, .int a3] (some (.int r)) := by
  refine Ct.mk (by decide) rfl (Nat.le_of_ble_eq_true rfl) ?_
  intro p e s m args below meth c A ls hx hb hr hml hts hown hlocks hA hE hP hD hS hl hAe
  have hown : s.vm.findClass RX6 = some m.cls := hown
  have hl : lv_has ls 5 [(0, .ref v0), (1, .int a1), (2, .int a2), (3, .int a3)] := hl
  have w1 := hts (.fieldLink RX6 10 "RainVault" "roof" "LRainVault$Roof;") (List.mem_of_getElem? (i := 1) rfl)
  have w2 := hts (.constant RX6 73 (-1000001)) (List.mem_of_getElem? (i := 2) rfl)
  unfold fX6_change at hf
  refine lv_aload_n hx hb dX6_change_0 rfl (lv_at hl 0 rfl) ?_
  refine va_get (D := g.1) (ci := 6) (v := .ref u0) (C := RX6) (T := TX6) (N := 11) hx hb hts i_X6_change_X6 hown hE.1 hP 0 rfl rfl 0 (by decide) w1 (fun _ h9 => h9) rfl dX6_change_1 ?_
  refine lv_iload_n hx hb dX6_change_4 rfl (lv_at hl 1 rfl) ?_
  obtain ⟨x101, hg, hf⟩ := o1_s hf
  refine Ct.callV (ws' := wV g v0 u0 u1 u2 u3 k0 k1 k2 k3 h0 h1 h2 h3 s0 s1 s2 s3 c0 c1 c2 p0 r0 t0 t1 t2 t3 z0 f0 ea R N B S C P Q K X fd tl ik) (As := [.int a1]) (rest := []) (st1 := [.int x101]) (c_X1_hasCistern l g u0 u1 u2 u3 R a1 hg) (cwV 1 hts gX6_change_X1_hasCistern rfl rfl rfl q_X1_hasCistern ⟨Nat.le_of_ble_eq_true rfl, Nat.le_of_ble_eq_true rfl⟩) ⟨hx, hb, hml, hown, hts⟩ hE hP hD hS hA [1, 2, 3, 4] rfl rfl rfl rfl 1 1 rfl rfl rfl rfl hl.1 rfl rfl (Nat.le_of_ble_eq_true rfl) dX6_change_5 (fun H locs hP hD hS => ?_)
  refine lv_if_eq (tgt := 34) hx hb dX6_change_8 (by decide) (fun hc => ?_) (fun hc => ?_)
  · have hf := if_t hf hc
    refine lv_aload_n hx hb dX6_change_34 rfl (lv_at hl 0 rfl) ?_
    refine lv_ldc hx hb hown w2 dX6_change_35 ?_
    obtain ⟨x102, fd103, hg, hf⟩ := o2_s hf
    refine Ct.callV (ws' := wV g v0 u0 u1 u2 u3 k0 k1 k2 k3 h0 h1 h2 h3 s0 s1 s2 s3 c0 c1 c2 p0 r0 t0 t1 t2 t3 z0 f0 ea R N B S C P Q K X fd103 tl ik) (As := [.int (-1000001 : Int32)]) (rest := []) (st1 := [.int x102]) (c_X6_finding l g v0 u0 u1 u2 u3 k0 k1 k2 k3 h0 h1 h2 h3 s0 s1 s2 s3 c0 c1 c2 p0 r0 t0 t1 t2 t3 z0 f0 ea R N B S C P Q K X fd tl ik (-1000001 : Int32) hg) (cwV 1 hts gX6_change_X6_finding rfl rfl rfl q_X6_finding ⟨Nat.le_of_ble_eq_true rfl, Nat.le_of_ble_eq_true rfl⟩) ⟨hx, hb, hml, hown, hts⟩ hE hP hD hS hA [0, 1, 2, 3, 4, 5, 6, 7, 8, 9, 10, 11, 12, 13, 14, 15, 16, 17, 18, 19, 20, 21, 22, 23, 24, 25, 26, 27, 28, 29, 30, 31, 32, 33, 34, 35] rfl rfl rfl rfl 6 0 rfl rfl rfl rfl hl.1 rfl rfl (Nat.le_of_ble_eq_true rfl) dX6_change_37 (fun H locs hP hD hS => ?_)
    cases hf
    exact Ct.iret hx hb hr hlocks hAe hP hD hS dX6_change_40
  · have hf := if_f hf hc
    refine lv_iload_n hx hb dX6_change_11 rfl (lv_at hl 2 rfl) ?_
    refine lv_iconst (v := (0 : Int32)) hx hb dX6_change_12 (by decide) ?_
    refine lv_bipush (v := (10 : Int32)) hx hb dX6_change_13 (by decide) ?_
    obtain ⟨x104, hg, hf⟩ := o1_s hf
    refine Ct.callS (ws' := wV g v0 u0 u1 u2 u3 k0 k1 k2 k3 h0 h1 h2 h3 s0 s1 s2 s3 c0 c1 c2 p0 r0 t0 t1 t2 t3 z0 f0 ea R N B S C P Q K X fd tl ik) (As := [.int a2, .int (0 : Int32), .int (10 : Int32)]) (rest := []) (st1 := [.int x104]) (c_X6_isWithin l g a2 (0 : Int32) (10 : Int32) hg) (va_cwS 3 hts gX6_change_X6_isWithin rfl rfl rfl q_X6_isWithin.2 ⟨Nat.le_of_ble_eq_true rfl, Nat.le_of_ble_eq_true rfl⟩) ⟨hx, hb, hml, hown, hts⟩ hE hP hD hS hA [] rfl rfl rfl rfl rfl hl.1 rfl rfl (Nat.le_of_ble_eq_true rfl) dX6_change_15 (fun H locs hP hD hS => ?_)
    refine lv_if_eq (tgt := 34) hx hb dX6_change_18 (by decide) (fun hc => ?_) (fun hc => ?_)
    · have hf := if_t hf hc
      refine lv_aload_n hx hb dX6_change_34 rfl (lv_at hl 0 rfl) ?_
      refine lv_ldc hx hb hown w2 dX6_change_35 ?_
      obtain ⟨x105, fd106, hg, hf⟩ := o2_s hf
      refine Ct.callV (ws' := wV g v0 u0 u1 u2 u3 k0 k1 k2 k3 h0 h1 h2 h3 s0 s1 s2 s3 c0 c1 c2 p0 r0 t0 t1 t2 t3 z0 f0 ea R N B S C P Q K X fd106 tl ik) (As := [.int (-1000001 : Int32)]) (rest := []) (st1 := [.int x105]) (c_X6_finding l g v0 u0 u1 u2 u3 k0 k1 k2 k3 h0 h1 h2 h3 s0 s1 s2 s3 c0 c1 c2 p0 r0 t0 t1 t2 t3 z0 f0 ea R N B S C P Q K X fd tl ik (-1000001 : Int32) hg) (cwV 1 hts gX6_change_X6_finding rfl rfl rfl q_X6_finding ⟨Nat.le_of_ble_eq_true rfl, Nat.le_of_ble_eq_true rfl⟩) ⟨hx, hb, hml, hown, hts⟩ hE hP hD hS hA [0, 1, 2, 3, 4, 5, 6, 7, 8, 9, 10, 11, 12, 13, 14, 15, 16, 17, 18, 19, 20, 21, 22, 23, 24, 25, 26, 27, 28, 29, 30, 31, 32, 33, 34, 35] rfl rfl rfl rfl 6 0 rfl rfl rfl rfl hl.1 rfl rfl (Nat.le_of_ble_eq_true rfl) dX6_change_37 (fun H locs hP hD hS => ?_)
      cases hf
      exact Ct.iret hx hb hr hlocks hAe hP hD hS dX6_change_40
    · have hf := if_f hf hc
      refine lv_aload_n hx hb dX6_change_21 rfl (lv_at hl 0 rfl) ?_
      refine va_get (D := g.1) (ci := 6) (v := .ref u0) (C := RX6) (T := TX6) (N := 11) hx hb hts i_X6_change_X6 hown hE.1 hP 0 rfl rfl 0 (by decide) w1 (fun _ h9 => h9) rfl dX6_change_22 ?_
      refine lv_iload_n hx hb dX6_change_25 rfl (lv_at hl 1 rfl) ?_
      refine lv_iload_n hx hb dX6_change_26 rfl (lv_at hl 2 rfl) ?_
      refine lv_iload_n hx hb dX6_change_27 rfl (lv_at hl 3 rfl) ?_
      obtain ⟨x107, hg, hf⟩ := o1_s hf
      refine Ct.callV (ws' := wV g v0 u0 u1 u2 u3 k0 k1 k2 k3 h0 h1 h2 h3 s0 s1 s2 s3 c0 c1 c2 p0 r0 t0 t1 t2 t3 z0 f0 ea R N B S C P Q K X fd tl ik) (As := [.int a1, .int a2, .int a3]) (rest := []) (st1 := [.int x107]) (c_X1_mayBecome l g u0 u1 u2 u3 R a1 a2 a3 hg) (cwV 3 hts gX6_change_X1_mayBecome rfl rfl rfl q_X1_mayBecome ⟨Nat.le_of_ble_eq_true rfl, Nat.le_of_ble_eq_true rfl⟩) ⟨hx, hb, hml, hown, hts⟩ hE hP hD hS hA [1, 2, 3, 4] rfl rfl rfl rfl 1 1 rfl rfl rfl rfl hl.1 rfl rfl (Nat.le_of_ble_eq_true rfl) dX6_change_28 (fun H locs hP hD hS => ?_)
      refine lv_if_ne (tgt := 41) hx hb dX6_change_31 (by decide) (fun hc => ?_) (fun hc => ?_)
      · have hf := if_f hf hc
        refine lv_aload_n hx hb dX6_change_41 rfl (lv_at hl 0 rfl) ?_
        refine va_get (D := g.1) (ci := 6) (v := .ref u0) (C := RX6) (T := TX6) (N := 11) hx hb hts i_X6_change_X6 hown hE.1 hP 0 rfl rfl 0 (by decide) w1 (fun _ h9 => h9) rfl dX6_change_42 ?_
        refine lv_iload_n hx hb dX6_change_45 rfl (lv_at hl 1 rfl) ?_
        refine lv_iload_n hx hb dX6_change_46 rfl (lv_at hl 2 rfl) ?_
        obtain ⟨x108, hg, hf⟩ := o1_s hf
        refine Ct.callV (ws' := wV g v0 u0 u1 u2 u3 k0 k1 k2 k3 h0 h1 h2 h3 s0 s1 s2 s3 c0 c1 c2 p0 r0 t0 t1 t2 t3 z0 f0 ea R N B S C P Q K X fd tl ik) (As := [.int a1, .int a2]) (rest := []) (st1 := [.int x108]) (c_X1_get l g u0 u1 u2 u3 R a1 a2 hg) (cwV 2 hts gX6_change_X1_get rfl rfl rfl q_X1_get ⟨Nat.le_of_ble_eq_true rfl, Nat.le_of_ble_eq_true rfl⟩) ⟨hx, hb, hml, hown, hts⟩ hE hP hD hS hA [1, 2, 3, 4] rfl rfl rfl rfl 1 1 rfl rfl rfl rfl hl.1 rfl rfl (Nat.le_of_ble_eq_true rfl) dX6_change_47 (fun H locs hP hD hS => ?_)
        refine lv_istore (lv' := [(4, .int x108), (0, .ref v0), (1, .int a1), (2, .int a2), (3, .int a3)]) hx hb dX6_change_50 hl (by decide) rfl (fun ls hl => ?_)
        refine lv_aload_n hx hb dX6_change_52 rfl (lv_at hl 1 rfl) ?_
        refine va_get (D := g.1) (ci := 6) (v := .ref u0) (C := RX6) (T := TX6) (N := 11) hx hb hts i_X6_change_X6 hown hE.1 hP 0 rfl rfl 0 (by decide) w1 (fun _ h9 => h9) rfl dX6_change_53 ?_
        refine lv_iload_n hx hb dX6_change_56 rfl (lv_at hl 2 rfl) ?_
        refine lv_iload_n hx hb dX6_change_57 rfl (lv_at hl 3 rfl) ?_
        refine lv_iload_n hx hb dX6_change_58 rfl (lv_at hl 4 rfl) ?_
        obtain ⟨R109, hg, hf⟩ := o1_s hf
        refine Ct.callV (ws' := wV g v0 u0 u1 u2 u3 k0 k1 k2 k3 h0 h1 h2 h3 s0 s1 s2 s3 c0 c1 c2 p0 r0 t0 t1 t2 t3 z0 f0 ea R109 N B S C P Q K X fd tl ik) (As := [.int a1, .int a2, .int a3]) (rest := []) (st1 := []) (c_X1_set l g u0 u1 u2 u3 R a1 a2 a3 hg) (cwV 3 hts gX6_change_X1_set rfl rfl rfl q_X1_set ⟨Nat.le_of_ble_eq_true rfl, Nat.le_of_ble_eq_true rfl⟩) ⟨hx, hb, hml, hown, hts⟩ hE hP hD hS hA [1, 2, 3, 4] rfl rfl rfl rfl 1 1 rfl rfl rfl rfl hl.1 rfl rfl (Nat.le_of_ble_eq_true rfl) dX6_change_59 (fun H locs hP hD hS => ?_)
        refine lv_iload hx hb dX6_change_62 (lv_at hl 0 rfl) ?_
        cases hf
        exact Ct.iret hx hb hr hlocks hAe hP hD hS dX6_change_64
      · have hf := if_t hf hc
        refine lv_aload_n hx hb dX6_change_34 rfl (lv_at hl 0 rfl) ?_
        refine lv_ldc hx hb hown w2 dX6_change_35 ?_
        obtain ⟨x110, fd111, hg, hf⟩ := o2_s hf
        refine Ct.callV (ws' := wV g v0 u0 u1 u2 u3 k0 k1 k2 k3 h0 h1 h2 h3 s0 s1 s2 s3 c0 c1 c2 p0 r0 t0 t1 t2 t3 z0 f0 ea R N B S C P Q K X fd111 tl ik) (As := [.int (-1000001 : Int32)]) (rest := []) (st1 := [.int x110]) (c_X6_finding l g v0 u0 u1 u2 u3 k0 k1 k2 k3 h0 h1 h2 h3 s0 s1 s2 s3 c0 c1 c2 p0 r0 t0 t1 t2 t3 z0 f0 ea R N B S C P Q K X fd tl ik (-1000001 : Int32) hg) (cwV 1 hts gX6_change_X6_finding rfl rfl rfl q_X6_finding ⟨Nat.le_of_ble_eq_true rfl, Nat.le_of_ble_eq_true rfl⟩) ⟨hx, hb, hml, hown, hts⟩ hE hP hD hS hA [0, 1, 2, 3, 4, 5, 6, 7, 8, 9, 10, 11, 12, 13, 14, 15, 16, 17, 18, 19, 20, 21, 22, 23, 24, 25, 26, 27, 28, 29, 30, 31, 32, 33, 34, 35] rfl rfl rfl rfl 6 0 rfl rfl rfl rfl hl.1 rfl rfl (Nat.le_of_ble_eq_true rfl) dX6_change_37 (fun H locs hP hD hS => ?_)
        cases hf
        exact Ct.iret hx hb hr hlocks hAe hP hD hS dX6_change_40
def fX6_cold (R : Rf) (fd : Nat → Int32) (a1 : Int32) : Option (Int32 × Rf × (Nat → Int32)) := o1 (fX6_isWithin a1 (0 : Int32) (1 : Int32)) (fun x101 => if x101 = 0 then (o2 (fX6_finding fd (-1000001 : Int32)) (fun x102 fd103 => some (x102, R, fd103))) else (if R.2.2.2.2.2.1 = 0 then (if a1 = (1 : Int32) then (some ((0 : Int32), (R.1, R.2.1, R.2.2.1, R.2.2.2.1, R.2.2.2.2.1, (1 : Int32), R.2.2.2.2.2.2.1, R.2.2.2.2.2.2.2.1, R.2.2.2.2.2.2.2.2), fd)) else (some ((0 : Int32), (R.1, R.2.1, R.2.2.1, R.2.2.2.1, R.2.2.2.2.1, (0 : Int32), R.2.2.2.2.2.2.1, R.2.2.2.2.2.2.2.1, R.2.2.2.2.2.2.2.2), fd))) else (if a1 = (1 : Int32) then (some ((1 : Int32), (R.1, R.2.1, R.2.2.1, R.2.2.2.1, R.2.2.2.2.1, (1 : Int32), R.2.2.2.2.2.2.1, R.2.2.2.2.2.2.2.1, R.2.2.2.2.2.2.2.2), fd)) else (some ((1 : Int32), (R.1, R.2.1, R.2.2.1, R.2.2.2.1, R.2.2.2.2.1, (0 : Int32), R.2.2.2.2.2.2.1, R.2.2.2.2.2.2.2.1, R.2.2.2.2.2.2.2.2), fd)))))
theorem q_X6_cold : yX6_cold.cls = RX6 ∧ yX6_cold.cls ≠ "java/lang/invoke/MethodHandle" ∧ yX6_cold.cls ≠ "java/lang/invoke/VarHandle" ∧ (parseMethodDescriptor yX6_cold.desc).map (fun d => d.parameters.length) = some 1 := by decide +kernel
theorem i_X6_cold_X6 : ∀ w ∈ u_ws RX6 TX6 11, w ∈ wsX6_cold := fun _ h => List.mem_cons_of_mem _ (List.mem_append_left _ (List.mem_append_right _ (h)))
theorem i_X6_cold_X1 : ∀ w ∈ u_ws RX1 TX1 9, w ∈ wsX6_cold := fun _ h => List.mem_cons_of_mem _ (List.mem_append_right _ (h))
set_option maxHeartbeats 4000000 in
set_option maxRecDepth 100000 in
theorem c_X6_cold (l : Launch) (g : gG) (v0 u0 u1 u2 u3 k0 k1 k2 k3 h0 h1 h2 h3 s0 s1 s2 s3 c0 c1 c2 p0 r0 t0 t1 t2 t3 z0 f0 : Nat) (ea : Nat → Nat) (R : Rf) (N : Rf) (B : Rf) (S : Sv) (C : Ca) (P : Nat → Int32) (Q : Tr) (K : Tk) (X : F4) (fd : Nat → Int32) (tl : Int32) (ik : Int32) (a1 : Int32) {r : Int32} {R' : Rf} {fd' : Nat → Int32} (hf : fX6_cold R fd a1 = some (r, R', fd')) : Ct l yX6_cold wsX6_cold (rmm 2 44) g (wV g v0 u0 u1 u2 u3 k0 k1 k2 k3 h0 h1 h2 h3 s0 s1 s2 s3 c0 c1 c2 p0 r0 t0 t1 t2 t3 z0 f0 ea R N B S C P Q K X fd tl ik) (wV g v0 u0 u1 u2 u3 k0 k1 k2 k3 h0 h1 h2 h3 s0 s1 s2 s3 c0 c1 c2 p0 r0 t0 t1 t2 t3 z0 f0 ea (R') N B S C P Q K X (fd') tl ik) [.ref v0, .int a1] (some (.int r)) := by
  refine Ct.mk (by decide) rfl (Nat.le_of_ble_eq_true rfl) ?_
  intro p e s m args below meth c A ls hx hb hr hml hts hown hlocks hA hE hP hD hS hl hAe
  have hown : s.vm.findClass RX6 = some m.cls := hown
  have hl : lv_has ls 3 [(0, .ref v0), (1, .int a1)] := hl
  have w1 := hts (.fieldLink RX6 10 "RainVault" "roof" "LRainVault$Roof;") (List.mem_of_getElem? (i := 2) rfl)
  have w2 := hts (.constant RX6 73 (-1000001)) (List.mem_of_getElem? (i := 1) rfl)
  unfold fX6_cold at hf
  refine lv_iload_n hx hb dX6_cold_0 rfl (lv_at hl 1 rfl) ?_
  refine lv_iconst (v := (0 : Int32)) hx hb dX6_cold_1 (by decide) ?_
  refine lv_iconst (v := (1 : Int32)) hx hb dX6_cold_2 (by decide) ?_
  obtain ⟨x101, hg, hf⟩ := o1_s hf
  refine Ct.callS (ws' := wV g v0 u0 u1 u2 u3 k0 k1 k2 k3 h0 h1 h2 h3 s0 s1 s2 s3 c0 c1 c2 p0 r0 t0 t1 t2 t3 z0 f0 ea R N B S C P Q K X fd tl ik) (As := [.int a1, .int (0 : Int32), .int (1 : Int32)]) (rest := []) (st1 := [.int x101]) (c_X6_isWithin l g a1 (0 : Int32) (1 : Int32) hg) (va_cwS 3 hts gX6_cold_X6_isWithin rfl rfl rfl q_X6_isWithin.2 ⟨Nat.le_of_ble_eq_true rfl, Nat.le_of_ble_eq_true rfl⟩) ⟨hx, hb, hml, hown, hts⟩ hE hP hD hS hA [] rfl rfl rfl rfl rfl hl.1 rfl rfl (Nat.le_of_ble_eq_true rfl) dX6_cold_3 (fun H locs hP hD hS => ?_)
  refine lv_if_ne (tgt := 16) hx hb dX6_cold_6 (by decide) (fun hc => ?_) (fun hc => ?_)
  · have hf := if_f hf hc
    refine lv_aload_n hx hb dX6_cold_16 rfl (lv_at hl 0 rfl) ?_
    refine va_get (D := g.1) (ci := 6) (v := .ref u0) (C := RX6) (T := TX6) (N := 11) hx hb hts i_X6_cold_X6 hown hE.1 hP 0 rfl rfl 0 (by decide) w1 (fun _ h9 => h9) rfl dX6_cold_17 ?_
    refine va_getN (D := g.1) (ci := 1) (v := .int R.2.2.2.2.2.1) (C := RX1) (T := TX1) (N := 9) hx hb hts i_X6_cold_X1 hown hE.1 hP 1 rfl rfl 5 (by decide) (va_Nw.use rfl (hE.2.1 _ (List.mem_of_getElem? (i := 6) rfl))) (fun _ h9 => h9) rfl dX6_cold_20 ?_
    refine lv_if_eq (tgt := 30) hx hb dX6_cold_23 (by decide) (fun hc => ?_) (fun hc => ?_)
    · have hf := if_t hf hc
      refine lv_iconst (v := (0 : Int32)) hx hb dX6_cold_30 (by decide) ?_
      refine lv_istore_n (lv' := [(2, .int (0 : Int32)), (0, .ref v0), (1, .int a1)]) hx hb dX6_cold_31 rfl hl (by decide) rfl (fun ls hl => ?_)
      refine lv_aload_n hx hb dX6_cold_32 rfl (lv_at hl 1 rfl) ?_
      refine va_get (D := g.1) (ci := 6) (v := .ref u0) (C := RX6) (T := TX6) (N := 11) hx hb hts i_X6_cold_X6 hown hE.1 hP 0 rfl rfl 0 (by decide) w1 (fun _ h9 => h9) rfl dX6_cold_33 ?_
      refine lv_iload_n hx hb dX6_cold_36 rfl (lv_at hl 2 rfl) ?_
      refine lv_iconst (v := (1 : Int32)) hx hb dX6_cold_37 (by decide) ?_
      refine lv_icmp_ne (tgt := 45) hx hb dX6_cold_38 (by decide) (fun hc => ?_) (fun hc => ?_)
      · have hf := if_f hf hc
        refine lv_iconst (v := (0 : Int32)) hx hb dX6_cold_45 (by decide) ?_
        refine va_putN (D := g.1) (ci := 1) (v := .int (0 : Int32)) (ty := .boolean) (C := RX1) (T := TX1) (N := 9) hx hb hts i_X6_cold_X1 tyX1 tyX1_ok nmX1 hown hE.1 hP hD hS 1 rfl rfl 5 (by decide) (va_Nw.use rfl (hE.2.1 _ (List.mem_of_getElem? (i := 6) rfl))) (fun _ h9 => h9) rfl (by decide +kernel) rfl rfl (by decide) dX6_cold_46 (fun H locs hP hD hS => ?_)
        have hP : va_P g.1 vwK (wV g v0 u0 u1 u2 u3 k0 k1 k2 k3 h0 h1 h2 h3 s0 s1 s2 s3 c0 c1 c2 p0 r0 t0 t1 t2 t3 z0 f0 ea (R.1, R.2.1, R.2.2.1, R.2.2.2.1, R.2.2.2.2.1, (0 : Int32), R.2.2.2.2.2.2.1, R.2.2.2.2.2.2.2.1, R.2.2.2.2.2.2.2.2) N B S C P Q K X fd tl ik) H := hP
        have hD : va_D A (wV g v0 u0 u1 u2 u3 k0 k1 k2 k3 h0 h1 h2 h3 s0 s1 s2 s3 c0 c1 c2 p0 r0 t0 t1 t2 t3 z0 f0 ea (R.1, R.2.1, R.2.2.1, R.2.2.2.1, R.2.2.2.2.1, (0 : Int32), R.2.2.2.2.2.2.1, R.2.2.2.2.2.2.2.1, R.2.2.2.2.2.2.2.2) N B S C P Q K X fd tl ik) := hD
        refine lv_iload_n hx hb dX6_cold_49 rfl (lv_at hl 0 rfl) ?_
        cases hf
        exact Ct.iret hx hb hr hlocks hAe hP hD hS dX6_cold_50
      · have hf := if_t hf hc
        refine lv_iconst (v := (1 : Int32)) hx hb dX6_cold_41 (by decide) ?_
        refine lv_goto (tgt := 46) hx hb dX6_cold_42 (by decide) ?_
        refine va_putN (D := g.1) (ci := 1) (v := .int (1 : Int32)) (ty := .boolean) (C := RX1) (T := TX1) (N := 9) hx hb hts i_X6_cold_X1 tyX1 tyX1_ok nmX1 hown hE.1 hP hD hS 1 rfl rfl 5 (by decide) (va_Nw.use rfl (hE.2.1 _ (List.mem_of_getElem? (i := 6) rfl))) (fun _ h9 => h9) rfl (by decide +kernel) rfl rfl (by decide) dX6_cold_46 (fun H locs hP hD hS => ?_)
        have hP : va_P g.1 vwK (wV g v0 u0 u1 u2 u3 k0 k1 k2 k3 h0 h1 h2 h3 s0 s1 s2 s3 c0 c1 c2 p0 r0 t0 t1 t2 t3 z0 f0 ea (R.1, R.2.1, R.2.2.1, R.2.2.2.1, R.2.2.2.2.1, (1 : Int32), R.2.2.2.2.2.2.1, R.2.2.2.2.2.2.2.1, R.2.2.2.2.2.2.2.2) N B S C P Q K X fd tl ik) H := hP
        have hD : va_D A (wV g v0 u0 u1 u2 u3 k0 k1 k2 k3 h0 h1 h2 h3 s0 s1 s2 s3 c0 c1 c2 p0 r0 t0 t1 t2 t3 z0 f0 ea (R.1, R.2.1, R.2.2.1, R.2.2.2.1, R.2.2.2.2.1, (1 : Int32), R.2.2.2.2.2.2.1, R.2.2.2.2.2.2.2.1, R.2.2.2.2.2.2.2.2) N B S C P Q K X fd tl ik) := hD
        refine lv_iload_n hx hb dX6_cold_49 rfl (lv_at hl 0 rfl) ?_
        cases hf
        exact Ct.iret hx hb hr hlocks hAe hP hD hS dX6_cold_50
    · have hf := if_f hf hc
      refine lv_iconst (v := (1 : Int32)) hx hb dX6_cold_26 (by decide) ?_
      refine lv_goto (tgt := 31) hx hb dX6_cold_27 (by decide) ?_
      refine lv_istore_n (lv' := [(2, .int (1 : Int32)), (0, .ref v0), (1, .int a1)]) hx hb dX6_cold_31 rfl hl (by decide) rfl (fun ls hl => ?_)
      refine lv_aload_n hx hb dX6_cold_32 rfl (lv_at hl 1 rfl) ?_
      refine va_get (D := g.1) (ci := 6) (v := .ref u0) (C := RX6) (T := TX6) (N := 11) hx hb hts i_X6_cold_X6 hown hE.1 hP 0 rfl rfl 0 (by decide) w1 (fun _ h9 => h9) rfl dX6_cold_33 ?_
      refine lv_iload_n hx hb dX6_cold_36 rfl (lv_at hl 2 rfl) ?_
      refine lv_iconst (v := (1 : Int32)) hx hb dX6_cold_37 (by decide) ?_
      refine lv_icmp_ne (tgt := 45) hx hb dX6_cold_38 (by decide) (fun hc => ?_) (fun hc => ?_)
      · have hf := if_f hf hc
        refine lv_iconst (v := (0 : Int32)) hx hb dX6_cold_45 (by decide) ?_
        refine va_putN (D := g.1) (ci := 1) (v := .int (0 : Int32)) (ty := .boolean) (C := RX1) (T := TX1) (N := 9) hx hb hts i_X6_cold_X1 tyX1 tyX1_ok nmX1 hown hE.1 hP hD hS 1 rfl rfl 5 (by decide) (va_Nw.use rfl (hE.2.1 _ (List.mem_of_getElem? (i := 6) rfl))) (fun _ h9 => h9) rfl (by decide +kernel) rfl rfl (by decide) dX6_cold_46 (fun H locs hP hD hS => ?_)
        have hP : va_P g.1 vwK (wV g v0 u0 u1 u2 u3 k0 k1 k2 k3 h0 h1 h2 h3 s0 s1 s2 s3 c0 c1 c2 p0 r0 t0 t1 t2 t3 z0 f0 ea (R.1, R.2.1, R.2.2.1, R.2.2.2.1, R.2.2.2.2.1, (0 : Int32), R.2.2.2.2.2.2.1, R.2.2.2.2.2.2.2.1, R.2.2.2.2.2.2.2.2) N B S C P Q K X fd tl ik) H := hP
        have hD : va_D A (wV g v0 u0 u1 u2 u3 k0 k1 k2 k3 h0 h1 h2 h3 s0 s1 s2 s3 c0 c1 c2 p0 r0 t0 t1 t2 t3 z0 f0 ea (R.1, R.2.1, R.2.2.1, R.2.2.2.1, R.2.2.2.2.1, (0 : Int32), R.2.2.2.2.2.2.1, R.2.2.2.2.2.2.2.1, R.2.2.2.2.2.2.2.2) N B S C P Q K X fd tl ik) := hD
        refine lv_iload_n hx hb dX6_cold_49 rfl (lv_at hl 0 rfl) ?_
        cases hf
        exact Ct.iret hx hb hr hlocks hAe hP hD hS dX6_cold_50
      · have hf := if_t hf hc
        refine lv_iconst (v := (1 : Int32)) hx hb dX6_cold_41 (by decide) ?_
        refine lv_goto (tgt := 46) hx hb dX6_cold_42 (by decide) ?_
        refine va_putN (D := g.1) (ci := 1) (v := .int (1 : Int32)) (ty := .boolean) (C := RX1) (T := TX1) (N := 9) hx hb hts i_X6_cold_X1 tyX1 tyX1_ok nmX1 hown hE.1 hP hD hS 1 rfl rfl 5 (by decide) (va_Nw.use rfl (hE.2.1 _ (List.mem_of_getElem? (i := 6) rfl))) (fun _ h9 => h9) rfl (by decide +kernel) rfl rfl (by decide) dX6_cold_46 (fun H locs hP hD hS => ?_)
        have hP : va_P g.1 vwK (wV g v0 u0 u1 u2 u3 k0 k1 k2 k3 h0 h1 h2 h3 s0 s1 s2 s3 c0 c1 c2 p0 r0 t0 t1 t2 t3 z0 f0 ea (R.1, R.2.1, R.2.2.1, R.2.2.2.1, R.2.2.2.2.1, (1 : Int32), R.2.2.2.2.2.2.1, R.2.2.2.2.2.2.2.1, R.2.2.2.2.2.2.2.2) N B S C P Q K X fd tl ik) H := hP
        have hD : va_D A (wV g v0 u0 u1 u2 u3 k0 k1 k2 k3 h0 h1 h2 h3 s0 s1 s2 s3 c0 c1 c2 p0 r0 t0 t1 t2 t3 z0 f0 ea (R.1, R.2.1, R.2.2.1, R.2.2.2.1, R.2.2.2.2.1, (1 : Int32), R.2.2.2.2.2.2.1, R.2.2.2.2.2.2.2.1, R.2.2.2.2.2.2.2.2) N B S C P Q K X fd tl ik) := hD
        refine lv_iload_n hx hb dX6_cold_49 rfl (lv_at hl 0 rfl) ?_
        cases hf
        exact Ct.iret hx hb hr hlocks hAe hP hD hS dX6_cold_50
  · have hf := if_t hf hc
    refine lv_aload_n hx hb dX6_cold_9 rfl (lv_at hl 0 rfl) ?_
    refine lv_ldc hx hb hown w2 dX6_cold_10 ?_
    obtain ⟨x102, fd103, hg, hf⟩ := o2_s hf
    refine Ct.callV (ws' := wV g v0 u0 u1 u2 u3 k0 k1 k2 k3 h0 h1 h2 h3 s0 s1 s2 s3 c0 c1 c2 p0 r0 t0 t1 t2 t3 z0 f0 ea R N B S C P Q K X fd103 tl ik) (As := [.int (-1000001 : Int32)]) (rest := []) (st1 := [.int x102]) (c_X6_finding l g v0 u0 u1 u2 u3 k0 k1 k2 k3 h0 h1 h2 h3 s0 s1 s2 s3 c0 c1 c2 p0 r0 t0 t1 t2 t3 z0 f0 ea R N B S C P Q K X fd tl ik (-1000001 : Int32) hg) (cwV 1 hts gX6_cold_X6_finding rfl rfl rfl q_X6_finding ⟨Nat.le_of_ble_eq_true rfl, Nat.le_of_ble_eq_true rfl⟩) ⟨hx, hb, hml, hown, hts⟩ hE hP hD hS hA [0, 1, 2, 3, 4, 5, 6, 7, 8, 9, 10, 11, 12, 13, 14, 15, 16, 17, 18, 19, 20, 21, 22, 23, 24, 25, 26, 27, 28, 29, 30, 31, 32, 33, 34, 35] rfl rfl rfl rfl 6 0 rfl rfl rfl rfl hl.1 rfl rfl (Nat.le_of_ble_eq_true rfl) dX6_cold_12 (fun H locs hP hD hS => ?_)
    cases hf
    exact Ct.iret hx hb hr hlocks hAe hP hD hS dX6_cold_15
def fX6_catches (R : Rf) (fd : Nat → Int32) (a1 : Int32) (a2 : Int32) (a3 : Int32) : Option (Int32 × (Nat → Int32)) := o1 (fX1_hasCistern R a1) (fun x101 => if x101 = 0 then (o2 (fX6_finding fd (-1000001 : Int32)) (fun x102 fd103 => some (x102, fd103))) else (o1 (fX6_isRain a2 a3) (fun x104 => if x104 = 0 then (o2 (fX6_finding fd (-1000001 : Int32)) (fun x106 fd107 => some (x106, fd107))) else (o1 (fX1_caught R a1 a2 a3) (fun x105 => some (x105, fd))))))
theorem q_X6_catches : yX6_catches.cls = RX6 ∧ yX6_catches.cls ≠ "java/lang/invoke/MethodHandle" ∧ yX6_catches.cls ≠ "java/lang/invoke/VarHandle" ∧ (parseMethodDescriptor yX6_catches.desc).map (fun d => d.parameters.length) = some 3 := by decide +kernel
theorem i_X6_catches_X6 : ∀ w ∈ u_ws RX6 TX6 11, w ∈ wsX6_catches := fun _ h => List.mem_cons_of_mem _ (List.mem_append_left _ (List.mem_append_right _ (h)))
set_option maxHeartbeats 4000000 in
set_option maxRecDepth 100000 in
theorem c_X6_catches (l : Launch) (g : gG) (v0 u0 u1 u2 u3 k0 k1 k2 k3 h0 h1 h2 h3 s0 s1 s2 s3 c0 c1 c2 p0 r0 t0 t1 t2 t3 z0 f0 : Nat) (ea : Nat → Nat) (R : Rf) (N : Rf) (B : Rf) (S : Sv) (C : Ca) (P : Nat → Int32) (Q : Tr) (K : Tk) (X : F4) (fd : Nat → Int32) (tl : Int32) (ik : Int32) (a1 : Int32) (a2 : Int32) (a3 : Int32) {r : Int32} {fd' : Nat → Int32} (hf : fX6_catches R fd a1 a2 a3 = some (r, fd')) : Ct l yX6_catches wsX6_catches (rmm 3 70) g (wV g v0 u0 u1 u2 u3 k0 k1 k2 k3 h0 h1 h2 h3 s0 s1 s2 s3 c0 c1 c2 p0 r0 t0 t1 t2 t3 z0 f0 ea R N B S C P Q K X fd tl ik) (wV g v0 u0 u1 u2 u3 k0 k1 k2 k3 h0 h1 h2 h3 s0 s1 s2 s3 c0 c1 c2 p0 r0 t0 t1 t2 t3 z0 f0 ea R N B S C P Q K X (fd') tl ik) [.ref v0, .int a1, .int a2, .int a3] (some (.int r)) := by
  refine Ct.mk (by decide) rfl (Nat.le_of_ble_eq_true rfl) ?_
  intro p e s m args below meth c A ls hx hb hr hml hts hown hlocks hA hE hP hD hS hl hAe
  have hown : s.vm.findClass RX6 = some m.cls := hown
  have hl : lv_has ls 4 [(0, .ref v0), (1, .int a1), (2, .int a2), (3, .int a3)] := hl
  have w1 := hts (.fieldLink RX6 10 "RainVault" "roof" "LRainVault$Roof;") (List.mem_of_getElem? (i := 1) rfl)
  have w2 := hts (.constant RX6 73 (-1000001)) (List.mem_of_getElem? (i := 2) rfl)
  unfold fX6_catches at hf
  refine lv_aload_n hx hb dX6_catches_0 rfl (lv_at hl 0 rfl) ?_
  refine va_get (D := g.1) (ci := 6) (v := .ref u0) (C := RX6) (T := TX6) (N := 11) hx hb hts i_X6_catches_X6 hown hE.1 hP 0 rfl rfl 0 (by decide) w1 (fun _ h9 => h9) rfl dX6_catches_1 ?_
  refine lv_iload_n hx hb dX6_catches_4 rfl (lv_at hl 1 rfl) ?_
  obtain ⟨x101, hg, hf⟩ := o1_s hf
  refine Ct.callV (ws' := wV g v0 u0 u1 u2 u3 k0 k1 k2 k3 h0 h1 h2 h3 s0 s1 s2 s3 c0 c1 c2 p0 r0 t0 t1 t2 t3 z0 f0 ea R N B S C P Q K X fd tl ik) (As := [.int a1]) (rest := []) (st1 := [.int x101]) (c_X1_hasCistern l g u0 u1 u2 u3 R a1 hg) (cwV 1 hts gX6_catches_X1_hasCistern rfl rfl rfl q_X1_hasCistern ⟨Nat.le_of_ble_eq_true rfl, Nat.le_of_ble_eq_true rfl⟩) ⟨hx, hb, hml, hown, hts⟩ hE hP hD hS hA [1, 2, 3, 4] rfl rfl rfl rfl 1 1 rfl rfl rfl rfl hl.1 rfl rfl (Nat.le_of_ble_eq_true rfl) dX6_catches_5 (fun H locs hP hD hS => ?_)
  refine lv_if_eq (tgt := 19) hx hb dX6_catches_8 (by decide) (fun hc => ?_) (fun hc => ?_)
  · have hf := if_t hf hc
    refine lv_aload_n hx hb dX6_catches_19 rfl (lv_at hl 0 rfl) ?_
    refine lv_ldc hx hb hown w2 dX6_catches_20 ?_
    obtain ⟨x102, fd103, hg, hf⟩ := o2_s hf
    refine Ct.callV (ws' := wV g v0 u0 u1 u2 u3 k0 k1 k2 k3 h0 h1 h2 h3 s0 s1 s2 s3 c0 c1 c2 p0 r0 t0 t1 t2 t3 z0 f0 ea R N B S C P Q K X fd103 tl ik) (As := [.int (-1000001 : Int32)]) (rest := []) (st1 := [.int x102]) (c_X6_finding l g v0 u0 u1 u2 u3 k0 k1 k2 k3 h0 h1 h2 h3 s0 s1 s2 s3 c0 c1 c2 p0 r0 t0 t1 t2 t3 z0 f0 ea R N B S C P Q K X fd tl ik (-1000001 : Int32) hg) (cwV 1 hts gX6_catches_X6_finding rfl rfl rfl q_X6_finding ⟨Nat.le_of_ble_eq_true rfl, Nat.le_of_ble_eq_true rfl⟩) ⟨hx, hb, hml, hown, hts⟩ hE hP hD hS hA [0, 1, 2, 3, 4, 5, 6, 7, 8, 9, 10, 11, 12, 13, 14, 15, 16, 17, 18, 19, 20, 21, 22, 23, 24, 25, 26, 27, 28, 29, 30, 31, 32, 33, 34, 35] rfl rfl rfl rfl 6 0 rfl rfl rfl rfl hl.1 rfl rfl (Nat.le_of_ble_eq_true rfl) dX6_catches_22 (fun H locs hP hD hS => ?_)
    cases hf
    exact Ct.iret hx hb hr hlocks hAe hP hD hS dX6_catches_25
  · have hf := if_f hf hc
    refine lv_iload_n hx hb dX6_catches_11 rfl (lv_at hl 2 rfl) ?_
    refine lv_iload_n hx hb dX6_catches_12 rfl (lv_at hl 3 rfl) ?_
    obtain ⟨x104, hg, hf⟩ := o1_s hf
    refine Ct.callS (ws' := wV g v0 u0 u1 u2 u3 k0 k1 k2 k3 h0 h1 h2 h3 s0 s1 s2 s3 c0 c1 c2 p0 r0 t0 t1 t2 t3 z0 f0 ea R N B S C P Q K X fd tl ik) (As := [.int a2, .int a3]) (rest := []) (st1 := [.int x104]) (c_X6_isRain l g a2 a3 hg) (va_cwS 2 hts gX6_catches_X6_isRain rfl rfl rfl q_X6_isRain.2 ⟨Nat.le_of_ble_eq_true rfl, Nat.le_of_ble_eq_true rfl⟩) ⟨hx, hb, hml, hown, hts⟩ hE hP hD hS hA [] rfl rfl rfl rfl rfl hl.1 rfl rfl (Nat.le_of_ble_eq_true rfl) dX6_catches_13 (fun H locs hP hD hS => ?_)
    refine lv_if_ne (tgt := 26) hx hb dX6_catches_16 (by decide) (fun hc => ?_) (fun hc => ?_)
    · have hf := if_f hf hc
      refine lv_aload_n hx hb dX6_catches_26 rfl (lv_at hl 0 rfl) ?_
      refine va_get (D := g.1) (ci := 6) (v := .ref u0) (C := RX6) (T := TX6) (N := 11) hx hb hts i_X6_catches_X6 hown hE.1 hP 0 rfl rfl 0 (by decide) w1 (fun _ h9 => h9) rfl dX6_catches_27 ?_
      refine lv_iload_n hx hb dX6_catches_30 rfl (lv_at hl 1 rfl) ?_
      refine lv_iload_n hx hb dX6_catches_31 rfl (lv_at hl 2 rfl) ?_
      refine lv_iload_n hx hb dX6_catches_32 rfl (lv_at hl 3 rfl) ?_
      obtain ⟨x105, hg, hf⟩ := o1_s hf
      refine Ct.callV (ws' := wV g v0 u0 u1 u2 u3 k0 k1 k2 k3 h0 h1 h2 h3 s0 s1 s2 s3 c0 c1 c2 p0 r0 t0 t1 t2 t3 z0 f0 ea R N B S C P Q K X fd tl ik) (As := [.int a1, .int a2, .int a3]) (rest := []) (st1 := [.int x105]) (c_X1_caught l g u0 u1 u2 u3 R a1 a2 a3 hg) (cwV 3 hts gX6_catches_X1_caught rfl rfl rfl q_X1_caught ⟨Nat.le_of_ble_eq_true rfl, Nat.le_of_ble_eq_true rfl⟩) ⟨hx, hb, hml, hown, hts⟩ hE hP hD hS hA [1, 2, 3, 4] rfl rfl rfl rfl 1 1 rfl rfl rfl rfl hl.1 rfl rfl (Nat.le_of_ble_eq_true rfl) dX6_catches_33 (fun H locs hP hD hS => ?_)
      cases hf
      exact Ct.iret hx hb hr hlocks hAe hP hD hS dX6_catches_36
    · have hf := if_t hf hc
      refine lv_aload_n hx hb dX6_catches_19 rfl (lv_at hl 0 rfl) ?_
      refine lv_ldc hx hb hown w2 dX6_catches_20 ?_
      obtain ⟨x106, fd107, hg, hf⟩ := o2_s hf
      refine Ct.callV (ws' := wV g v0 u0 u1 u2 u3 k0 k1 k2 k3 h0 h1 h2 h3 s0 s1 s2 s3 c0 c1 c2 p0 r0 t0 t1 t2 t3 z0 f0 ea R N B S C P Q K X fd107 tl ik) (As := [.int (-1000001 : Int32)]) (rest := []) (st1 := [.int x106]) (c_X6_finding l g v0 u0 u1 u2 u3 k0 k1 k2 k3 h0 h1 h2 h3 s0 s1 s2 s3 c0 c1 c2 p0 r0 t0 t1 t2 t3 z0 f0 ea R N B S C P Q K X fd tl ik (-1000001 : Int32) hg) (cwV 1 hts gX6_catches_X6_finding rfl rfl rfl q_X6_finding ⟨Nat.le_of_ble_eq_true rfl, Nat.le_of_ble_eq_true rfl⟩) ⟨hx, hb, hml, hown, hts⟩ hE hP hD hS hA [0, 1, 2, 3, 4, 5, 6, 7, 8, 9, 10, 11, 12, 13, 14, 15, 16, 17, 18, 19, 20, 21, 22, 23, 24, 25, 26, 27, 28, 29, 30, 31, 32, 33, 34, 35] rfl rfl rfl rfl 6 0 rfl rfl rfl rfl hl.1 rfl rfl (Nat.le_of_ble_eq_true rfl) dX6_catches_22 (fun H locs hP hD hS => ?_)
      cases hf
      exact Ct.iret hx hb hr hlocks hAe hP hD hS dX6_catches_25
def fX6_below (R : Rf) (fd : Nat → Int32) (a1 : Int32) : Option (Int32 × (Nat → Int32)) := o1 (fX1_hasCistern R a1) (fun x101 => if x101 = 0 then (o2 (fX6_finding fd (-1000001 : Int32)) (fun x103 fd104 => some (x103, fd104))) else (o1 (fX1_reachedFrom R a1) (fun x102 => some (x102, fd))))
theorem q_X6_below : yX6_below.cls = RX6 ∧ yX6_below.cls ≠ "java/lang/invoke/MethodHandle" ∧ yX6_below.cls ≠ "java/lang/invoke/VarHandle" ∧ (parseMethodDescriptor yX6_below.desc).map (fun d => d.parameters.length) = some 1 := by decide +kernel
theorem i_X6_below_X6 : ∀ w ∈ u_ws RX6 TX6 11, w ∈ wsX6_below := fun _ h => List.mem_cons_of_mem _ (List.mem_append_left _ (List.mem_append_right _ (h)))
set_option maxHeartbeats 4000000 in
set_option maxRecDepth 100000 in
theorem c_X6_below (l : Launch) (g : gG) (v0 u0 u1 u2 u3 k0 k1 k2 k3 h0 h1 h2 h3 s0 s1 s2 s3 c0 c1 c2 p0 r0 t0 t1 t2 t3 z0 f0 : Nat) (ea : Nat → Nat) (R : Rf) (N : Rf) (B : Rf) (S : Sv) (C : Ca) (P : Nat → Int32) (Q : Tr) (K : Tk) (X : F4) (fd : Nat → Int32) (tl : Int32) (ik : Int32) (a1 : Int32) {r : Int32} {fd' : Nat → Int32} (hf : fX6_below R fd a1 = some (r, fd')) : Ct l yX6_below wsX6_below (rmm 3 69) g (wV g v0 u0 u1 u2 u3 k0 k1 k2 k3 h0 h1 h2 h3 s0 s1 s2 s3 c0 c1 c2 p0 r0 t0 t1 t2 t3 z0 f0 ea R N B S C P Q K X fd tl ik) (wV g v0 u0 u1 u2 u3 k0 k1 k2 k3 h0 h1 h2 h3 s0 s1 s2 s3 c0 c1 c2 p0 r0 t0 t1 t2 t3 z0 f0 ea R N B S C P Q K X (fd') tl ik) [.ref v0, .int a1] (some (.int r)) := by
  refine Ct.mk (by decide) rfl (Nat.le_of_ble_eq_true rfl) ?_
  intro p e s m args below meth c A ls hx hb hr hml hts hown hlocks hA hE hP hD hS hl hAe
  have hown : s.vm.findClass RX6 = some m.cls := hown
  have hl : lv_has ls 2 [(0, .ref v0), (1, .int a1)] := hl
  have w1 := hts (.fieldLink RX6 10 "RainVault" "roof" "LRainVault$Roof;") (List.mem_of_getElem? (i := 1) rfl)
  have w2 := hts (.constant RX6 73 (-1000001)) (List.mem_of_getElem? (i := 2) rfl)
  unfold fX6_below at hf
  refine lv_aload_n hx hb dX6_below_0 rfl (lv_at hl 0 rfl) ?_
  refine va_get (D := g.1) (ci := 6) (v := .ref u0) (C := RX6) (T := TX6) (N := 11) hx hb hts i_X6_below_X6 hown hE.1 hP 0 rfl rfl 0 (by decide) w1 (fun _ h9 => h9) rfl dX6_below_1 ?_
  refine lv_iload_n hx hb dX6_below_4 rfl (lv_at hl 1 rfl) ?_
  obtain ⟨x101, hg, hf⟩ := o1_s hf
  refine Ct.callV (ws' := wV g v0 u0 u1 u2 u3 k0 k1 k2 k3 h0 h1 h2 h3 s0 s1 s2 s3 c0 c1 c2 p0 r0 t0 t1 t2 t3 z0 f0 ea R N B S C P Q K X fd tl ik) (As := [.int a1]) (rest := []) (st1 := [.int x101]) (c_X1_hasCistern l g u0 u1 u2 u3 R a1 hg) (cwV 1 hts gX6_below_X1_hasCistern rfl rfl rfl q_X1_hasCistern ⟨Nat.le_of_ble_eq_true rfl, Nat.le_of_ble_eq_true rfl⟩) ⟨hx, hb, hml, hown, hts⟩ hE hP hD hS hA [1, 2, 3, 4] rfl rfl rfl rfl 1 1 rfl rfl rfl rfl hl.1 rfl rfl (Nat.le_of_ble_eq_true rfl) dX6_below_5 (fun H locs hP hD hS => ?_)
  refine lv_if_ne (tgt := 18) hx hb dX6_below_8 (by decide) (fun hc => ?_) (fun hc => ?_)
  · have hf := if_f hf hc
    refine lv_aload_n hx hb dX6_below_18 rfl (lv_at hl 0 rfl) ?_
    refine va_get (D := g.1) (ci := 6) (v := .ref u0) (C := RX6) (T := TX6) (N := 11) hx hb hts i_X6_below_X6 hown hE.1 hP 0 rfl rfl 0 (by decide) w1 (fun _ h9 => h9) rfl dX6_below_19 ?_
    refine lv_iload_n hx hb dX6_below_22 rfl (lv_at hl 1 rfl) ?_
    obtain ⟨x102, hg, hf⟩ := o1_s hf
    refine Ct.callV (ws' := wV g v0 u0 u1 u2 u3 k0 k1 k2 k3 h0 h1 h2 h3 s0 s1 s2 s3 c0 c1 c2 p0 r0 t0 t1 t2 t3 z0 f0 ea R N B S C P Q K X fd tl ik) (As := [.int a1]) (rest := []) (st1 := [.int x102]) (c_X1_reachedFrom l g u0 u1 u2 u3 R a1 hg) (cwV 1 hts gX6_below_X1_reachedFrom rfl rfl rfl q_X1_reachedFrom ⟨Nat.le_of_ble_eq_true rfl, Nat.le_of_ble_eq_true rfl⟩) ⟨hx, hb, hml, hown, hts⟩ hE hP hD hS hA [1, 2, 3, 4] rfl rfl rfl rfl 1 1 rfl rfl rfl rfl hl.1 rfl rfl (Nat.le_of_ble_eq_true rfl) dX6_below_23 (fun H locs hP hD hS => ?_)
    cases hf
    exact Ct.iret hx hb hr hlocks hAe hP hD hS dX6_below_26
  · have hf := if_t hf hc
    refine lv_aload_n hx hb dX6_below_11 rfl (lv_at hl 0 rfl) ?_
    refine lv_ldc hx hb hown w2 dX6_below_12 ?_
    obtain ⟨x103, fd104, hg, hf⟩ := o2_s hf
    refine Ct.callV (ws' := wV g v0 u0 u1 u2 u3 k0 k1 k2 k3 h0 h1 h2 h3 s0 s1 s2 s3 c0 c1 c2 p0 r0 t0 t1 t2 t3 z0 f0 ea R N B S C P Q K X fd104 tl ik) (As := [.int (-1000001 : Int32)]) (rest := []) (st1 := [.int x103]) (c_X6_finding l g v0 u0 u1 u2 u3 k0 k1 k2 k3 h0 h1 h2 h3 s0 s1 s2 s3 c0 c1 c2 p0 r0 t0 t1 t2 t3 z0 f0 ea R N B S C P Q K X fd tl ik (-1000001 : Int32) hg) (cwV 1 hts gX6_below_X6_finding rfl rfl rfl q_X6_finding ⟨Nat.le_of_ble_eq_true rfl, Nat.le_of_ble_eq_true rfl⟩) ⟨hx, hb, hml, hown, hts⟩ hE hP hD hS hA [0, 1, 2, 3, 4, 5, 6, 7, 8, 9, 10, 11, 12, 13, 14, 15, 16, 17, 18, 19, 20, 21, 22, 23, 24, 25, 26, 27, 28, 29, 30, 31, 32, 33, 34, 35] rfl rfl rfl rfl 6 0 rfl rfl rfl rfl hl.1 rfl rfl (Nat.le_of_ble_eq_true rfl) dX6_below_14 (fun H locs hP hD hS => ?_)
    cases hf
    exact Ct.iret hx hb hr hlocks hAe hP hD hS dX6_below_17
def fX6_lock (R : Rf) (fd : Nat → Int32) (a1 : Int32) (a2 : Int32) (a3 : Int32) : Option (Int32 × Rf × (Nat → Int32)) := o1 (fX6_isWithin a1 (0 : Int32) (4 : Int32)) (fun x101 => if x101 = 0 then (o2 (fX6_finding fd (-1000001 : Int32)) (fun x102 fd103 => some (x102, R, fd103))) else (o1 (fX6_isWithin a2 (0 : Int32) (7 : Int32)) (fun x104 => if x104 = 0 then (o2 (fX6_finding fd (-1000001 : Int32)) (fun x105 fd106 => some (x105, R, fd106))) else (o1 (fX6_mostRight a1) (fun x107 => o1 (fX6_isWithin a3 (0 : Int32) x107) (fun x108 => if x108 = 0 then (o2 (fX6_finding fd (-1000001 : Int32)) (fun x113 fd114 => some (x113, R, fd114))) else (if R.2.2.2.2.1 < (8 : Int32) then (o2 (fX1_addCondition R a1 a2 a3) (fun x109 R110 => some (x109, R110, fd))) else (o2 (fX6_finding fd (-1000002 : Int32)) (fun x111 fd112 => some (x111, R, fd112))))))))))
theorem q_X6_lock : yX6_lock.cls = RX6 ∧ yX6_lock.cls ≠ "java/lang/invoke/MethodHandle" ∧ yX6_lock.cls ≠ "java/lang/invoke/VarHandle" ∧ (parseMethodDescriptor yX6_lock.desc).map (fun d => d.parameters.length) = some 3 := by decide +kernel
theorem i_X6_lock_X6 : ∀ w ∈ u_ws RX6 TX6 11, w ∈ wsX6_lock := fun _ h => List.mem_cons_of_mem _ (List.mem_append_left _ (List.mem_append_right _ (h)))
theorem i_X6_lock_X1 : ∀ w ∈ u_ws RX1 TX1 9, w ∈ wsX6_lock := fun _ h => List.mem_cons_of_mem _ (List.mem_append_right _ (h))
set_option maxHeartbeats 4000000 in
set_option maxRecDepth 100000 in
theorem c_X6_lock (l : Launch) (g : gG) (v0 u0 u1 u2 u3 k0 k1 k2 k3 h0 h1 h2 h3 s0 s1 s2 s3 c0 c1 c2 p0 r0 t0 t1 t2 t3 z0 f0 : Nat) (ea : Nat → Nat) (R : Rf) (N : Rf) (B : Rf) (S : Sv) (C : Ca) (P : Nat → Int32) (Q : Tr) (K : Tk) (X : F4) (fd : Nat → Int32) (tl : Int32) (ik : Int32) (a1 : Int32) (a2 : Int32) (a3 : Int32) {r : Int32} {R' : Rf} {fd' : Nat → Int32} (hf : fX6_lock R fd a1 a2 a3 = some (r, R', fd')) : Ct l yX6_lock wsX6_lock (rmm 3 70) g (wV g v0 u0 u1 u2 u3 k0 k1 k2 k3 h0 h1 h2 h3 s0 s1 s2 s3 c0 c1 c2 p0 r0 t0 t1 t2 t3 z0 f0 ea R N B S C P Q K X fd tl ik) (wV g v0 u0 u1 u2 u3 k0 k1 k2 k3 h0 h1 h2 h3 s0 s1 s2 s3 c0 c1 c2 p0 r0 t0 t1 t2 t3 z0 f0 ea (R') N B S C P Q K X (fd') tl ik) [.ref v0, .int a1, .int a2, .int a3] (some (.int r)) := by
  refine Ct.mk (by decide) rfl (Nat.le_of_ble_eq_true rfl) ?_
  intro p e s m args below meth c A ls hx hb hr hml hts hown hlocks hA hE hP hD hS hl hAe
  have hown : s.vm.findClass RX6 = some m.cls := hown
  have hl : lv_has ls 4 [(0, .ref v0), (1, .int a1), (2, .int a2), (3, .int a3)] := hl
  have w1 := hts (.constant RX6 73 (-1000001)) (List.mem_of_getElem? (i := 1) rfl)
  have w2 := hts (.fieldLink RX6 10 "RainVault" "roof" "LRainVault$Roof;") (List.mem_of_getElem? (i := 2) rfl)
  have w3 := hts (.constant RX6 81 (-1000002)) (List.mem_of_getElem? (i := 3) rfl)
  unfold fX6_lock at hf
  refine lv_iload_n hx hb dX6_lock_0 rfl (lv_at hl 1 rfl) ?_
  refine lv_iconst (v := (0 : Int32)) hx hb dX6_lock_1 (by decide) ?_
  refine lv_iconst (v := (4 : Int32)) hx hb dX6_lock_2 (by decide) ?_
  obtain ⟨x101, hg, hf⟩ := o1_s hf
  refine Ct.callS (ws' := wV g v0 u0 u1 u2 u3 k0 k1 k2 k3 h0 h1 h2 h3 s0 s1 s2 s3 c0 c1 c2 p0 r0 t0 t1 t2 t3 z0 f0 ea R N B S C P Q K X fd tl ik) (As := [.int a1, .int (0 : Int32), .int (4 : Int32)]) (rest := []) (st1 := [.int x101]) (c_X6_isWithin l g a1 (0 : Int32) (4 : Int32) hg) (va_cwS 3 hts gX6_lock_X6_isWithin rfl rfl rfl q_X6_isWithin.2 ⟨Nat.le_of_ble_eq_true rfl, Nat.le_of_ble_eq_true rfl⟩) ⟨hx, hb, hml, hown, hts⟩ hE hP hD hS hA [] rfl rfl rfl rfl rfl hl.1 rfl rfl (Nat.le_of_ble_eq_true rfl) dX6_lock_3 (fun H locs hP hD hS => ?_)
  refine lv_if_eq (tgt := 31) hx hb dX6_lock_6 (by decide) (fun hc => ?_) (fun hc => ?_)
  · have hf := if_t hf hc
    refine lv_aload_n hx hb dX6_lock_31 rfl (lv_at hl 0 rfl) ?_
    refine lv_ldc hx hb hown w1 dX6_lock_32 ?_
    obtain ⟨x102, fd103, hg, hf⟩ := o2_s hf
    refine Ct.callV (ws' := wV g v0 u0 u1 u2 u3 k0 k1 k2 k3 h0 h1 h2 h3 s0 s1 s2 s3 c0 c1 c2 p0 r0 t0 t1 t2 t3 z0 f0 ea R N B S C P Q K X fd103 tl ik) (As := [.int (-1000001 : Int32)]) (rest := []) (st1 := [.int x102]) (c_X6_finding l g v0 u0 u1 u2 u3 k0 k1 k2 k3 h0 h1 h2 h3 s0 s1 s2 s3 c0 c1 c2 p0 r0 t0 t1 t2 t3 z0 f0 ea R N B S C P Q K X fd tl ik (-1000001 : Int32) hg) (cwV 1 hts gX6_lock_X6_finding rfl rfl rfl q_X6_finding ⟨Nat.le_of_ble_eq_true rfl, Nat.le_of_ble_eq_true rfl⟩) ⟨hx, hb, hml, hown, hts⟩ hE hP hD hS hA [0, 1, 2, 3, 4, 5, 6, 7, 8, 9, 10, 11, 12, 13, 14, 15, 16, 17, 18, 19, 20, 21, 22, 23, 24, 25, 26, 27, 28, 29, 30, 31, 32, 33, 34, 35] rfl rfl rfl rfl 6 0 rfl rfl rfl rfl hl.1 rfl rfl (Nat.le_of_ble_eq_true rfl) dX6_lock_34 (fun H locs hP hD hS => ?_)
    cases hf
    exact Ct.iret hx hb hr hlocks hAe hP hD hS dX6_lock_37
  · have hf := if_f hf hc
    refine lv_iload_n hx hb dX6_lock_9 rfl (lv_at hl 2 rfl) ?_
    refine lv_iconst (v := (0 : Int32)) hx hb dX6_lock_10 (by decide) ?_
    refine lv_bipush (v := (7 : Int32)) hx hb dX6_lock_11 (by decide) ?_
    obtain ⟨x104, hg, hf⟩ := o1_s hf
    refine Ct.callS (ws' := wV g v0 u0 u1 u2 u3 k0 k1 k2 k3 h0 h1 h2 h3 s0 s1 s2 s3 c0 c1 c2 p0 r0 t0 t1 t2 t3 z0 f0 ea R N B S C P Q K X fd tl ik) (As := [.int a2, .int (0 : Int32), .int (7 : Int32)]) (rest := []) (st1 := [.int x104]) (c_X6_isWithin l g a2 (0 : Int32) (7 : Int32) hg) (va_cwS 3 hts gX6_lock_X6_isWithin rfl rfl rfl q_X6_isWithin.2 ⟨Nat.le_of_ble_eq_true rfl, Nat.le_of_ble_eq_true rfl⟩) ⟨hx, hb, hml, hown, hts⟩ hE hP hD hS hA [] rfl rfl rfl rfl rfl hl.1 rfl rfl (Nat.le_of_ble_eq_true rfl) dX6_lock_13 (fun H locs hP hD hS => ?_)
    refine lv_if_eq (tgt := 31) hx hb dX6_lock_16 (by decide) (fun hc => ?_) (fun hc => ?_)
    · have hf := if_t hf hc
      refine lv_aload_n hx hb dX6_lock_31 rfl (lv_at hl 0 rfl) ?_
      refine lv_ldc hx hb hown w1 dX6_lock_32 ?_
      obtain ⟨x105, fd106, hg, hf⟩ := o2_s hf
      refine Ct.callV (ws' := wV g v0 u0 u1 u2 u3 k0 k1 k2 k3 h0 h1 h2 h3 s0 s1 s2 s3 c0 c1 c2 p0 r0 t0 t1 t2 t3 z0 f0 ea R N B S C P Q K X fd106 tl ik) (As := [.int (-1000001 : Int32)]) (rest := []) (st1 := [.int x105]) (c_X6_finding l g v0 u0 u1 u2 u3 k0 k1 k2 k3 h0 h1 h2 h3 s0 s1 s2 s3 c0 c1 c2 p0 r0 t0 t1 t2 t3 z0 f0 ea R N B S C P Q K X fd tl ik (-1000001 : Int32) hg) (cwV 1 hts gX6_lock_X6_finding rfl rfl rfl q_X6_finding ⟨Nat.le_of_ble_eq_true rfl, Nat.le_of_ble_eq_true rfl⟩) ⟨hx, hb, hml, hown, hts⟩ hE hP hD hS hA [0, 1, 2, 3, 4, 5, 6, 7, 8, 9, 10, 11, 12, 13, 14, 15, 16, 17, 18, 19, 20, 21, 22, 23, 24, 25, 26, 27, 28, 29, 30, 31, 32, 33, 34, 35] rfl rfl rfl rfl 6 0 rfl rfl rfl rfl hl.1 rfl rfl (Nat.le_of_ble_eq_true rfl) dX6_lock_34 (fun H locs hP hD hS => ?_)
      cases hf
      exact Ct.iret hx hb hr hlocks hAe hP hD hS dX6_lock_37
    · have hf := if_f hf hc
      refine lv_iload_n hx hb dX6_lock_19 rfl (lv_at hl 3 rfl) ?_
      refine lv_iconst (v := (0 : Int32)) hx hb dX6_lock_20 (by decide) ?_
      refine lv_iload_n hx hb dX6_lock_21 rfl (lv_at hl 1 rfl) ?_
      obtain ⟨x107, hg, hf⟩ := o1_s hf
      refine Ct.callS (ws' := wV g v0 u0 u1 u2 u3 k0 k1 k2 k3 h0 h1 h2 h3 s0 s1 s2 s3 c0 c1 c2 p0 r0 t0 t1 t2 t3 z0 f0 ea R N B S C P Q K X fd tl ik) (As := [.int a1]) (rest := [.int (0 : Int32), .int a3]) (st1 := [.int x107, .int (0 : Int32), .int a3]) (c_X6_mostRight l g a1 hg) (va_cwS 1 hts gX6_lock_X6_mostRight rfl rfl rfl q_X6_mostRight.2 ⟨Nat.le_of_ble_eq_true rfl, Nat.le_of_ble_eq_true rfl⟩) ⟨hx, hb, hml, hown, hts⟩ hE hP hD hS hA [] rfl rfl rfl rfl rfl hl.1 rfl rfl (Nat.le_of_ble_eq_true rfl) dX6_lock_22 (fun H locs hP hD hS => ?_)
      obtain ⟨x108, hg, hf⟩ := o1_s hf
      refine Ct.callS (ws' := wV g v0 u0 u1 u2 u3 k0 k1 k2 k3 h0 h1 h2 h3 s0 s1 s2 s3 c0 c1 c2 p0 r0 t0 t1 t2 t3 z0 f0 ea R N B S C P Q K X fd tl ik) (As := [.int a3, .int (0 : Int32), .int x107]) (rest := []) (st1 := [.int x108]) (c_X6_isWithin l g a3 (0 : Int32) x107 hg) (va_cwS 3 hts gX6_lock_X6_isWithin rfl rfl rfl q_X6_isWithin.2 ⟨Nat.le_of_ble_eq_true rfl, Nat.le_of_ble_eq_true rfl⟩) ⟨hx, hb, hml, hown, hts⟩ hE hP hD hS hA [] rfl rfl rfl rfl rfl hl.1 rfl rfl (Nat.le_of_ble_eq_true rfl) dX6_lock_25 (fun H locs hP hD hS => ?_)
      refine lv_if_ne (tgt := 38) hx hb dX6_lock_28 (by decide) (fun hc => ?_) (fun hc => ?_)
      · have hf := if_f hf hc
        refine lv_aload_n hx hb dX6_lock_38 rfl (lv_at hl 0 rfl) ?_
        refine va_get (D := g.1) (ci := 6) (v := .ref u0) (C := RX6) (T := TX6) (N := 11) hx hb hts i_X6_lock_X6 hown hE.1 hP 0 rfl rfl 0 (by decide) w2 (fun _ h9 => h9) rfl dX6_lock_39 ?_
        refine va_getN (D := g.1) (ci := 1) (v := .int R.2.2.2.2.1) (C := RX1) (T := TX1) (N := 9) hx hb hts i_X6_lock_X1 hown hE.1 hP 1 rfl rfl 4 (by decide) (va_Nw.use rfl (hE.2.1 _ (List.mem_of_getElem? (i := 4) rfl))) (fun _ h9 => h9) rfl dX6_lock_42 ?_
        refine lv_bipush (v := (8 : Int32)) hx hb dX6_lock_45 (by decide) ?_
        refine lv_icmp_lt (tgt := 57) hx hb dX6_lock_47 (by decide) (fun hc => ?_) (fun hc => ?_)
        · have hf := if_t hf hc
          refine lv_aload_n hx hb dX6_lock_57 rfl (lv_at hl 0 rfl) ?_
          refine va_get (D := g.1) (ci := 6) (v := .ref u0) (C := RX6) (T := TX6) (N := 11) hx hb hts i_X6_lock_X6 hown hE.1 hP 0 rfl rfl 0 (by decide) w2 (fun _ h9 => h9) rfl dX6_lock_58 ?_
          refine lv_iload_n hx hb dX6_lock_61 rfl (lv_at hl 1 rfl) ?_
          refine lv_iload_n hx hb dX6_lock_62 rfl (lv_at hl 2 rfl) ?_
          refine lv_iload_n hx hb dX6_lock_63 rfl (lv_at hl 3 rfl) ?_
          obtain ⟨x109, R110, hg, hf⟩ := o2_s hf
          refine Ct.callV (ws' := wV g v0 u0 u1 u2 u3 k0 k1 k2 k3 h0 h1 h2 h3 s0 s1 s2 s3 c0 c1 c2 p0 r0 t0 t1 t2 t3 z0 f0 ea R110 N B S C P Q K X fd tl ik) (As := [.int a1, .int a2, .int a3]) (rest := []) (st1 := [.int x109]) (c_X1_addCondition l g u0 u1 u2 u3 R a1 a2 a3 hg) (cwV 3 hts gX6_lock_X1_addCondition rfl rfl rfl q_X1_addCondition ⟨Nat.le_of_ble_eq_true rfl, Nat.le_of_ble_eq_true rfl⟩) ⟨hx, hb, hml, hown, hts⟩ hE hP hD hS hA [1, 2, 3, 4] rfl rfl rfl rfl 1 1 rfl rfl rfl rfl hl.1 rfl rfl (Nat.le_of_ble_eq_true rfl) dX6_lock_64 (fun H locs hP hD hS => ?_)
          cases hf
          exact Ct.iret hx hb hr hlocks hAe hP hD hS dX6_lock_67
        · have hf := if_f hf hc
          refine lv_aload_n hx hb dX6_lock_50 rfl (lv_at hl 0 rfl) ?_
          refine lv_ldc hx hb hown w3 dX6_lock_51 ?_
          obtain ⟨x111, fd112, hg, hf⟩ := o2_s hf
          refine Ct.callV (ws' := wV g v0 u0 u1 u2 u3 k0 k1 k2 k3 h0 h1 h2 h3 s0 s1 s2 s3 c0 c1 c2 p0 r0 t0 t1 t2 t3 z0 f0 ea R N B S C P Q K X fd112 tl ik) (As := [.int (-1000002 : Int32)]) (rest := []) (st1 := [.int x111]) (c_X6_finding l g v0 u0 u1 u2 u3 k0 k1 k2 k3 h0 h1 h2 h3 s0 s1 s2 s3 c0 c1 c2 p0 r0 t0 t1 t2 t3 z0 f0 ea R N B S C P Q K X fd tl ik (-1000002 : Int32) hg) (cwV 1 hts gX6_lock_X6_finding rfl rfl rfl q_X6_finding ⟨Nat.le_of_ble_eq_true rfl, Nat.le_of_ble_eq_true rfl⟩) ⟨hx, hb, hml, hown, hts⟩ hE hP hD hS hA [0, 1, 2, 3, 4, 5, 6, 7, 8, 9, 10, 11, 12, 13, 14, 15, 16, 17, 18, 19, 20, 21, 22, 23, 24, 25, 26, 27, 28, 29, 30, 31, 32, 33, 34, 35] rfl rfl rfl rfl 6 0 rfl rfl rfl rfl hl.1 rfl rfl (Nat.le_of_ble_eq_true rfl) dX6_lock_53 (fun H locs hP hD hS => ?_)
          cases hf
          exact Ct.iret hx hb hr hlocks hAe hP hD hS dX6_lock_56
      · have hf := if_t hf hc
        refine lv_aload_n hx hb dX6_lock_31 rfl (lv_at hl 0 rfl) ?_
        refine lv_ldc hx hb hown w1 dX6_lock_32 ?_
        obtain ⟨x113, fd114, hg, hf⟩ := o2_s hf
        refine Ct.callV (ws' := wV g v0 u0 u1 u2 u3 k0 k1 k2 k3 h0 h1 h2 h3 s0 s1 s2 s3 c0 c1 c2 p0 r0 t0 t1 t2 t3 z0 f0 ea R N B S C P Q K X fd114 tl ik) (As := [.int (-1000001 : Int32)]) (rest := []) (st1 := [.int x113]) (c_X6_finding l g v0 u0 u1 u2 u3 k0 k1 k2 k3 h0 h1 h2 h3 s0 s1 s2 s3 c0 c1 c2 p0 r0 t0 t1 t2 t3 z0 f0 ea R N B S C P Q K X fd tl ik (-1000001 : Int32) hg) (cwV 1 hts gX6_lock_X6_finding rfl rfl rfl q_X6_finding ⟨Nat.le_of_ble_eq_true rfl, Nat.le_of_ble_eq_true rfl⟩) ⟨hx, hb, hml, hown, hts⟩ hE hP hD hS hA [0, 1, 2, 3, 4, 5, 6, 7, 8, 9, 10, 11, 12, 13, 14, 15, 16, 17, 18, 19, 20, 21, 22, 23, 24, 25, 26, 27, 28, 29, 30, 31, 32, 33, 34, 35] rfl rfl rfl rfl 6 0 rfl rfl rfl rfl hl.1 rfl rfl (Nat.le_of_ble_eq_true rfl) dX6_lock_34 (fun H locs hP hD hS => ?_)
        cases hf
        exact Ct.iret hx hb hr hlocks hAe hP hD hS dX6_lock_37
def fX6_lockOf (R : Rf) (fd : Nat → Int32) (a1 : Int32) (a2 : Int32) : Option (Int32 × (Nat → Int32)) := o1 (fX6_isWithin a1 (0 : Int32) (R.2.2.2.2.1 - (1 : Int32))) (fun x101 => if x101 = 0 then (o2 (fX6_finding fd (-1000001 : Int32)) (fun x102 fd103 => some (x102, fd103))) else (o1 (fX6_isWithin a2 (0 : Int32) (3 : Int32)) (fun x104 => if x104 = 0 then (o2 (fX6_finding fd (-1000001 : Int32)) (fun x107 fd108 => some (x107, fd108))) else (if a2 = (3 : Int32) then (o1 (fX1_holds R a1) (fun x106 => if x106 = 0 then (some ((0 : Int32), fd)) else (some ((1 : Int32), fd)))) else (o1 (fX1_conditionFact R a1 a2) (fun x105 => some (x105, fd)))))))
theorem q_X6_lockOf : yX6_lockOf.cls = RX6 ∧ yX6_lockOf.cls ≠ "java/lang/invoke/MethodHandle" ∧ yX6_lockOf.cls ≠ "java/lang/invoke/VarHandle" ∧ (parseMethodDescriptor yX6_lockOf.desc).map (fun d => d.parameters.length) = some 2 := by decide +kernel
theorem i_X6_lockOf_X6 : ∀ w ∈ u_ws RX6 TX6 11, w ∈ wsX6_lockOf := fun _ h => List.mem_cons_of_mem _ (List.mem_append_left _ (List.mem_append_right _ (h)))
theorem i_X6_lockOf_X1 : ∀ w ∈ u_ws RX1 TX1 9, w ∈ wsX6_lockOf := fun _ h => List.mem_cons_of_mem _ (List.mem_append_right _ (h))
set_option maxHeartbeats 4000000 in
set_option maxRecDepth 100000 in
theorem c_X6_lockOf (l : Launch) (g : gG) (v0 u0 u1 u2 u3 k0 k1 k2 k3 h0 h1 h2 h3 s0 s1 s2 s3 c0 c1 c2 p0 r0 t0 t1 t2 t3 z0 f0 : Nat) (ea : Nat → Nat) (R : Rf) (N : Rf) (B : Rf) (S : Sv) (C : Ca) (P : Nat → Int32) (Q : Tr) (K : Tk) (X : F4) (fd : Nat → Int32) (tl : Int32) (ik : Int32) (a1 : Int32) (a2 : Int32) {r : Int32} {fd' : Nat → Int32} (hf : fX6_lockOf R fd a1 a2 = some (r, fd')) : Ct l yX6_lockOf wsX6_lockOf (rmm 4 91) g (wV g v0 u0 u1 u2 u3 k0 k1 k2 k3 h0 h1 h2 h3 s0 s1 s2 s3 c0 c1 c2 p0 r0 t0 t1 t2 t3 z0 f0 ea R N B S C P Q K X fd tl ik) (wV g v0 u0 u1 u2 u3 k0 k1 k2 k3 h0 h1 h2 h3 s0 s1 s2 s3 c0 c1 c2 p0 r0 t0 t1 t2 t3 z0 f0 ea R N B S C P Q K X (fd') tl ik) [.ref v0, .int a1, .int a2] (some (.int r)) := by
  refine Ct.mk (by decide) rfl (Nat.le_of_ble_eq_true rfl) ?_
  intro p e s m args below meth c A ls hx hb hr hml hts hown hlocks hA hE hP hD hS hl hAe
  have hown : s.vm.findClass RX6 = some m.cls := hown
  have hl : lv_has ls 3 [(0, .ref v0), (1, .int a1), (2, .int a2)] := hl
  have w1 := hts (.fieldLink RX6 10 "RainVault" "roof" "LRainVault$Roof;") (List.mem_of_getElem? (i := 1) rfl)
  have w2 := hts (.constant RX6 73 (-1000001)) (List.mem_of_getElem? (i := 2) rfl)
  unfold fX6_lockOf at hf
  refine lv_iload_n hx hb dX6_lockOf_0 rfl (lv_at hl 1 rfl) ?_
  refine lv_iconst (v := (0 : Int32)) hx hb dX6_lockOf_1 (by decide) ?_
  refine lv_aload_n hx hb dX6_lockOf_2 rfl (lv_at hl 0 rfl) ?_
  refine va_get (D := g.1) (ci := 6) (v := .ref u0) (C := RX6) (T := TX6) (N := 11) hx hb hts i_X6_lockOf_X6 hown hE.1 hP 0 rfl rfl 0 (by decide) w1 (fun _ h9 => h9) rfl dX6_lockOf_3 ?_
  refine va_getN (D := g.1) (ci := 1) (v := .int R.2.2.2.2.1) (C := RX1) (T := TX1) (N := 9) hx hb hts i_X6_lockOf_X1 hown hE.1 hP 1 rfl rfl 4 (by decide) (va_Nw.use rfl (hE.2.1 _ (List.mem_of_getElem? (i := 4) rfl))) (fun _ h9 => h9) rfl dX6_lockOf_6 ?_
  refine lv_iconst (v := (1 : Int32)) hx hb dX6_lockOf_9 (by decide) ?_
  refine lv_isub hx hb dX6_lockOf_10 ?_
  obtain ⟨x101, hg, hf⟩ := o1_s hf
  refine Ct.callS (ws' := wV g v0 u0 u1 u2 u3 k0 k1 k2 k3 h0 h1 h2 h3 s0 s1 s2 s3 c0 c1 c2 p0 r0 t0 t1 t2 t3 z0 f0 ea R N B S C P Q K X fd tl ik) (As := [.int a1, .int (0 : Int32), .int (R.2.2.2.2.1 - (1 : Int32))]) (rest := []) (st1 := [.int x101]) (c_X6_isWithin l g a1 (0 : Int32) (R.2.2.2.2.1 - (1 : Int32)) hg) (va_cwS 3 hts gX6_lockOf_X6_isWithin rfl rfl rfl q_X6_isWithin.2 ⟨Nat.le_of_ble_eq_true rfl, Nat.le_of_ble_eq_true rfl⟩) ⟨hx, hb, hml, hown, hts⟩ hE hP hD hS hA [] rfl rfl rfl rfl rfl hl.1 rfl rfl (Nat.le_of_ble_eq_true rfl) dX6_lockOf_11 (fun H locs hP hD hS => ?_)
  refine lv_if_eq (tgt := 26) hx hb dX6_lockOf_14 (by decide) (fun hc => ?_) (fun hc => ?_)
  · have hf := if_t hf hc
    refine lv_aload_n hx hb dX6_lockOf_26 rfl (lv_at hl 0 rfl) ?_
    refine lv_ldc hx hb hown w2 dX6_lockOf_27 ?_
    obtain ⟨x102, fd103, hg, hf⟩ := o2_s hf
    refine Ct.callV (ws' := wV g v0 u0 u1 u2 u3 k0 k1 k2 k3 h0 h1 h2 h3 s0 s1 s2 s3 c0 c1 c2 p0 r0 t0 t1 t2 t3 z0 f0 ea R N B S C P Q K X fd103 tl ik) (As := [.int (-1000001 : Int32)]) (rest := []) (st1 := [.int x102]) (c_X6_finding l g v0 u0 u1 u2 u3 k0 k1 k2 k3 h0 h1 h2 h3 s0 s1 s2 s3 c0 c1 c2 p0 r0 t0 t1 t2 t3 z0 f0 ea R N B S C P Q K X fd tl ik (-1000001 : Int32) hg) (cwV 1 hts gX6_lockOf_X6_finding rfl rfl rfl q_X6_finding ⟨Nat.le_of_ble_eq_true rfl, Nat.le_of_ble_eq_true rfl⟩) ⟨hx, hb, hml, hown, hts⟩ hE hP hD hS hA [0, 1, 2, 3, 4, 5, 6, 7, 8, 9, 10, 11, 12, 13, 14, 15, 16, 17, 18, 19, 20, 21, 22, 23, 24, 25, 26, 27, 28, 29, 30, 31, 32, 33, 34, 35] rfl rfl rfl rfl 6 0 rfl rfl rfl rfl hl.1 rfl rfl (Nat.le_of_ble_eq_true rfl) dX6_lockOf_29 (fun H locs hP hD hS => ?_)
    cases hf
    exact Ct.iret hx hb hr hlocks hAe hP hD hS dX6_lockOf_32
  · have hf := if_f hf hc
    refine lv_iload_n hx hb dX6_lockOf_17 rfl (lv_at hl 2 rfl) ?_
    refine lv_iconst (v := (0 : Int32)) hx hb dX6_lockOf_18 (by decide) ?_
    refine lv_iconst (v := (3 : Int32)) hx hb dX6_lockOf_19 (by decide) ?_
    obtain ⟨x104, hg, hf⟩ := o1_s hf
    refine Ct.callS (ws' := wV g v0 u0 u1 u2 u3 k0 k1 k2 k3 h0 h1 h2 h3 s0 s1 s2 s3 c0 c1 c2 p0 r0 t0 t1 t2 t3 z0 f0 ea R N B S C P Q K X fd tl ik) (As := [.int a2, .int (0 : Int32), .int (3 : Int32)]) (rest := []) (st1 := [.int x104]) (c_X6_isWithin l g a2 (0 : Int32) (3 : Int32) hg) (va_cwS 3 hts gX6_lockOf_X6_isWithin rfl rfl rfl q_X6_isWithin.2 ⟨Nat.le_of_ble_eq_true rfl, Nat.le_of_ble_eq_true rfl⟩) ⟨hx, hb, hml, hown, hts⟩ hE hP hD hS hA [] rfl rfl rfl rfl rfl hl.1 rfl rfl (Nat.le_of_ble_eq_true rfl) dX6_lockOf_20 (fun H locs hP hD hS => ?_)
    refine lv_if_ne (tgt := 33) hx hb dX6_lockOf_23 (by decide) (fun hc => ?_) (fun hc => ?_)
    · have hf := if_f hf hc
      refine lv_iload_n hx hb dX6_lockOf_33 rfl (lv_at hl 2 rfl) ?_
      refine lv_iconst (v := (3 : Int32)) hx hb dX6_lockOf_34 (by decide) ?_
      refine lv_icmp_ne (tgt := 55) hx hb dX6_lockOf_35 (by decide) (fun hc => ?_) (fun hc => ?_)
      · have hf := if_f hf hc
        refine lv_aload_n hx hb dX6_lockOf_55 rfl (lv_at hl 0 rfl) ?_
        refine va_get (D := g.1) (ci := 6) (v := .ref u0) (C := RX6) (T := TX6) (N := 11) hx hb hts i_X6_lockOf_X6 hown hE.1 hP 0 rfl rfl 0 (by decide) w1 (fun _ h9 => h9) rfl dX6_lockOf_56 ?_
        refine lv_iload_n hx hb dX6_lockOf_59 rfl (lv_at hl 1 rfl) ?_
        refine lv_iload_n hx hb dX6_lockOf_60 rfl (lv_at hl 2 rfl) ?_
        obtain ⟨x105, hg, hf⟩ := o1_s hf
        refine Ct.callV (ws' := wV g v0 u0 u1 u2 u3 k0 k1 k2 k3 h0 h1 h2 h3 s0 s1 s2 s3 c0 c1 c2 p0 r0 t0 t1 t2 t3 z0 f0 ea R N B S C P Q K X fd tl ik) (As := [.int a1, .int a2]) (rest := []) (st1 := [.int x105]) (c_X1_conditionFact l g u0 u1 u2 u3 R a1 a2 hg) (cwV 2 hts gX6_lockOf_X1_conditionFact rfl rfl rfl q_X1_conditionFact ⟨Nat.le_of_ble_eq_true rfl, Nat.le_of_ble_eq_true rfl⟩) ⟨hx, hb, hml, hown, hts⟩ hE hP hD hS hA [1, 2, 3, 4] rfl rfl rfl rfl 1 1 rfl rfl rfl rfl hl.1 rfl rfl (Nat.le_of_ble_eq_true rfl) dX6_lockOf_61 (fun H locs hP hD hS => ?_)
        cases hf
        exact Ct.iret hx hb hr hlocks hAe hP hD hS dX6_lockOf_64
      · have hf := if_t hf hc
        refine lv_aload_n hx hb dX6_lockOf_38 rfl (lv_at hl 0 rfl) ?_
        refine va_get (D := g.1) (ci := 6) (v := .ref u0) (C := RX6) (T := TX6) (N := 11) hx hb hts i_X6_lockOf_X6 hown hE.1 hP 0 rfl rfl 0 (by decide) w1 (fun _ h9 => h9) rfl dX6_lockOf_39 ?_
        refine lv_iload_n hx hb dX6_lockOf_42 rfl (lv_at hl 1 rfl) ?_
        obtain ⟨x106, hg, hf⟩ := o1_s hf
        refine Ct.callV (ws' := wV g v0 u0 u1 u2 u3 k0 k1 k2 k3 h0 h1 h2 h3 s0 s1 s2 s3 c0 c1 c2 p0 r0 t0 t1 t2 t3 z0 f0 ea R N B S C P Q K X fd tl ik) (As := [.int a1]) (rest := []) (st1 := [.int x106]) (c_X1_holds l g u0 u1 u2 u3 R a1 hg) (cwV 1 hts gX6_lockOf_X1_holds rfl rfl rfl q_X1_holds ⟨Nat.le_of_ble_eq_true rfl, Nat.le_of_ble_eq_true rfl⟩) ⟨hx, hb, hml, hown, hts⟩ hE hP hD hS hA [1, 2, 3, 4] rfl rfl rfl rfl 1 1 rfl rfl rfl rfl hl.1 rfl rfl (Nat.le_of_ble_eq_true rfl) dX6_lockOf_43 (fun H locs hP hD hS => ?_)
        refine lv_if_eq (tgt := 53) hx hb dX6_lockOf_46 (by decide) (fun hc => ?_) (fun hc => ?_)
        · have hf := if_t hf hc
          refine lv_iconst (v := (0 : Int32)) hx hb dX6_lockOf_53 (by decide) ?_
          cases hf
          exact Ct.iret hx hb hr hlocks hAe hP hD hS dX6_lockOf_54
        · have hf := if_f hf hc
          refine lv_iconst (v := (1 : Int32)) hx hb dX6_lockOf_49 (by decide) ?_
          refine lv_goto (tgt := 54) hx hb dX6_lockOf_50 (by decide) ?_
          cases hf
          exact Ct.iret hx hb hr hlocks hAe hP hD hS dX6_lockOf_54
    · have hf := if_t hf hc
      refine lv_aload_n hx hb dX6_lockOf_26 rfl (lv_at hl 0 rfl) ?_
      refine lv_ldc hx hb hown w2 dX6_lockOf_27 ?_
      obtain ⟨x107, fd108, hg, hf⟩ := o2_s hf
      refine Ct.callV (ws' := wV g v0 u0 u1 u2 u3 k0 k1 k2 k3 h0 h1 h2 h3 s0 s1 s2 s3 c0 c1 c2 p0 r0 t0 t1 t2 t3 z0 f0 ea R N B S C P Q K X fd108 tl ik) (As := [.int (-1000001 : Int32)]) (rest := []) (st1 := [.int x107]) (c_X6_finding l g v0 u0 u1 u2 u3 k0 k1 k2 k3 h0 h1 h2 h3 s0 s1 s2 s3 c0 c1 c2 p0 r0 t0 t1 t2 t3 z0 f0 ea R N B S C P Q K X fd tl ik (-1000001 : Int32) hg) (cwV 1 hts gX6_lockOf_X6_finding rfl rfl rfl q_X6_finding ⟨Nat.le_of_ble_eq_true rfl, Nat.le_of_ble_eq_true rfl⟩) ⟨hx, hb, hml, hown, hts⟩ hE hP hD hS hA [0, 1, 2, 3, 4, 5, 6, 7, 8, 9, 10, 11, 12, 13, 14, 15, 16, 17, 18, 19, 20, 21, 22, 23, 24, 25, 26, 27, 28, 29, 30, 31, 32, 33, 34, 35] rfl rfl rfl rfl 6 0 rfl rfl rfl rfl hl.1 rfl rfl (Nat.le_of_ble_eq_true rfl) dX6_lockOf_29 (fun H locs hP hD hS => ?_)
      cases hf
      exact Ct.iret hx hb hr hlocks hAe hP hD hS dX6_lockOf_32
def fX6_pick (R : Rf) (fd : Nat → Int32) (a1 : Int32) : Option (Int32 × Rf × (Nat → Int32)) := o1 (fX6_isWithin a1 (0 : Int32) (R.2.2.2.2.1 - (1 : Int32))) (fun x101 => if x101 = 0 then (o2 (fX6_finding fd (-1000001 : Int32)) (fun x103 fd104 => some (x103, R, fd104))) else (o1 (fX1_removeCondition R a1) (fun R102 => some (R102.2.2.2.2.1, R102, fd))))
theorem q_X6_pick : yX6_pick.cls = RX6 ∧ yX6_pick.cls ≠ "java/lang/invoke/MethodHandle" ∧ yX6_pick.cls ≠ "java/lang/invoke/VarHandle" ∧ (parseMethodDescriptor yX6_pick.desc).map (fun d => d.parameters.length) = some 1 := by decide +kernel
theorem i_X6_pick_X6 : ∀ w ∈ u_ws RX6 TX6 11, w ∈ wsX6_pick := fun _ h => List.mem_cons_of_mem _ (List.mem_append_left _ (List.mem_append_right _ (h)))
theorem i_X6_pick_X1 : ∀ w ∈ u_ws RX1 TX1 9, w ∈ wsX6_pick := fun _ h => List.mem_cons_of_mem _ (List.mem_append_right _ (h))
set_option maxHeartbeats 4000000 in
set_option maxRecDepth 100000 in
theorem c_X6_pick (l : Launch) (g : gG) (v0 u0 u1 u2 u3 k0 k1 k2 k3 h0 h1 h2 h3 s0 s1 s2 s3 c0 c1 c2 p0 r0 t0 t1 t2 t3 z0 f0 : Nat) (ea : Nat → Nat) (R : Rf) (N : Rf) (B : Rf) (S : Sv) (C : Ca) (P : Nat → Int32) (Q : Tr) (K : Tk) (X : F4) (fd : Nat → Int32) (tl : Int32) (ik : Int32) (a1 : Int32) {r : Int32} {R' : Rf} {fd' : Nat → Int32} (hf : fX6_pick R fd a1 = some (r, R', fd')) : Ct l yX6_pick wsX6_pick (rmm 3 68) g (wV g v0 u0 u1 u2 u3 k0 k1 k2 k3 h0 h1 h2 h3 s0 s1 s2 s3 c0 c1 c2 p0 r0 t0 t1 t2 t3 z0 f0 ea R N B S C P Q K X fd tl ik) (wV g v0 u0 u1 u2 u3 k0 k1 k2 k3 h0 h1 h2 h3 s0 s1 s2 s3 c0 c1 c2 p0 r0 t0 t1 t2 t3 z0 f0 ea (R') N B S C P Q K X (fd') tl ik) [.ref v0, .int a1] (some (.int r)) := by
  refine Ct.mk (by decide) rfl (Nat.le_of_ble_eq_true rfl) ?_
  intro p e s m args below meth c A ls hx hb hr hml hts hown hlocks hA hE hP hD hS hl hAe
  have hown : s.vm.findClass RX6 = some m.cls := hown
  have hl : lv_has ls 2 [(0, .ref v0), (1, .int a1)] := hl
  have w1 := hts (.fieldLink RX6 10 "RainVault" "roof" "LRainVault$Roof;") (List.mem_of_getElem? (i := 1) rfl)
  have w2 := hts (.constant RX6 73 (-1000001)) (List.mem_of_getElem? (i := 2) rfl)
  unfold fX6_pick at hf
  refine lv_iload_n hx hb dX6_pick_0 rfl (lv_at hl 1 rfl) ?_
  refine lv_iconst (v := (0 : Int32)) hx hb dX6_pick_1 (by decide) ?_
  refine lv_aload_n hx hb dX6_pick_2 rfl (lv_at hl 0 rfl) ?_
  refine va_get (D := g.1) (ci := 6) (v := .ref u0) (C := RX6) (T := TX6) (N := 11) hx hb hts i_X6_pick_X6 hown hE.1 hP 0 rfl rfl 0 (by decide) w1 (fun _ h9 => h9) rfl dX6_pick_3 ?_
  refine va_getN (D := g.1) (ci := 1) (v := .int R.2.2.2.2.1) (C := RX1) (T := TX1) (N := 9) hx hb hts i_X6_pick_X1 hown hE.1 hP 1 rfl rfl 4 (by decide) (va_Nw.use rfl (hE.2.1 _ (List.mem_of_getElem? (i := 4) rfl))) (fun _ h9 => h9) rfl dX6_pick_6 ?_
  refine lv_iconst (v := (1 : Int32)) hx hb dX6_pick_9 (by decide) ?_
  refine lv_isub hx hb dX6_pick_10 ?_
  obtain ⟨x101, hg, hf⟩ := o1_s hf
  refine Ct.callS (ws' := wV g v0 u0 u1 u2 u3 k0 k1 k2 k3 h0 h1 h2 h3 s0 s1 s2 s3 c0 c1 c2 p0 r0 t0 t1 t2 t3 z0 f0 ea R N B S C P Q K X fd tl ik) (As := [.int a1, .int (0 : Int32), .int (R.2.2.2.2.1 - (1 : Int32))]) (rest := []) (st1 := [.int x101]) (c_X6_isWithin l g a1 (0 : Int32) (R.2.2.2.2.1 - (1 : Int32)) hg) (va_cwS 3 hts gX6_pick_X6_isWithin rfl rfl rfl q_X6_isWithin.2 ⟨Nat.le_of_ble_eq_true rfl, Nat.le_of_ble_eq_true rfl⟩) ⟨hx, hb, hml, hown, hts⟩ hE hP hD hS hA [] rfl rfl rfl rfl rfl hl.1 rfl rfl (Nat.le_of_ble_eq_true rfl) dX6_pick_11 (fun H locs hP hD hS => ?_)
  refine lv_if_ne (tgt := 24) hx hb dX6_pick_14 (by decide) (fun hc => ?_) (fun hc => ?_)
  · have hf := if_f hf hc
    refine lv_aload_n hx hb dX6_pick_24 rfl (lv_at hl 0 rfl) ?_
    refine va_get (D := g.1) (ci := 6) (v := .ref u0) (C := RX6) (T := TX6) (N := 11) hx hb hts i_X6_pick_X6 hown hE.1 hP 0 rfl rfl 0 (by decide) w1 (fun _ h9 => h9) rfl dX6_pick_25 ?_
    refine lv_iload_n hx hb dX6_pick_28 rfl (lv_at hl 1 rfl) ?_
    obtain ⟨R102, hg, hf⟩ := o1_s hf
    refine Ct.callV (ws' := wV g v0 u0 u1 u2 u3 k0 k1 k2 k3 h0 h1 h2 h3 s0 s1 s2 s3 c0 c1 c2 p0 r0 t0 t1 t2 t3 z0 f0 ea R102 N B S C P Q K X fd tl ik) (As := [.int a1]) (rest := []) (st1 := []) (c_X1_removeCondition l g u0 u1 u2 u3 R a1 hg) (cwV 1 hts gX6_pick_X1_removeCondition rfl rfl rfl q_X1_removeCondition ⟨Nat.le_of_ble_eq_true rfl, Nat.le_of_ble_eq_true rfl⟩) ⟨hx, hb, hml, hown, hts⟩ hE hP hD hS hA [1, 2, 3, 4] rfl rfl rfl rfl 1 1 rfl rfl rfl rfl hl.1 rfl rfl (Nat.le_of_ble_eq_true rfl) dX6_pick_29 (fun H locs hP hD hS => ?_)
    refine lv_aload_n hx hb dX6_pick_32 rfl (lv_at hl 0 rfl) ?_
    refine va_get (D := g.1) (ci := 6) (v := .ref u0) (C := RX6) (T := TX6) (N := 11) hx hb hts i_X6_pick_X6 hown hE.1 hP 0 rfl rfl 0 (by decide) w1 (fun _ h9 => h9) rfl dX6_pick_33 ?_
    refine va_getN (D := g.1) (ci := 1) (v := .int R102.2.2.2.2.1) (C := RX1) (T := TX1) (N := 9) hx hb hts i_X6_pick_X1 hown hE.1 hP 1 rfl rfl 4 (by decide) (va_Nw.use rfl (hE.2.1 _ (List.mem_of_getElem? (i := 4) rfl))) (fun _ h9 => h9) rfl dX6_pick_36 ?_
    cases hf
    exact Ct.iret hx hb hr hlocks hAe hP hD hS dX6_pick_39
  · have hf := if_t hf hc
    refine lv_aload_n hx hb dX6_pick_17 rfl (lv_at hl 0 rfl) ?_
    refine lv_ldc hx hb hown w2 dX6_pick_18 ?_
    obtain ⟨x103, fd104, hg, hf⟩ := o2_s hf
    refine Ct.callV (ws' := wV g v0 u0 u1 u2 u3 k0 k1 k2 k3 h0 h1 h2 h3 s0 s1 s2 s3 c0 c1 c2 p0 r0 t0 t1 t2 t3 z0 f0 ea R N B S C P Q K X fd104 tl ik) (As := [.int (-1000001 : Int32)]) (rest := []) (st1 := [.int x103]) (c_X6_finding l g v0 u0 u1 u2 u3 k0 k1 k2 k3 h0 h1 h2 h3 s0 s1 s2 s3 c0 c1 c2 p0 r0 t0 t1 t2 t3 z0 f0 ea R N B S C P Q K X fd tl ik (-1000001 : Int32) hg) (cwV 1 hts gX6_pick_X6_finding rfl rfl rfl q_X6_finding ⟨Nat.le_of_ble_eq_true rfl, Nat.le_of_ble_eq_true rfl⟩) ⟨hx, hb, hml, hown, hts⟩ hE hP hD hS hA [0, 1, 2, 3, 4, 5, 6, 7, 8, 9, 10, 11, 12, 13, 14, 15, 16, 17, 18, 19, 20, 21, 22, 23, 24, 25, 26, 27, 28, 29, 30, 31, 32, 33, 34, 35] rfl rfl rfl rfl 6 0 rfl rfl rfl rfl hl.1 rfl rfl (Nat.le_of_ble_eq_true rfl) dX6_pick_20 (fun H locs hP hD hS => ?_)
    cases hf
    exact Ct.iret hx hb hr hlocks hAe hP hD hS dX6_pick_23
def fX6_holding_L4 (R : Rf) (kx : Int32 → Option (Int32)) : Nat → Int32 → Int32 → Option (Int32)
  | 0, _, _ => none
  | k + 1, x1, x2 => if R.2.2.2.2.1 ≤ x2 then (kx x1) else (o1 (fX1_holds R x2) (fun x102 => if x102 = 0 then (fX6_holding_L4 R kx k x1 (x2 + (1 : Int32))) else (fX6_holding_L4 R kx k (x1 ||| ((1 : Int32) <<< (x2 &&& 31))) (x2 + (1 : Int32)))))
def fX6_holding (R : Rf) : Option (Int32) := fX6_holding_L4 R (fun x103 => some x103) fu (0 : Int32) (0 : Int32)
theorem q_X6_holding : yX6_holding.cls = RX6 ∧ yX6_holding.cls ≠ "java/lang/invoke/MethodHandle" ∧ yX6_holding.cls ≠ "java/lang/invoke/VarHandle" ∧ (parseMethodDescriptor yX6_holding.desc).map (fun d => d.parameters.length) = some 0 := by decide +kernel
theorem i_X6_holding_X6 : ∀ w ∈ u_ws RX6 TX6 11, w ∈ wsX6_holding := fun _ h => List.mem_cons_of_mem _ (List.mem_append_left _ (List.mem_append_right _ (h)))
theorem i_X6_holding_X1 : ∀ w ∈ u_ws RX1 TX1 9, w ∈ wsX6_holding := fun _ h => List.mem_cons_of_mem _ (List.mem_append_right _ (h))
set_option maxHeartbeats 4000000 in
set_option maxRecDepth 100000 in
theorem c_X6_holding (l : Launch) (g : gG) (v0 u0 u1 u2 u3 k0 k1 k2 k3 h0 h1 h2 h3 s0 s1 s2 s3 c0 c1 c2 p0 r0 t0 t1 t2 t3 z0 f0 : Nat) (ea : Nat → Nat) (R : Rf) (N : Rf) (B : Rf) (S : Sv) (C : Ca) (P : Nat → Int32) (Q : Tr) (K : Tk) (X : F4) (fd : Nat → Int32) (tl : Int32) (ik : Int32) {r : Int32} (hf : fX6_holding R = some r) : Ct l yX6_holding wsX6_holding (rmm 4 91) g (wV g v0 u0 u1 u2 u3 k0 k1 k2 k3 h0 h1 h2 h3 s0 s1 s2 s3 c0 c1 c2 p0 r0 t0 t1 t2 t3 z0 f0 ea R N B S C P Q K X fd tl ik) (wV g v0 u0 u1 u2 u3 k0 k1 k2 k3 h0 h1 h2 h3 s0 s1 s2 s3 c0 c1 c2 p0 r0 t0 t1 t2 t3 z0 f0 ea R N B S C P Q K X fd tl ik) [.ref v0] (some (.int r)) := by
  refine Ct.mk (by decide) rfl (Nat.le_of_ble_eq_true rfl) ?_
  intro p e s m args below meth c A ls hx hb hr hml hts hown hlocks hA hE hP hD hS hl hAe
  have hown : s.vm.findClass RX6 = some m.cls := hown
  have hl : lv_has ls 3 [(0, .ref v0)] := hl
  have w1 := hts (.fieldLink RX6 10 "RainVault" "roof" "LRainVault$Roof;") (List.mem_of_getElem? (i := 1) rfl)
  have L4 : ∀ (kx : Int32 → Option (Int32)) (k : Nat) (x1 : Int32) (x2 : Int32) (H : Heap) (locs : List Loc) (ls : Array Slot), fX6_holding_L4 R kx k x1 x2 = some r → va_P g.1 vwK (wV g v0 u0 u1 u2 u3 k0 k1 k2 k3 h0 h1 h2 h3 s0 s1 s2 s3 c0 c1 c2 p0 r0 t0 t1 t2 t3 z0 f0 ea R N B S C P Q K X fd tl ik) H → va_D A (wV g v0 u0 u1 u2 u3 k0 k1 k2 k3 h0 h1 h2 h3 s0 s1 s2 s3 c0 c1 c2 p0 r0 t0 t1 t2 t3 z0 f0 ea R N B S C P Q K X fd tl ik) → va_S A s.heap H locs → lv_has ls 3 [(0, .ref v0), (1, .int x1), (2, .int x2)] → (∀ (x1 : Int32) (H : Heap) (locs : List Loc) (ls : Array Slot), kx x1 = some r → va_P g.1 vwK (wV g v0 u0 u1 u2 u3 k0 k1 k2 k3 h0 h1 h2 h3 s0 s1 s2 s3 c0 c1 c2 p0 r0 t0 t1 t2 t3 z0 f0 ea R N B S C P Q K X fd tl ik) H → va_D A (wV g v0 u0 u1 u2 u3 k0 k1 k2 k3 h0 h1 h2 h3 s0 s1 s2 s3 c0 c1 c2 p0 r0 t0 t1 t2 t3 z0 f0 ea R N B S C P Q K X fd tl ik) → va_S A s.heap H locs → lv_has ls 3 [(1, .int x1)] → W p l e (rmm 4 91) s m args below meth c H locs 0 0 (MQ below (QcG g (wV g v0 u0 u1 u2 u3 k0 k1 k2 k3 h0 h1 h2 h3 s0 s1 s2 s3 c0 c1 c2 p0 r0 t0 t1 t2 t3 z0 f0 ea R N B S C P Q K X fd tl ik) (wV g v0 u0 u1 u2 u3 k0 k1 k2 k3 h0 h1 h2 h3 s0 s1 s2 s3 c0 c1 c2 p0 r0 t0 t1 t2 t3 z0 f0 ea R N B S C P Q K X fd tl ik) (some (.int r)) s.heap.size) args s 0 0 A) (F0 m 38 ls [])) → W p l e (rmm 4 91) s m args below meth c H locs 0 0 (MQ below (QcG g (wV g v0 u0 u1 u2 u3 k0 k1 k2 k3 h0 h1 h2 h3 s0 s1 s2 s3 c0 c1 c2 p0 r0 t0 t1 t2 t3 z0 f0 ea R N B S C P Q K X fd tl ik) (wV g v0 u0 u1 u2 u3 k0 k1 k2 k3 h0 h1 h2 h3 s0 s1 s2 s3 c0 c1 c2 p0 r0 t0 t1 t2 t3 z0 f0 ea R N B S C P Q K X fd tl ik) (some (.int r)) s.heap.size) args s 0 0 A) (F0 m 4 ls []) := by
    intro kx k
    induction k with
    | zero => intro x1 x2 H locs ls hf; exact nomatch (show (none : Option (Int32)) = some _ from hf)
    | succ k ih =>
      intro x1 x2 H locs ls hf hP hD hS hl hk
      rw [fX6_holding_L4] at hf
      refine lv_iload_n hx hb dX6_holding_4 rfl (lv_at hl 2 rfl) ?_
      refine lv_aload_n hx hb dX6_holding_5 rfl (lv_at hl 0 rfl) ?_
      refine va_get (D := g.1) (ci := 6) (v := .ref u0) (C := RX6) (T := TX6) (N := 11) hx hb hts i_X6_holding_X6 hown hE.1 hP 0 rfl rfl 0 (by decide) w1 (fun _ h9 => h9) rfl dX6_holding_6 ?_
      refine va_getN (D := g.1) (ci := 1) (v := .int R.2.2.2.2.1) (C := RX1) (T := TX1) (N := 9) hx hb hts i_X6_holding_X1 hown hE.1 hP 1 rfl rfl 4 (by decide) (va_Nw.use rfl (hE.2.1 _ (List.mem_of_getElem? (i := 4) rfl))) (fun _ h9 => h9) rfl dX6_holding_9 ?_
      refine lv_icmp_ge (tgt := 38) hx hb dX6_holding_12 (by decide) (fun hc => ?_) (fun hc => ?_)
      · have hf := if_t hf hc
        exact hk _ _ _ _  hf hP hD hS (lv_sub hl [1] rfl)
      · have hf := if_f hf hc
        refine lv_aload_n hx hb dX6_holding_15 rfl (lv_at hl 0 rfl) ?_
        refine va_get (D := g.1) (ci := 6) (v := .ref u0) (C := RX6) (T := TX6) (N := 11) hx hb hts i_X6_holding_X6 hown hE.1 hP 0 rfl rfl 0 (by decide) w1 (fun _ h9 => h9) rfl dX6_holding_16 ?_
        refine lv_iload_n hx hb dX6_holding_19 rfl (lv_at hl 2 rfl) ?_
        obtain ⟨x102, hg, hf⟩ := o1_s hf
        refine Ct.callV (ws' := wV g v0 u0 u1 u2 u3 k0 k1 k2 k3 h0 h1 h2 h3 s0 s1 s2 s3 c0 c1 c2 p0 r0 t0 t1 t2 t3 z0 f0 ea R N B S C P Q K X fd tl ik) (As := [.int x2]) (rest := []) (st1 := [.int x102]) (c_X1_holds l g u0 u1 u2 u3 R x2 hg) (cwV 1 hts gX6_holding_X1_holds rfl rfl rfl q_X1_holds ⟨Nat.le_of_ble_eq_true rfl, Nat.le_of_ble_eq_true rfl⟩) ⟨hx, hb, hml, hown, hts⟩ hE hP hD hS hA [1, 2, 3, 4] rfl rfl rfl rfl 1 1 rfl rfl rfl rfl hl.1 rfl rfl (Nat.le_of_ble_eq_true rfl) dX6_holding_20 (fun H locs hP hD hS => ?_)
        refine lv_if_eq (tgt := 32) hx hb dX6_holding_23 (by decide) (fun hc => ?_) (fun hc => ?_)
        · have hf := if_t hf hc
          refine lv_iinc (v := (x2 + (1 : Int32))) (lv' := [(2, .int (x2 + (1 : Int32))), (0, .ref v0), (1, .int x1)]) hx hb dX6_holding_32 hl (k := 2) rfl rfl (by decide) rfl (fun ls hl => ?_)
          refine lv_goto (tgt := 4) hx hb dX6_holding_35 (by decide) ?_
          exact ih _ _ _ _ _  hf hP hD hS (lv_sub hl [1, 2, 0] rfl) hk
        · have hf := if_f hf hc
          refine lv_iload_n hx hb dX6_holding_26 rfl (lv_at hl 1 rfl) ?_
          refine lv_iconst (v := (1 : Int32)) hx hb dX6_holding_27 (by decide) ?_
          refine lv_iload_n hx hb dX6_holding_28 rfl (lv_at hl 2 rfl) ?_
          refine lv_ishl hx hb dX6_holding_29 ?_
          refine lv_ior hx hb dX6_holding_30 ?_
          refine lv_istore_n (lv' := [(1, .int (x1 ||| ((1 : Int32) <<< (x2 &&& 31)))), (0, .ref v0), (2, .int x2)]) hx hb dX6_holding_31 rfl hl (by decide) rfl (fun ls hl => ?_)
          refine lv_iinc (v := (x2 + (1 : Int32))) (lv' := [(2, .int (x2 + (1 : Int32))), (1, .int (x1 ||| ((1 : Int32) <<< (x2 &&& 31)))), (0, .ref v0)]) hx hb dX6_holding_32 hl (k := 2) rfl rfl (by decide) rfl (fun ls hl => ?_)
          refine lv_goto (tgt := 4) hx hb dX6_holding_35 (by decide) ?_
          exact ih _ _ _ _ _  hf hP hD hS (lv_sub hl [2, 1, 0] rfl) hk
  unfold fX6_holding at hf
  refine lv_iconst (v := (0 : Int32)) hx hb dX6_holding_0 (by decide) ?_
  refine lv_istore_n (lv' := [(1, .int (0 : Int32)), (0, .ref v0)]) hx hb dX6_holding_1 rfl hl (by decide) rfl (fun ls hl => ?_)
  refine lv_iconst (v := (0 : Int32)) hx hb dX6_holding_2 (by decide) ?_
  refine lv_istore_n (lv' := [(2, .int (0 : Int32)), (1, .int (0 : Int32)), (0, .ref v0)]) hx hb dX6_holding_3 rfl hl (by decide) rfl (fun ls hl => ?_)
  refine L4 _ _ _ _ _ _ _  hf hP hD hS (lv_sub hl [2, 1, 0] rfl) (fun x103 H locs ls hf hP hD hS hl => ?_)
  refine lv_iload_n hx hb dX6_holding_38 rfl (lv_at hl 0 rfl) ?_
  cases hf
  exact Ct.iret hx hb hr hlocks hAe hP hD hS dX6_holding_39
def fX6_open (R : Rf) : Option (Int32) := o1 (fX1_isOpen R) (fun x101 => if x101 = 0 then (some (0 : Int32)) else (some (1 : Int32)))
theorem q_X6_open : yX6_open.cls = RX6 ∧ yX6_open.cls ≠ "java/lang/invoke/MethodHandle" ∧ yX6_open.cls ≠ "java/lang/invoke/VarHandle" ∧ (parseMethodDescriptor yX6_open.desc).map (fun d => d.parameters.length) = some 0 := by decide +kernel
theorem i_X6_open_X6 : ∀ w ∈ u_ws RX6 TX6 11, w ∈ wsX6_open := fun _ h => List.mem_cons_of_mem _ (List.mem_append_left _ (List.mem_append_right _ (h)))
set_option maxHeartbeats 4000000 in
set_option maxRecDepth 100000 in
theorem c_X6_open (l : Launch) (g : gG) (v0 u0 u1 u2 u3 k0 k1 k2 k3 h0 h1 h2 h3 s0 s1 s2 s3 c0 c1 c2 p0 r0 t0 t1 t2 t3 z0 f0 : Nat) (ea : Nat → Nat) (R : Rf) (N : Rf) (B : Rf) (S : Sv) (C : Ca) (P : Nat → Int32) (Q : Tr) (K : Tk) (X : F4) (fd : Nat → Int32) (tl : Int32) (ik : Int32) {r : Int32} (hf : fX6_open R = some r) : Ct l yX6_open wsX6_open (rmm 5 112) g (wV g v0 u0 u1 u2 u3 k0 k1 k2 k3 h0 h1 h2 h3 s0 s1 s2 s3 c0 c1 c2 p0 r0 t0 t1 t2 t3 z0 f0 ea R N B S C P Q K X fd tl ik) (wV g v0 u0 u1 u2 u3 k0 k1 k2 k3 h0 h1 h2 h3 s0 s1 s2 s3 c0 c1 c2 p0 r0 t0 t1 t2 t3 z0 f0 ea R N B S C P Q K X fd tl ik) [.ref v0] (some (.int r)) := by
  refine Ct.mk (by decide) rfl (Nat.le_of_ble_eq_true rfl) ?_
  intro p e s m args below meth c A ls hx hb hr hml hts hown hlocks hA hE hP hD hS hl hAe
  have hown : s.vm.findClass RX6 = some m.cls := hown
  have hl : lv_has ls 1 [(0, .ref v0)] := hl
  have w1 := hts (.fieldLink RX6 10 "RainVault" "roof" "LRainVault$Roof;") (List.mem_of_getElem? (i := 1) rfl)
  unfold fX6_open at hf
  refine lv_aload_n hx hb dX6_open_0 rfl (lv_at hl 0 rfl) ?_
  refine va_get (D := g.1) (ci := 6) (v := .ref u0) (C := RX6) (T := TX6) (N := 11) hx hb hts i_X6_open_X6 hown hE.1 hP 0 rfl rfl 0 (by decide) w1 (fun _ h9 => h9) rfl dX6_open_1 ?_
  obtain ⟨x101, hg, hf⟩ := o1_s hf
  refine Ct.callV (ws' := wV g v0 u0 u1 u2 u3 k0 k1 k2 k3 h0 h1 h2 h3 s0 s1 s2 s3 c0 c1 c2 p0 r0 t0 t1 t2 t3 z0 f0 ea R N B S C P Q K X fd tl ik) (As := []) (rest := []) (st1 := [.int x101]) (c_X1_isOpen l g u0 u1 u2 u3 R hg) (cwV 0 hts gX6_open_X1_isOpen rfl rfl rfl q_X1_isOpen ⟨Nat.le_of_ble_eq_true rfl, Nat.le_of_ble_eq_true rfl⟩) ⟨hx, hb, hml, hown, hts⟩ hE hP hD hS hA [1, 2, 3, 4] rfl rfl rfl rfl 1 1 rfl rfl rfl rfl hl.1 rfl rfl (Nat.le_of_ble_eq_true rfl) dX6_open_4 (fun H locs hP hD hS => ?_)
  refine lv_if_eq (tgt := 14) hx hb dX6_open_7 (by decide) (fun hc => ?_) (fun hc => ?_)
  · have hf := if_t hf hc
    refine lv_iconst (v := (0 : Int32)) hx hb dX6_open_14 (by decide) ?_
    cases hf
    exact Ct.iret hx hb hr hlocks hAe hP hD hS dX6_open_15
  · have hf := if_f hf hc
    refine lv_iconst (v := (1 : Int32)) hx hb dX6_open_10 (by decide) ?_
    refine lv_goto (tgt := 15) hx hb dX6_open_11 (by decide) ?_
    cases hf
    exact Ct.iret hx hb hr hlocks hAe hP hD hS dX6_open_15
def fX6_isTooLate (R : Rf) (a1 : Int32) : Option (Int32) := if (R.2.2.2.2.2.2.1 + a1) ≤ (9999 : Int32) then (some (0 : Int32)) else (some (1 : Int32))
theorem q_X6_isTooLate : yX6_isTooLate.cls = RX6 ∧ yX6_isTooLate.cls ≠ "java/lang/invoke/MethodHandle" ∧ yX6_isTooLate.cls ≠ "java/lang/invoke/VarHandle" ∧ (parseMethodDescriptor yX6_isTooLate.desc).map (fun d => d.parameters.length) = some 1 := by decide +kernel
theorem i_X6_isTooLate_X6 : ∀ w ∈ u_ws RX6 TX6 11, w ∈ wsX6_isTooLate := fun _ h => List.mem_cons_of_mem _ (List.mem_append_left _ (List.mem_append_right _ (h)))
theorem i_X6_isTooLate_X1 : ∀ w ∈ u_ws RX1 TX1 9, w ∈ wsX6_isTooLate := fun _ h => List.mem_cons_of_mem _ (List.mem_append_right _ (h))
set_option maxHeartbeats 4000000 in
set_option maxRecDepth 100000 in
theorem c_X6_isTooLate (l : Launch) (g : gG) (v0 u0 u1 u2 u3 k0 k1 k2 k3 h0 h1 h2 h3 s0 s1 s2 s3 c0 c1 c2 p0 r0 t0 t1 t2 t3 z0 f0 : Nat) (ea : Nat → Nat) (R : Rf) (N : Rf) (B : Rf) (S : Sv) (C : Ca) (P : Nat → Int32) (Q : Tr) (K : Tk) (X : F4) (fd : Nat → Int32) (tl : Int32) (ik : Int32) (a1 : Int32) {r : Int32} (hf : fX6_isTooLate R a1 = some r) : Ct l yX6_isTooLate wsX6_isTooLate (rmm 0 0) g (wV g v0 u0 u1 u2 u3 k0 k1 k2 k3 h0 h1 h2 h3 s0 s1 s2 s3 c0 c1 c2 p0 r0 t0 t1 t2 t3 z0 f0 ea R N B S C P Q K X fd tl ik) (wV g v0 u0 u1 u2 u3 k0 k1 k2 k3 h0 h1 h2 h3 s0 s1 s2 s3 c0 c1 c2 p0 r0 t0 t1 t2 t3 z0 f0 ea R N B S C P Q K X fd tl ik) [.ref v0, .int a1] (some (.int r)) := by
  refine Ct.mk (by decide) rfl (Nat.le_of_ble_eq_true rfl) ?_
  intro p e s m args below meth c A ls hx hb hr hml hts hown hlocks hA hE hP hD hS hl hAe
  have hown : s.vm.findClass RX6 = some m.cls := hown
  have hl : lv_has ls 2 [(0, .ref v0), (1, .int a1)] := hl
  have w1 := hts (.fieldLink RX6 10 "RainVault" "roof" "LRainVault$Roof;") (List.mem_of_getElem? (i := 1) rfl)
  unfold fX6_isTooLate at hf
  refine lv_aload_n hx hb dX6_isTooLate_0 rfl (lv_at hl 0 rfl) ?_
  refine va_get (D := g.1) (ci := 6) (v := .ref u0) (C := RX6) (T := TX6) (N := 11) hx hb hts i_X6_isTooLate_X6 hown hE.1 hP 0 rfl rfl 0 (by decide) w1 (fun _ h9 => h9) rfl dX6_isTooLate_1 ?_
  refine va_getN (D := g.1) (ci := 1) (v := .int R.2.2.2.2.2.2.1) (C := RX1) (T := TX1) (N := 9) hx hb hts i_X6_isTooLate_X1 hown hE.1 hP 1 rfl rfl 6 (by decide) (va_Nw.use rfl (hE.2.1 _ (List.mem_of_getElem? (i := 7) rfl))) (fun _ h9 => h9) rfl dX6_isTooLate_4 ?_
  refine lv_iload_n hx hb dX6_isTooLate_7 rfl (lv_at hl 1 rfl) ?_
  refine lv_iadd hx hb dX6_isTooLate_8 ?_
  refine lv_sipush (v := (9999 : Int32)) hx hb dX6_isTooLate_9 (by decide) ?_
  refine lv_icmp_le (tgt := 19) hx hb dX6_isTooLate_12 (by decide) (fun hc => ?_) (fun hc => ?_)
  · have hf := if_t hf hc
    refine lv_iconst (v := (0 : Int32)) hx hb dX6_isTooLate_19 (by decide) ?_
    cases hf
    exact Ct.zret hx hb hr (by decide) hlocks hAe hP hD hS dX6_isTooLate_20
  · have hf := if_f hf hc
    refine lv_iconst (v := (1 : Int32)) hx hb dX6_isTooLate_15 (by decide) ?_
    refine lv_goto (tgt := 20) hx hb dX6_isTooLate_16 (by decide) ?_
    cases hf
    exact Ct.zret hx hb hr (by decide) hlocks hAe hP hD hS dX6_isTooLate_20
def fX6_rain (R : Rf) (fd : Nat → Int32) (a1 : Int32) (a2 : Int32) (a3 : Int32) : Option (Int32 × Rf × (Nat → Int32)) := o1 (fX6_isRain a1 a2) (fun x101 => if x101 = 0 then (o2 (fX6_finding fd (-1000001 : Int32)) (fun x102 fd103 => some (x102, R, fd103))) else (o1 (fX6_isWithin a3 (1 : Int32) (100 : Int32)) (fun x104 => if x104 = 0 then (o2 (fX6_finding fd (-1000001 : Int32)) (fun x110 fd111 => some (x110, R, fd111))) else (o1 (fX6_isTooLate R a3) (fun x105 => if x105 = 0 then (o2 (fX1_passHours R a1 a2 a3) (fun x106 R107 => some (x106, R107, fd))) else (o2 (fX6_finding fd (-1000005 : Int32)) (fun x108 fd109 => some (x108, R, fd109))))))))
theorem q_X6_rain : yX6_rain.cls = RX6 ∧ yX6_rain.cls ≠ "java/lang/invoke/MethodHandle" ∧ yX6_rain.cls ≠ "java/lang/invoke/VarHandle" ∧ (parseMethodDescriptor yX6_rain.desc).map (fun d => d.parameters.length) = some 3 := by decide +kernel
theorem i_X6_rain_X6 : ∀ w ∈ u_ws RX6 TX6 11, w ∈ wsX6_rain := fun _ h => List.mem_cons_of_mem _ (List.mem_append_left _ (List.mem_append_right _ (h)))
set_option maxHeartbeats 4000000 in
set_option maxRecDepth 100000 in
theorem c_X6_rain (l : Launch) (g : gG) (v0 u0 u1 u2 u3 k0 k1 k2 k3 h0 h1 h2 h3 s0 s1 s2 s3 c0 c1 c2 p0 r0 t0 t1 t2 t3 z0 f0 : Nat) (ea : Nat → Nat) (R : Rf) (N : Rf) (B : Rf) (S : Sv) (C : Ca) (P : Nat → Int32) (Q : Tr) (K : Tk) (X : F4) (fd : Nat → Int32) (tl : Int32) (ik : Int32) (a1 : Int32) (a2 : Int32) (a3 : Int32) {r : Int32} {R' : Rf} {fd' : Nat → Int32} (hf : fX6_rain R fd a1 a2 a3 = some (r, R', fd')) : Ct l yX6_rain wsX6_rain (rmm 6 137) g (wV g v0 u0 u1 u2 u3 k0 k1 k2 k3 h0 h1 h2 h3 s0 s1 s2 s3 c0 c1 c2 p0 r0 t0 t1 t2 t3 z0 f0 ea R N B S C P Q K X fd tl ik) (wV g v0 u0 u1 u2 u3 k0 k1 k2 k3 h0 h1 h2 h3 s0 s1 s2 s3 c0 c1 c2 p0 r0 t0 t1 t2 t3 z0 f0 ea (R') N B S C P Q K X (fd') tl ik) [.ref v0, .int a1, .int a2, .int a3] (some (.int r)) := by
  refine Ct.mk (by decide) rfl (Nat.le_of_ble_eq_true rfl) ?_
  intro p e s m args below meth c A ls hx hb hr hml hts hown hlocks hA hE hP hD hS hl hAe
  have hown : s.vm.findClass RX6 = some m.cls := hown
  have hl : lv_has ls 4 [(0, .ref v0), (1, .int a1), (2, .int a2), (3, .int a3)] := hl
  have w1 := hts (.constant RX6 73 (-1000001)) (List.mem_of_getElem? (i := 1) rfl)
  have w2 := hts (.fieldLink RX6 10 "RainVault" "roof" "LRainVault$Roof;") (List.mem_of_getElem? (i := 3) rfl)
  have w3 := hts (.constant RX6 143 (-1000005)) (List.mem_of_getElem? (i := 2) rfl)
  unfold fX6_rain at hf
  refine lv_iload_n hx hb dX6_rain_0 rfl (lv_at hl 1 rfl) ?_
  refine lv_iload_n hx hb dX6_rain_1 rfl (lv_at hl 2 rfl) ?_
  obtain ⟨x101, hg, hf⟩ := o1_s hf
  refine Ct.callS (ws' := wV g v0 u0 u1 u2 u3 k0 k1 k2 k3 h0 h1 h2 h3 s0 s1 s2 s3 c0 c1 c2 p0 r0 t0 t1 t2 t3 z0 f0 ea R N B S C P Q K X fd tl ik) (As := [.int a1, .int a2]) (rest := []) (st1 := [.int x101]) (c_X6_isRain l g a1 a2 hg) (va_cwS 2 hts gX6_rain_X6_isRain rfl rfl rfl q_X6_isRain.2 ⟨Nat.le_of_ble_eq_true rfl, Nat.le_of_ble_eq_true rfl⟩) ⟨hx, hb, hml, hown, hts⟩ hE hP hD hS hA [] rfl rfl rfl rfl rfl hl.1 rfl rfl (Nat.le_of_ble_eq_true rfl) dX6_rain_2 (fun H locs hP hD hS => ?_)
  refine lv_if_eq (tgt := 18) hx hb dX6_rain_5 (by decide) (fun hc => ?_) (fun hc => ?_)
  · have hf := if_t hf hc
    refine lv_aload_n hx hb dX6_rain_18 rfl (lv_at hl 0 rfl) ?_
    refine lv_ldc hx hb hown w1 dX6_rain_19 ?_
    obtain ⟨x102, fd103, hg, hf⟩ := o2_s hf
    refine Ct.callV (ws' := wV g v0 u0 u1 u2 u3 k0 k1 k2 k3 h0 h1 h2 h3 s0 s1 s2 s3 c0 c1 c2 p0 r0 t0 t1 t2 t3 z0 f0 ea R N B S C P Q K X fd103 tl ik) (As := [.int (-1000001 : Int32)]) (rest := []) (st1 := [.int x102]) (c_X6_finding l g v0 u0 u1 u2 u3 k0 k1 k2 k3 h0 h1 h2 h3 s0 s1 s2 s3 c0 c1 c2 p0 r0 t0 t1 t2 t3 z0 f0 ea R N B S C P Q K X fd tl ik (-1000001 : Int32) hg) (cwV 1 hts gX6_rain_X6_finding rfl rfl rfl q_X6_finding ⟨Nat.le_of_ble_eq_true rfl, Nat.le_of_ble_eq_true rfl⟩) ⟨hx, hb, hml, hown, hts⟩ hE hP hD hS hA [0, 1, 2, 3, 4, 5, 6, 7, 8, 9, 10, 11, 12, 13, 14, 15, 16, 17, 18, 19, 20, 21, 22, 23, 24, 25, 26, 27, 28, 29, 30, 31, 32, 33, 34, 35] rfl rfl rfl rfl 6 0 rfl rfl rfl rfl hl.1 rfl rfl (Nat.le_of_ble_eq_true rfl) dX6_rain_21 (fun H locs hP hD hS => ?_)
    cases hf
    exact Ct.iret hx hb hr hlocks hAe hP hD hS dX6_rain_24
  · have hf := if_f hf hc
    refine lv_iload_n hx hb dX6_rain_8 rfl (lv_at hl 3 rfl) ?_
    refine lv_iconst (v := (1 : Int32)) hx hb dX6_rain_9 (by decide) ?_
    refine lv_bipush (v := (100 : Int32)) hx hb dX6_rain_10 (by decide) ?_
    obtain ⟨x104, hg, hf⟩ := o1_s hf
    refine Ct.callS (ws' := wV g v0 u0 u1 u2 u3 k0 k1 k2 k3 h0 h1 h2 h3 s0 s1 s2 s3 c0 c1 c2 p0 r0 t0 t1 t2 t3 z0 f0 ea R N B S C P Q K X fd tl ik) (As := [.int a3, .int (1 : Int32), .int (100 : Int32)]) (rest := []) (st1 := [.int x104]) (c_X6_isWithin l g a3 (1 : Int32) (100 : Int32) hg) (va_cwS 3 hts gX6_rain_X6_isWithin rfl rfl rfl q_X6_isWithin.2 ⟨Nat.le_of_ble_eq_true rfl, Nat.le_of_ble_eq_true rfl⟩) ⟨hx, hb, hml, hown, hts⟩ hE hP hD hS hA [] rfl rfl rfl rfl rfl hl.1 rfl rfl (Nat.le_of_ble_eq_true rfl) dX6_rain_12 (fun H locs hP hD hS => ?_)
    refine lv_if_ne (tgt := 25) hx hb dX6_rain_15 (by decide) (fun hc => ?_) (fun hc => ?_)
    · have hf := if_f hf hc
      refine lv_aload_n hx hb dX6_rain_25 rfl (lv_at hl 0 rfl) ?_
      refine lv_iload_n hx hb dX6_rain_26 rfl (lv_at hl 3 rfl) ?_
      obtain ⟨x105, hg, hf⟩ := o1_s hf
      refine Ct.callV (ws' := wV g v0 u0 u1 u2 u3 k0 k1 k2 k3 h0 h1 h2 h3 s0 s1 s2 s3 c0 c1 c2 p0 r0 t0 t1 t2 t3 z0 f0 ea R N B S C P Q K X fd tl ik) (As := [.int a3]) (rest := []) (st1 := [.int x105]) (c_X6_isTooLate l g v0 u0 u1 u2 u3 k0 k1 k2 k3 h0 h1 h2 h3 s0 s1 s2 s3 c0 c1 c2 p0 r0 t0 t1 t2 t3 z0 f0 ea R N B S C P Q K X fd tl ik a3 hg) (cwV 1 hts gX6_rain_X6_isTooLate rfl rfl rfl q_X6_isTooLate ⟨Nat.le_of_ble_eq_true rfl, Nat.le_of_ble_eq_true rfl⟩) ⟨hx, hb, hml, hown, hts⟩ hE hP hD hS hA [0, 1, 2, 3, 4, 5, 6, 7, 8, 9, 10, 11, 12, 13, 14, 15, 16, 17, 18, 19, 20, 21, 22, 23, 24, 25, 26, 27, 28, 29, 30, 31, 32, 33, 34, 35] rfl rfl rfl rfl 6 0 rfl rfl rfl rfl hl.1 rfl rfl (Nat.le_of_ble_eq_true rfl) dX6_rain_27 (fun H locs hP hD hS => ?_)
      refine lv_if_eq (tgt := 40) hx hb dX6_rain_30 (by decide) (fun hc => ?_) (fun hc => ?_)
      · have hf := if_t hf hc
        refine lv_aload_n hx hb dX6_rain_40 rfl (lv_at hl 0 rfl) ?_
        refine va_get (D := g.1) (ci := 6) (v := .ref u0) (C := RX6) (T := TX6) (N := 11) hx hb hts i_X6_rain_X6 hown hE.1 hP 0 rfl rfl 0 (by decide) w2 (fun _ h9 => h9) rfl dX6_rain_41 ?_
        refine lv_iload_n hx hb dX6_rain_44 rfl (lv_at hl 1 rfl) ?_
        refine lv_iload_n hx hb dX6_rain_45 rfl (lv_at hl 2 rfl) ?_
        refine lv_iload_n hx hb dX6_rain_46 rfl (lv_at hl 3 rfl) ?_
        obtain ⟨x106, R107, hg, hf⟩ := o2_s hf
        refine Ct.callV (ws' := wV g v0 u0 u1 u2 u3 k0 k1 k2 k3 h0 h1 h2 h3 s0 s1 s2 s3 c0 c1 c2 p0 r0 t0 t1 t2 t3 z0 f0 ea R107 N B S C P Q K X fd tl ik) (As := [.int a1, .int a2, .int a3]) (rest := []) (st1 := [.int x106]) (c_X1_passHours l g u0 u1 u2 u3 R a1 a2 a3 hg) (cwV 3 hts gX6_rain_X1_passHours rfl rfl rfl q_X1_passHours ⟨Nat.le_of_ble_eq_true rfl, Nat.le_of_ble_eq_true rfl⟩) ⟨hx, hb, hml, hown, hts⟩ hE hP hD hS hA [1, 2, 3, 4] rfl rfl rfl rfl 1 1 rfl rfl rfl rfl hl.1 rfl rfl (Nat.le_of_ble_eq_true rfl) dX6_rain_47 (fun H locs hP hD hS => ?_)
        cases hf
        exact Ct.iret hx hb hr hlocks hAe hP hD hS dX6_rain_50
      · have hf := if_f hf hc
        refine lv_aload_n hx hb dX6_rain_33 rfl (lv_at hl 0 rfl) ?_
        refine lv_ldc hx hb hown w3 dX6_rain_34 ?_
        obtain ⟨x108, fd109, hg, hf⟩ := o2_s hf
        refine Ct.callV (ws' := wV g v0 u0 u1 u2 u3 k0 k1 k2 k3 h0 h1 h2 h3 s0 s1 s2 s3 c0 c1 c2 p0 r0 t0 t1 t2 t3 z0 f0 ea R N B S C P Q K X fd109 tl ik) (As := [.int (-1000005 : Int32)]) (rest := []) (st1 := [.int x108]) (c_X6_finding l g v0 u0 u1 u2 u3 k0 k1 k2 k3 h0 h1 h2 h3 s0 s1 s2 s3 c0 c1 c2 p0 r0 t0 t1 t2 t3 z0 f0 ea R N B S C P Q K X fd tl ik (-1000005 : Int32) hg) (cwV 1 hts gX6_rain_X6_finding rfl rfl rfl q_X6_finding ⟨Nat.le_of_ble_eq_true rfl, Nat.le_of_ble_eq_true rfl⟩) ⟨hx, hb, hml, hown, hts⟩ hE hP hD hS hA [0, 1, 2, 3, 4, 5, 6, 7, 8, 9, 10, 11, 12, 13, 14, 15, 16, 17, 18, 19, 20, 21, 22, 23, 24, 25, 26, 27, 28, 29, 30, 31, 32, 33, 34, 35] rfl rfl rfl rfl 6 0 rfl rfl rfl rfl hl.1 rfl rfl (Nat.le_of_ble_eq_true rfl) dX6_rain_36 (fun H locs hP hD hS => ?_)
        cases hf
        exact Ct.iret hx hb hr hlocks hAe hP hD hS dX6_rain_39
    · have hf := if_t hf hc
      refine lv_aload_n hx hb dX6_rain_18 rfl (lv_at hl 0 rfl) ?_
      refine lv_ldc hx hb hown w1 dX6_rain_19 ?_
      obtain ⟨x110, fd111, hg, hf⟩ := o2_s hf
      refine Ct.callV (ws' := wV g v0 u0 u1 u2 u3 k0 k1 k2 k3 h0 h1 h2 h3 s0 s1 s2 s3 c0 c1 c2 p0 r0 t0 t1 t2 t3 z0 f0 ea R N B S C P Q K X fd111 tl ik) (As := [.int (-1000001 : Int32)]) (rest := []) (st1 := [.int x110]) (c_X6_finding l g v0 u0 u1 u2 u3 k0 k1 k2 k3 h0 h1 h2 h3 s0 s1 s2 s3 c0 c1 c2 p0 r0 t0 t1 t2 t3 z0 f0 ea R N B S C P Q K X fd tl ik (-1000001 : Int32) hg) (cwV 1 hts gX6_rain_X6_finding rfl rfl rfl q_X6_finding ⟨Nat.le_of_ble_eq_true rfl, Nat.le_of_ble_eq_true rfl⟩) ⟨hx, hb, hml, hown, hts⟩ hE hP hD hS hA [0, 1, 2, 3, 4, 5, 6, 7, 8, 9, 10, 11, 12, 13, 14, 15, 16, 17, 18, 19, 20, 21, 22, 23, 24, 25, 26, 27, 28, 29, 30, 31, 32, 33, 34, 35] rfl rfl rfl rfl 6 0 rfl rfl rfl rfl hl.1 rfl rfl (Nat.le_of_ble_eq_true rfl) dX6_rain_21 (fun H locs hP hD hS => ?_)
      cases hf
      exact Ct.iret hx hb hr hlocks hAe hP hD hS dX6_rain_24
def fX6_weather_L36 (x1 : Int32) (kx : Rf → Int32 → Option (Int32 × Rf × (Nat → Int32))) : Nat → Rf → Int32 → Int32 → Option (Int32 × Rf × (Nat → Int32))
  | 0, _, _, _ => none
  | k + 1, R, x2, x3 => if x1 ≤ x3 then (kx R x2) else (o1 (fX1_passDrawnHour R) (fun R105 => o1 (fX1_isOpen R105) (fun x106 => if x106 = 0 then (fX6_weather_L36 x1 kx k R105 x2 (x3 + (1 : Int32))) else (fX6_weather_L36 x1 kx k R105 (x2 + (1 : Int32)) (x3 + (1 : Int32))))))
def fX6_weather (R : Rf) (fd : Nat → Int32) (a1 : Int32) : Option (Int32 × Rf × (Nat → Int32)) := o1 (fX6_isWithin a1 (1 : Int32) (100 : Int32)) (fun x101 => if x101 = 0 then (o2 (fX6_finding fd (-1000001 : Int32)) (fun x111 fd112 => some (x111, R, fd112))) else (o1 (fX6_isTooLate R a1) (fun x102 => if x102 = 0 then (fX6_weather_L36 a1 (fun R107 x108 => some (x108, R107, fd)) fu R (0 : Int32) (0 : Int32)) else (o2 (fX6_finding fd (-1000005 : Int32)) (fun x109 fd110 => some (x109, R, fd110))))))
theorem q_X6_weather : yX6_weather.cls = RX6 ∧ yX6_weather.cls ≠ "java/lang/invoke/MethodHandle" ∧ yX6_weather.cls ≠ "java/lang/invoke/VarHandle" ∧ (parseMethodDescriptor yX6_weather.desc).map (fun d => d.parameters.length) = some 1 := by decide +kernel
theorem i_X6_weather_X6 : ∀ w ∈ u_ws RX6 TX6 11, w ∈ wsX6_weather := fun _ h => List.mem_cons_of_mem _ (List.mem_append_left _ (List.mem_append_right _ (h)))
set_option maxHeartbeats 4000000 in
set_option maxRecDepth 100000 in
theorem c_X6_weather (l : Launch) (g : gG) (v0 u0 u1 u2 u3 k0 k1 k2 k3 h0 h1 h2 h3 s0 s1 s2 s3 c0 c1 c2 p0 r0 t0 t1 t2 t3 z0 f0 : Nat) (ea : Nat → Nat) (R : Rf) (N : Rf) (B : Rf) (S : Sv) (C : Ca) (P : Nat → Int32) (Q : Tr) (K : Tk) (X : F4) (fd : Nat → Int32) (tl : Int32) (ik : Int32) (a1 : Int32) {r : Int32} {R' : Rf} {fd' : Nat → Int32} (hf : fX6_weather R fd a1 = some (r, R', fd')) : Ct l yX6_weather wsX6_weather (rmm 5 115) g (wV g v0 u0 u1 u2 u3 k0 k1 k2 k3 h0 h1 h2 h3 s0 s1 s2 s3 c0 c1 c2 p0 r0 t0 t1 t2 t3 z0 f0 ea R N B S C P Q K X fd tl ik) (wV g v0 u0 u1 u2 u3 k0 k1 k2 k3 h0 h1 h2 h3 s0 s1 s2 s3 c0 c1 c2 p0 r0 t0 t1 t2 t3 z0 f0 ea (R') N B S C P Q K X (fd') tl ik) [.ref v0, .int a1] (some (.int r)) := by
  refine Ct.mk (by decide) rfl (Nat.le_of_ble_eq_true rfl) ?_
  intro p e s m args below meth c A ls hx hb hr hml hts hown hlocks hA hE hP hD hS hl hAe
  have hown : s.vm.findClass RX6 = some m.cls := hown
  have hl : lv_has ls 4 [(0, .ref v0), (1, .int a1)] := hl
  have w1 := hts (.fieldLink RX6 10 "RainVault" "roof" "LRainVault$Roof;") (List.mem_of_getElem? (i := 3) rfl)
  have w2 := hts (.constant RX6 143 (-1000005)) (List.mem_of_getElem? (i := 2) rfl)
  have w3 := hts (.constant RX6 73 (-1000001)) (List.mem_of_getElem? (i := 1) rfl)
  have L36 : ∀ (fd : Nat → Int32) (x1 : Int32) (kx : Rf → Int32 → Option (Int32 × Rf × (Nat → Int32))) (k : Nat) (R : Rf) (x2 : Int32) (x3 : Int32) (H : Heap) (locs : List Loc) (ls : Array Slot), fX6_weather_L36 x1 kx k R x2 x3 = some (r, R', fd') → va_P g.1 vwK (wV g v0 u0 u1 u2 u3 k0 k1 k2 k3 h0 h1 h2 h3 s0 s1 s2 s3 c0 c1 c2 p0 r0 t0 t1 t2 t3 z0 f0 ea R N B S C P Q K X fd tl ik) H → va_D A (wV g v0 u0 u1 u2 u3 k0 k1 k2 k3 h0 h1 h2 h3 s0 s1 s2 s3 c0 c1 c2 p0 r0 t0 t1 t2 t3 z0 f0 ea R N B S C P Q K X fd tl ik) → va_S A s.heap H locs → lv_has ls 4 [(0, .ref v0), (1, .int x1), (2, .int x2), (3, .int x3)] → (∀ (R : Rf) (x2 : Int32) (H : Heap) (locs : List Loc) (ls : Array Slot), kx R x2 = some (r, R', fd') → va_P g.1 vwK (wV g v0 u0 u1 u2 u3 k0 k1 k2 k3 h0 h1 h2 h3 s0 s1 s2 s3 c0 c1 c2 p0 r0 t0 t1 t2 t3 z0 f0 ea R N B S C P Q K X fd tl ik) H → va_D A (wV g v0 u0 u1 u2 u3 k0 k1 k2 k3 h0 h1 h2 h3 s0 s1 s2 s3 c0 c1 c2 p0 r0 t0 t1 t2 t3 z0 f0 ea R N B S C P Q K X fd tl ik) → va_S A s.heap H locs → lv_has ls 4 [(2, .int x2)] → W p l e (rmm 5 115) s m args below meth c H locs 0 0 (MQ below (QcG g (wV g v0 u0 u1 u2 u3 k0 k1 k2 k3 h0 h1 h2 h3 s0 s1 s2 s3 c0 c1 c2 p0 r0 t0 t1 t2 t3 z0 f0 ea R N B S C P Q K X fd tl ik) (wV g v0 u0 u1 u2 u3 k0 k1 k2 k3 h0 h1 h2 h3 s0 s1 s2 s3 c0 c1 c2 p0 r0 t0 t1 t2 t3 z0 f0 ea (R') N B S C P Q K X (fd') tl ik) (some (.int r)) s.heap.size) args s 0 0 A) (F0 m 67 ls [])) → W p l e (rmm 5 115) s m args below meth c H locs 0 0 (MQ below (QcG g (wV g v0 u0 u1 u2 u3 k0 k1 k2 k3 h0 h1 h2 h3 s0 s1 s2 s3 c0 c1 c2 p0 r0 t0 t1 t2 t3 z0 f0 ea R N B S C P Q K X fd tl ik) (wV g v0 u0 u1 u2 u3 k0 k1 k2 k3 h0 h1 h2 h3 s0 s1 s2 s3 c0 c1 c2 p0 r0 t0 t1 t2 t3 z0 f0 ea (R') N B S C P Q K X (fd') tl ik) (some (.int r)) s.heap.size) args s 0 0 A) (F0 m 36 ls []) := by
    intro fd x1 kx k
    induction k with
    | zero => intro R x2 x3 H locs ls hf; exact nomatch (show (none : Option (Int32 × Rf × (Nat → Int32))) = some _ from hf)
    | succ k ih =>
      intro R x2 x3 H locs ls hf hP hD hS hl hk
      rw [fX6_weather_L36] at hf
      refine lv_iload_n hx hb dX6_weather_36 rfl (lv_at hl 3 rfl) ?_
      refine lv_iload_n hx hb dX6_weather_37 rfl (lv_at hl 1 rfl) ?_
      refine lv_icmp_ge (tgt := 67) hx hb dX6_weather_38 (by decide) (fun hc => ?_) (fun hc => ?_)
      · have hf := if_t hf hc
        exact hk _ _ _ _ _  hf hP hD hS (lv_sub hl [2] rfl)
      · have hf := if_f hf hc
        refine lv_aload_n hx hb dX6_weather_41 rfl (lv_at hl 0 rfl) ?_
        refine va_get (D := g.1) (ci := 6) (v := .ref u0) (C := RX6) (T := TX6) (N := 11) hx hb hts i_X6_weather_X6 hown hE.1 hP 0 rfl rfl 0 (by decide) w1 (fun _ h9 => h9) rfl dX6_weather_42 ?_
        obtain ⟨R105, hg, hf⟩ := o1_s hf
        refine Ct.callV (ws' := wV g v0 u0 u1 u2 u3 k0 k1 k2 k3 h0 h1 h2 h3 s0 s1 s2 s3 c0 c1 c2 p0 r0 t0 t1 t2 t3 z0 f0 ea R105 N B S C P Q K X fd tl ik) (As := []) (rest := []) (st1 := []) (c_X1_passDrawnHour l g u0 u1 u2 u3 R hg) (cwV 0 hts gX6_weather_X1_passDrawnHour rfl rfl rfl q_X1_passDrawnHour ⟨Nat.le_of_ble_eq_true rfl, Nat.le_of_ble_eq_true rfl⟩) ⟨hx, hb, hml, hown, hts⟩ hE hP hD hS hA [1, 2, 3, 4] rfl rfl rfl rfl 1 1 rfl rfl rfl rfl hl.1 rfl rfl (Nat.le_of_ble_eq_true rfl) dX6_weather_45 (fun H locs hP hD hS => ?_)
        refine lv_aload_n hx hb dX6_weather_48 rfl (lv_at hl 0 rfl) ?_
        refine va_get (D := g.1) (ci := 6) (v := .ref u0) (C := RX6) (T := TX6) (N := 11) hx hb hts i_X6_weather_X6 hown hE.1 hP 0 rfl rfl 0 (by decide) w1 (fun _ h9 => h9) rfl dX6_weather_49 ?_
        obtain ⟨x106, hg, hf⟩ := o1_s hf
        refine Ct.callV (ws' := wV g v0 u0 u1 u2 u3 k0 k1 k2 k3 h0 h1 h2 h3 s0 s1 s2 s3 c0 c1 c2 p0 r0 t0 t1 t2 t3 z0 f0 ea R105 N B S C P Q K X fd tl ik) (As := []) (rest := []) (st1 := [.int x106]) (c_X1_isOpen l g u0 u1 u2 u3 R105 hg) (cwV 0 hts gX6_weather_X1_isOpen rfl rfl rfl q_X1_isOpen ⟨Nat.le_of_ble_eq_true rfl, Nat.le_of_ble_eq_true rfl⟩) ⟨hx, hb, hml, hown, hts⟩ hE hP hD hS hA [1, 2, 3, 4] rfl rfl rfl rfl 1 1 rfl rfl rfl rfl hl.1 rfl rfl (Nat.le_of_ble_eq_true rfl) dX6_weather_52 (fun H locs hP hD hS => ?_)
        refine lv_if_eq (tgt := 61) hx hb dX6_weather_55 (by decide) (fun hc => ?_) (fun hc => ?_)
        · have hf := if_t hf hc
          refine lv_iinc (v := (x3 + (1 : Int32))) (lv' := [(3, .int (x3 + (1 : Int32))), (0, .ref v0), (1, .int x1), (2, .int x2)]) hx hb dX6_weather_61 hl (k := 3) rfl rfl (by decide) rfl (fun ls hl => ?_)
          refine lv_goto (tgt := 36) hx hb dX6_weather_64 (by decide) ?_
          exact ih _ _ _ _ _ _  hf hP hD hS (lv_sub hl [1, 2, 3, 0] rfl) hk
        · have hf := if_f hf hc
          refine lv_iinc (v := (x2 + (1 : Int32))) (lv' := [(2, .int (x2 + (1 : Int32))), (0, .ref v0), (1, .int x1), (3, .int x3)]) hx hb dX6_weather_58 hl (k := 2) rfl rfl (by decide) rfl (fun ls hl => ?_)
          refine lv_iinc (v := (x3 + (1 : Int32))) (lv' := [(3, .int (x3 + (1 : Int32))), (2, .int (x2 + (1 : Int32))), (0, .ref v0), (1, .int x1)]) hx hb dX6_weather_61 hl (k := 3) rfl rfl (by decide) rfl (fun ls hl => ?_)
          refine lv_goto (tgt := 36) hx hb dX6_weather_64 (by decide) ?_
          exact ih _ _ _ _ _ _  hf hP hD hS (lv_sub hl [2, 3, 1, 0] rfl) hk
  unfold fX6_weather at hf
  refine lv_iload_n hx hb dX6_weather_0 rfl (lv_at hl 1 rfl) ?_
  refine lv_iconst (v := (1 : Int32)) hx hb dX6_weather_1 (by decide) ?_
  refine lv_bipush (v := (100 : Int32)) hx hb dX6_weather_2 (by decide) ?_
  obtain ⟨x101, hg, hf⟩ := o1_s hf
  refine Ct.callS (ws' := wV g v0 u0 u1 u2 u3 k0 k1 k2 k3 h0 h1 h2 h3 s0 s1 s2 s3 c0 c1 c2 p0 r0 t0 t1 t2 t3 z0 f0 ea R N B S C P Q K X fd tl ik) (As := [.int a1, .int (1 : Int32), .int (100 : Int32)]) (rest := []) (st1 := [.int x101]) (c_X6_isWithin l g a1 (1 : Int32) (100 : Int32) hg) (va_cwS 3 hts gX6_weather_X6_isWithin rfl rfl rfl q_X6_isWithin.2 ⟨Nat.le_of_ble_eq_true rfl, Nat.le_of_ble_eq_true rfl⟩) ⟨hx, hb, hml, hown, hts⟩ hE hP hD hS hA [] rfl rfl rfl rfl rfl hl.1 rfl rfl (Nat.le_of_ble_eq_true rfl) dX6_weather_4 (fun H locs hP hD hS => ?_)
  refine lv_if_ne (tgt := 17) hx hb dX6_weather_7 (by decide) (fun hc => ?_) (fun hc => ?_)
  · have hf := if_f hf hc
    refine lv_aload_n hx hb dX6_weather_17 rfl (lv_at hl 0 rfl) ?_
    refine lv_iload_n hx hb dX6_weather_18 rfl (lv_at hl 1 rfl) ?_
    obtain ⟨x102, hg, hf⟩ := o1_s hf
    refine Ct.callV (ws' := wV g v0 u0 u1 u2 u3 k0 k1 k2 k3 h0 h1 h2 h3 s0 s1 s2 s3 c0 c1 c2 p0 r0 t0 t1 t2 t3 z0 f0 ea R N B S C P Q K X fd tl ik) (As := [.int a1]) (rest := []) (st1 := [.int x102]) (c_X6_isTooLate l g v0 u0 u1 u2 u3 k0 k1 k2 k3 h0 h1 h2 h3 s0 s1 s2 s3 c0 c1 c2 p0 r0 t0 t1 t2 t3 z0 f0 ea R N B S C P Q K X fd tl ik a1 hg) (cwV 1 hts gX6_weather_X6_isTooLate rfl rfl rfl q_X6_isTooLate ⟨Nat.le_of_ble_eq_true rfl, Nat.le_of_ble_eq_true rfl⟩) ⟨hx, hb, hml, hown, hts⟩ hE hP hD hS hA [0, 1, 2, 3, 4, 5, 6, 7, 8, 9, 10, 11, 12, 13, 14, 15, 16, 17, 18, 19, 20, 21, 22, 23, 24, 25, 26, 27, 28, 29, 30, 31, 32, 33, 34, 35] rfl rfl rfl rfl 6 0 rfl rfl rfl rfl hl.1 rfl rfl (Nat.le_of_ble_eq_true rfl) dX6_weather_19 (fun H locs hP hD hS => ?_)
    refine lv_if_eq (tgt := 32) hx hb dX6_weather_22 (by decide) (fun hc => ?_) (fun hc => ?_)
    · have hf := if_t hf hc
      refine lv_iconst (v := (0 : Int32)) hx hb dX6_weather_32 (by decide) ?_
      refine lv_istore_n (lv' := [(2, .int (0 : Int32)), (0, .ref v0), (1, .int a1)]) hx hb dX6_weather_33 rfl hl (by decide) rfl (fun ls hl => ?_)
      refine lv_iconst (v := (0 : Int32)) hx hb dX6_weather_34 (by decide) ?_
      refine lv_istore_n (lv' := [(3, .int (0 : Int32)), (2, .int (0 : Int32)), (0, .ref v0), (1, .int a1)]) hx hb dX6_weather_35 rfl hl (by decide) rfl (fun ls hl => ?_)
      refine L36 _ _ _ _ _ _ _ _ _ _  hf hP hD hS (lv_sub hl [2, 3, 1, 0] rfl) (fun R107 x108 H locs ls hf hP hD hS hl => ?_)
      refine lv_iload_n hx hb dX6_weather_67 rfl (lv_at hl 0 rfl) ?_
      cases hf
      exact Ct.iret hx hb hr hlocks hAe hP hD hS dX6_weather_68
    · have hf := if_f hf hc
      refine lv_aload_n hx hb dX6_weather_25 rfl (lv_at hl 0 rfl) ?_
      refine lv_ldc hx hb hown w2 dX6_weather_26 ?_
      obtain ⟨x109, fd110, hg, hf⟩ := o2_s hf
      refine Ct.callV (ws' := wV g v0 u0 u1 u2 u3 k0 k1 k2 k3 h0 h1 h2 h3 s0 s1 s2 s3 c0 c1 c2 p0 r0 t0 t1 t2 t3 z0 f0 ea R N B S C P Q K X fd110 tl ik) (As := [.int (-1000005 : Int32)]) (rest := []) (st1 := [.int x109]) (c_X6_finding l g v0 u0 u1 u2 u3 k0 k1 k2 k3 h0 h1 h2 h3 s0 s1 s2 s3 c0 c1 c2 p0 r0 t0 t1 t2 t3 z0 f0 ea R N B S C P Q K X fd tl ik (-1000005 : Int32) hg) (cwV 1 hts gX6_weather_X6_finding rfl rfl rfl q_X6_finding ⟨Nat.le_of_ble_eq_true rfl, Nat.le_of_ble_eq_true rfl⟩) ⟨hx, hb, hml, hown, hts⟩ hE hP hD hS hA [0, 1, 2, 3, 4, 5, 6, 7, 8, 9, 10, 11, 12, 13, 14, 15, 16, 17, 18, 19, 20, 21, 22, 23, 24, 25, 26, 27, 28, 29, 30, 31, 32, 33, 34, 35] rfl rfl rfl rfl 6 0 rfl rfl rfl rfl hl.1 rfl rfl (Nat.le_of_ble_eq_true rfl) dX6_weather_28 (fun H locs hP hD hS => ?_)
      cases hf
      exact Ct.iret hx hb hr hlocks hAe hP hD hS dX6_weather_31
  · have hf := if_t hf hc
    refine lv_aload_n hx hb dX6_weather_10 rfl (lv_at hl 0 rfl) ?_
    refine lv_ldc hx hb hown w3 dX6_weather_11 ?_
    obtain ⟨x111, fd112, hg, hf⟩ := o2_s hf
    refine Ct.callV (ws' := wV g v0 u0 u1 u2 u3 k0 k1 k2 k3 h0 h1 h2 h3 s0 s1 s2 s3 c0 c1 c2 p0 r0 t0 t1 t2 t3 z0 f0 ea R N B S C P Q K X fd112 tl ik) (As := [.int (-1000001 : Int32)]) (rest := []) (st1 := [.int x111]) (c_X6_finding l g v0 u0 u1 u2 u3 k0 k1 k2 k3 h0 h1 h2 h3 s0 s1 s2 s3 c0 c1 c2 p0 r0 t0 t1 t2 t3 z0 f0 ea R N B S C P Q K X fd tl ik (-1000001 : Int32) hg) (cwV 1 hts gX6_weather_X6_finding rfl rfl rfl q_X6_finding ⟨Nat.le_of_ble_eq_true rfl, Nat.le_of_ble_eq_true rfl⟩) ⟨hx, hb, hml, hown, hts⟩ hE hP hD hS hA [0, 1, 2, 3, 4, 5, 6, 7, 8, 9, 10, 11, 12, 13, 14, 15, 16, 17, 18, 19, 20, 21, 22, 23, 24, 25, 26, 27, 28, 29, 30, 31, 32, 33, 34, 35] rfl rfl rfl rfl 6 0 rfl rfl rfl rfl hl.1 rfl rfl (Nat.le_of_ble_eq_true rfl) dX6_weather_13 (fun H locs hP hD hS => ?_)
    cases hf
    exact Ct.iret hx hb hr hlocks hAe hP hD hS dX6_weather_16
def fX6_ahead_J33 (R : Rf) (B : Rf) (fd : Nat → Int32) (x1 : Int32) (x2 : Int32) (x3 : Int32) (x4 : Int32) (y0 : Int32) : Option (Int32 × Rf × (Nat → Int32)) := o1 (fX6_isRain x1 x2) (fun x102 => if x102 = 0 then (o2 (fX6_finding fd (-1000001 : Int32)) (fun x103 fd104 => some (x103, B, fd104))) else (o1 (fX6_isWithin x3 (0 : Int32) (100 : Int32)) (fun x105 => if x105 = 0 then (o2 (fX6_finding fd (-1000001 : Int32)) (fun x106 fd107 => some (x106, B, fd107))) else (if y0 = 0 then (o2 (fX6_finding fd (-1000001 : Int32)) (fun x117 fd118 => some (x117, B, fd118))) else (o1 (fX6_isTooLate R x3) (fun x108 => if x108 = 0 then (o1 (fX1_become B R) (fun R109 => o2 (fX1_passHours R109 x1 x2 x3) (fun x110 R111 => if x4 = (0 : Int32) then (o1 (fX1_isOpen R111) (fun x112 => if x112 = 0 then (some ((0 : Int32), R111, fd)) else (some ((1 : Int32), R111, fd)))) else (if x4 = (1 : Int32) then (some (x110, R111, fd)) else (if x4 = (2 : Int32) then (o1 (fX1_levelsTogether R111) (fun x113 => some (x113, R111, fd))) else (if x4 = (3 : Int32) then (some ((R111.2.2.2.2.2.2.2.1 - R.2.2.2.2.2.2.2.1), R111, fd)) else (o1 (fX1_get R111 (x4 - (4 : Int32)) (2 : Int32)) (fun x114 => some (x114, R111, fd))))))))) else (o2 (fX6_finding fd (-1000005 : Int32)) (fun x115 fd116 => some (x115, B, fd116)))))))))
def fX6_ahead_J28 (R : Rf) (B : Rf) (fd : Nat → Int32) (x1 : Int32) (x2 : Int32) (x3 : Int32) (x4 : Int32) : Option (Int32 × Rf × (Nat → Int32)) := fX6_ahead_J33 R B fd x1 x2 x3 x4 (1 : Int32)
def fX6_ahead (R : Rf) (B : Rf) (fd : Nat → Int32) (a1 : Int32) (a2 : Int32) (a3 : Int32) (a4 : Int32) : Option (Int32 × Rf × (Nat → Int32)) := o1 (fX6_isWithin a4 (0 : Int32) (3 : Int32)) (fun x101 => if x101 = 0 then (o1 (fX6_isWithin a4 (4 : Int32) ((3 : Int32) + R.2.2.2.1)) (fun x119 => if x119 = 0 then (fX6_ahead_J33 R B fd a1 a2 a3 a4 (0 : Int32)) else (fX6_ahead_J28 R B fd a1 a2 a3 a4))) else (fX6_ahead_J28 R B fd a1 a2 a3 a4))
theorem q_X6_ahead : yX6_ahead.cls = RX6 ∧ yX6_ahead.cls ≠ "java/lang/invoke/MethodHandle" ∧ yX6_ahead.cls ≠ "java/lang/invoke/VarHandle" ∧ (parseMethodDescriptor yX6_ahead.desc).map (fun d => d.parameters.length) = some 4 := by decide +kernel
theorem i_X6_ahead_X6 : ∀ w ∈ u_ws RX6 TX6 11, w ∈ wsX6_ahead := fun _ h => List.mem_cons_of_mem _ (List.mem_append_left _ (List.mem_append_right _ (h)))
theorem i_X6_ahead_X1 : ∀ w ∈ u_ws RX1 TX1 9, w ∈ wsX6_ahead := fun _ h => List.mem_cons_of_mem _ (List.mem_append_right _ (h))
set_option maxHeartbeats 4000000 in
set_option maxRecDepth 100000 in
theorem c_X6_ahead (l : Launch) (g : gG) (v0 u0 u1 u2 u3 k0 k1 k2 k3 h0 h1 h2 h3 s0 s1 s2 s3 c0 c1 c2 p0 r0 t0 t1 t2 t3 z0 f0 : Nat) (ea : Nat → Nat) (R : Rf) (N : Rf) (B : Rf) (S : Sv) (C : Ca) (P : Nat → Int32) (Q : Tr) (K : Tk) (X : F4) (fd : Nat → Int32) (tl : Int32) (ik : Int32) (a1 : Int32) (a2 : Int32) (a3 : Int32) (a4 : Int32) {r : Int32} {B' : Rf} {fd' : Nat → Int32} (hf : fX6_ahead R B fd a1 a2 a3 a4 = some (r, B', fd')) : Ct l yX6_ahead wsX6_ahead (rmm 6 137) g (wV g v0 u0 u1 u2 u3 k0 k1 k2 k3 h0 h1 h2 h3 s0 s1 s2 s3 c0 c1 c2 p0 r0 t0 t1 t2 t3 z0 f0 ea R N B S C P Q K X fd tl ik) (wV g v0 u0 u1 u2 u3 k0 k1 k2 k3 h0 h1 h2 h3 s0 s1 s2 s3 c0 c1 c2 p0 r0 t0 t1 t2 t3 z0 f0 ea R N (B') S C P Q K X (fd') tl ik) [.ref v0, .int a1, .int a2, .int a3, .int a4] (some (.int r)) := by
  refine Ct.mk (by decide) rfl (Nat.le_of_ble_eq_true rfl) ?_
  intro p e s m args below meth c A ls hx hb hr hml hts hown hlocks hA hE hP hD hS hl hAe
  have hown : s.vm.findClass RX6 = some m.cls := hown
  have hl : lv_has ls 7 [(0, .ref v0), (1, .int a1), (2, .int a2), (3, .int a3), (4, .int a4)] := hl
  have w1 := hts (.constant RX6 73 (-1000001)) (List.mem_of_getElem? (i := 2) rfl)
  have w2 := hts (.fieldLink RX6 19 "RainVault" "trial" "LRainVault$Roof;") (List.mem_of_getElem? (i := 4) rfl)
  have w3 := hts (.fieldLink RX6 10 "RainVault" "roof" "LRainVault$Roof;") (List.mem_of_getElem? (i := 1) rfl)
  have w4 := hts (.constant RX6 143 (-1000005)) (List.mem_of_getElem? (i := 3) rfl)
  have J33 : ∀ (B : Rf) (fd : Nat → Int32) (x1 : Int32) (x2 : Int32) (x3 : Int32) (x4 : Int32) (y0 : Int32) (H : Heap) (locs : List Loc) (ls : Array Slot), fX6_ahead_J33 R B fd x1 x2 x3 x4 y0 = some (r, B', fd') → va_P g.1 vwK (wV g v0 u0 u1 u2 u3 k0 k1 k2 k3 h0 h1 h2 h3 s0 s1 s2 s3 c0 c1 c2 p0 r0 t0 t1 t2 t3 z0 f0 ea R N B S C P Q K X fd tl ik) H → va_D A (wV g v0 u0 u1 u2 u3 k0 k1 k2 k3 h0 h1 h2 h3 s0 s1 s2 s3 c0 c1 c2 p0 r0 t0 t1 t2 t3 z0 f0 ea R N B S C P Q K X fd tl ik) → va_S A s.heap H locs → lv_has ls 7 [(0, .ref v0), (1, .int x1), (2, .int x2), (3, .int x3), (4, .int x4)] → W p l e (rmm 6 137) s m args below meth c H locs 0 0 (MQ below (QcG g (wV g v0 u0 u1 u2 u3 k0 k1 k2 k3 h0 h1 h2 h3 s0 s1 s2 s3 c0 c1 c2 p0 r0 t0 t1 t2 t3 z0 f0 ea R N B S C P Q K X fd tl ik) (wV g v0 u0 u1 u2 u3 k0 k1 k2 k3 h0 h1 h2 h3 s0 s1 s2 s3 c0 c1 c2 p0 r0 t0 t1 t2 t3 z0 f0 ea R N (B') S C P Q K X (fd') tl ik) (some (.int r)) s.heap.size) args s 0 0 A) (F0 m 33 ls [.int y0]) := by
    intro B fd x1 x2 x3 x4 y0 H locs ls hf hP hD hS hl
    unfold fX6_ahead_J33 at hf
    refine lv_istore (lv' := [(5, .int y0), (0, .ref v0), (1, .int x1), (2, .int x2), (3, .int x3), (4, .int x4)]) hx hb dX6_ahead_33 hl (by decide) rfl (fun ls hl => ?_)
    refine lv_iload_n hx hb dX6_ahead_35 rfl (lv_at hl 2 rfl) ?_
    refine lv_iload_n hx hb dX6_ahead_36 rfl (lv_at hl 3 rfl) ?_
    obtain ⟨x102, hg, hf⟩ := o1_s hf
    refine Ct.callS (ws' := wV g v0 u0 u1 u2 u3 k0 k1 k2 k3 h0 h1 h2 h3 s0 s1 s2 s3 c0 c1 c2 p0 r0 t0 t1 t2 t3 z0 f0 ea R N B S C P Q K X fd tl ik) (As := [.int x1, .int x2]) (rest := []) (st1 := [.int x102]) (c_X6_isRain l g x1 x2 hg) (va_cwS 2 hts gX6_ahead_X6_isRain rfl rfl rfl q_X6_isRain.2 ⟨Nat.le_of_ble_eq_true rfl, Nat.le_of_ble_eq_true rfl⟩) ⟨hx, hb, hml, hown, hts⟩ hE hP hD hS hA [] rfl rfl rfl rfl rfl hl.1 rfl rfl (Nat.le_of_ble_eq_true rfl) dX6_ahead_37 (fun H locs hP hD hS => ?_)
    refine lv_if_eq (tgt := 58) hx hb dX6_ahead_40 (by decide) (fun hc => ?_) (fun hc => ?_)
    · have hf := if_t hf hc
      refine lv_aload_n hx hb dX6_ahead_58 rfl (lv_at hl 1 rfl) ?_
      refine lv_ldc hx hb hown w1 dX6_ahead_59 ?_
      obtain ⟨x103, fd104, hg, hf⟩ := o2_s hf
      refine Ct.callV (ws' := wV g v0 u0 u1 u2 u3 k0 k1 k2 k3 h0 h1 h2 h3 s0 s1 s2 s3 c0 c1 c2 p0 r0 t0 t1 t2 t3 z0 f0 ea R N B S C P Q K X fd104 tl ik) (As := [.int (-1000001 : Int32)]) (rest := []) (st1 := [.int x103]) (c_X6_finding l g v0 u0 u1 u2 u3 k0 k1 k2 k3 h0 h1 h2 h3 s0 s1 s2 s3 c0 c1 c2 p0 r0 t0 t1 t2 t3 z0 f0 ea R N B S C P Q K X fd tl ik (-1000001 : Int32) hg) (cwV 1 hts gX6_ahead_X6_finding rfl rfl rfl q_X6_finding ⟨Nat.le_of_ble_eq_true rfl, Nat.le_of_ble_eq_true rfl⟩) ⟨hx, hb, hml, hown, hts⟩ hE hP hD hS hA [0, 1, 2, 3, 4, 5, 6, 7, 8, 9, 10, 11, 12, 13, 14, 15, 16, 17, 18, 19, 20, 21, 22, 23, 24, 25, 26, 27, 28, 29, 30, 31, 32, 33, 34, 35] rfl rfl rfl rfl 6 0 rfl rfl rfl rfl hl.1 rfl rfl (Nat.le_of_ble_eq_true rfl) dX6_ahead_61 (fun H locs hP hD hS => ?_)
      cases hf
      exact Ct.iret hx hb hr hlocks hAe hP hD hS dX6_ahead_64
    · have hf := if_f hf hc
      refine lv_iload_n hx hb dX6_ahead_43 rfl (lv_at hl 4 rfl) ?_
      refine lv_iconst (v := (0 : Int32)) hx hb dX6_ahead_44 (by decide) ?_
      refine lv_bipush (v := (100 : Int32)) hx hb dX6_ahead_45 (by decide) ?_
      obtain ⟨x105, hg, hf⟩ := o1_s hf
      refine Ct.callS (ws' := wV g v0 u0 u1 u2 u3 k0 k1 k2 k3 h0 h1 h2 h3 s0 s1 s2 s3 c0 c1 c2 p0 r0 t0 t1 t2 t3 z0 f0 ea R N B S C P Q K X fd tl ik) (As := [.int x3, .int (0 : Int32), .int (100 : Int32)]) (rest := []) (st1 := [.int x105]) (c_X6_isWithin l g x3 (0 : Int32) (100 : Int32) hg) (va_cwS 3 hts gX6_ahead_X6_isWithin rfl rfl rfl q_X6_isWithin.2 ⟨Nat.le_of_ble_eq_true rfl, Nat.le_of_ble_eq_true rfl⟩) ⟨hx, hb, hml, hown, hts⟩ hE hP hD hS hA [] rfl rfl rfl rfl rfl hl.1 rfl rfl (Nat.le_of_ble_eq_true rfl) dX6_ahead_47 (fun H locs hP hD hS => ?_)
      refine lv_if_eq (tgt := 58) hx hb dX6_ahead_50 (by decide) (fun hc => ?_) (fun hc => ?_)
      · have hf := if_t hf hc
        refine lv_aload_n hx hb dX6_ahead_58 rfl (lv_at hl 1 rfl) ?_
        refine lv_ldc hx hb hown w1 dX6_ahead_59 ?_
        obtain ⟨x106, fd107, hg, hf⟩ := o2_s hf
        refine Ct.callV (ws' := wV g v0 u0 u1 u2 u3 k0 k1 k2 k3 h0 h1 h2 h3 s0 s1 s2 s3 c0 c1 c2 p0 r0 t0 t1 t2 t3 z0 f0 ea R N B S C P Q K X fd107 tl ik) (As := [.int (-1000001 : Int32)]) (rest := []) (st1 := [.int x106]) (c_X6_finding l g v0 u0 u1 u2 u3 k0 k1 k2 k3 h0 h1 h2 h3 s0 s1 s2 s3 c0 c1 c2 p0 r0 t0 t1 t2 t3 z0 f0 ea R N B S C P Q K X fd tl ik (-1000001 : Int32) hg) (cwV 1 hts gX6_ahead_X6_finding rfl rfl rfl q_X6_finding ⟨Nat.le_of_ble_eq_true rfl, Nat.le_of_ble_eq_true rfl⟩) ⟨hx, hb, hml, hown, hts⟩ hE hP hD hS hA [0, 1, 2, 3, 4, 5, 6, 7, 8, 9, 10, 11, 12, 13, 14, 15, 16, 17, 18, 19, 20, 21, 22, 23, 24, 25, 26, 27, 28, 29, 30, 31, 32, 33, 34, 35] rfl rfl rfl rfl 6 0 rfl rfl rfl rfl hl.1 rfl rfl (Nat.le_of_ble_eq_true rfl) dX6_ahead_61 (fun H locs hP hD hS => ?_)
        cases hf
        exact Ct.iret hx hb hr hlocks hAe hP hD hS dX6_ahead_64
      · have hf := if_f hf hc
        refine lv_iload hx hb dX6_ahead_53 (lv_at hl 0 rfl) ?_
        refine lv_if_ne (tgt := 65) hx hb dX6_ahead_55 (by decide) (fun hc => ?_) (fun hc => ?_)
        · have hf := if_f hf hc
          refine lv_aload_n hx hb dX6_ahead_65 rfl (lv_at hl 1 rfl) ?_
          refine lv_iload_n hx hb dX6_ahead_66 rfl (lv_at hl 4 rfl) ?_
          obtain ⟨x108, hg, hf⟩ := o1_s hf
          refine Ct.callV (ws' := wV g v0 u0 u1 u2 u3 k0 k1 k2 k3 h0 h1 h2 h3 s0 s1 s2 s3 c0 c1 c2 p0 r0 t0 t1 t2 t3 z0 f0 ea R N B S C P Q K X fd tl ik) (As := [.int x3]) (rest := []) (st1 := [.int x108]) (c_X6_isTooLate l g v0 u0 u1 u2 u3 k0 k1 k2 k3 h0 h1 h2 h3 s0 s1 s2 s3 c0 c1 c2 p0 r0 t0 t1 t2 t3 z0 f0 ea R N B S C P Q K X fd tl ik x3 hg) (cwV 1 hts gX6_ahead_X6_isTooLate rfl rfl rfl q_X6_isTooLate ⟨Nat.le_of_ble_eq_true rfl, Nat.le_of_ble_eq_true rfl⟩) ⟨hx, hb, hml, hown, hts⟩ hE hP hD hS hA [0, 1, 2, 3, 4, 5, 6, 7, 8, 9, 10, 11, 12, 13, 14, 15, 16, 17, 18, 19, 20, 21, 22, 23, 24, 25, 26, 27, 28, 29, 30, 31, 32, 33, 34, 35] rfl rfl rfl rfl 6 0 rfl rfl rfl rfl hl.1 rfl rfl (Nat.le_of_ble_eq_true rfl) dX6_ahead_67 (fun H locs hP hD hS => ?_)
          refine lv_if_eq (tgt := 80) hx hb dX6_ahead_70 (by decide) (fun hc => ?_) (fun hc => ?_)
          · have hf := if_t hf hc
            refine lv_aload_n hx hb dX6_ahead_80 rfl (lv_at hl 1 rfl) ?_
            refine va_get (D := g.1) (ci := 6) (v := .ref h0) (C := RX6) (T := TX6) (N := 11) hx hb hts i_X6_ahead_X6 hown hE.1 hP 0 rfl rfl 2 (by decide) w2 (fun _ h9 => h9) rfl dX6_ahead_81 ?_
            refine lv_aload_n hx hb dX6_ahead_84 rfl (lv_at hl 1 rfl) ?_
            refine va_get (D := g.1) (ci := 6) (v := .ref u0) (C := RX6) (T := TX6) (N := 11) hx hb hts i_X6_ahead_X6 hown hE.1 hP 0 rfl rfl 0 (by decide) w3 (fun _ h9 => h9) rfl dX6_ahead_85 ?_
            obtain ⟨R109, hg, hf⟩ := o1_s hf
            refine Ct.callV (ws' := wV g v0 u0 u1 u2 u3 k0 k1 k2 k3 h0 h1 h2 h3 s0 s1 s2 s3 c0 c1 c2 p0 r0 t0 t1 t2 t3 z0 f0 ea R N R109 S C P Q K X fd tl ik) (As := [.ref u0]) (rest := []) (st1 := []) (c_X1_become l g h0 h1 h2 h3 u0 u1 u2 u3 B R hg) (cwV 1 hts gX6_ahead_X1_become rfl rfl rfl q_X1_become ⟨Nat.le_of_ble_eq_true rfl, Nat.le_of_ble_eq_true rfl⟩) ⟨hx, hb, hml, hown, hts⟩ hE hP hD hS hA [9, 10, 11, 12, 1, 2, 3, 4] rfl rfl rfl rfl 1 9 rfl rfl rfl rfl hl.1 rfl rfl (Nat.le_of_ble_eq_true rfl) dX6_ahead_88 (fun H locs hP hD hS => ?_)
            refine lv_aload_n hx hb dX6_ahead_91 rfl (lv_at hl 1 rfl) ?_
            refine va_get (D := g.1) (ci := 6) (v := .ref h0) (C := RX6) (T := TX6) (N := 11) hx hb hts i_X6_ahead_X6 hown hE.1 hP 0 rfl rfl 2 (by decide) w2 (fun _ h9 => h9) rfl dX6_ahead_92 ?_
            refine lv_iload_n hx hb dX6_ahead_95 rfl (lv_at hl 2 rfl) ?_
            refine lv_iload_n hx hb dX6_ahead_96 rfl (lv_at hl 3 rfl) ?_
            refine lv_iload_n hx hb dX6_ahead_97 rfl (lv_at hl 4 rfl) ?_
            obtain ⟨x110, R111, hg, hf⟩ := o2_s hf
            refine Ct.callV (ws' := wV g v0 u0 u1 u2 u3 k0 k1 k2 k3 h0 h1 h2 h3 s0 s1 s2 s3 c0 c1 c2 p0 r0 t0 t1 t2 t3 z0 f0 ea R N R111 S C P Q K X fd tl ik) (As := [.int x1, .int x2, .int x3]) (rest := []) (st1 := [.int x110]) (c_X1_passHours l g h0 h1 h2 h3 R109 x1 x2 x3 hg) (cwV 3 hts gX6_ahead_X1_passHours rfl rfl rfl q_X1_passHours ⟨Nat.le_of_ble_eq_true rfl, Nat.le_of_ble_eq_true rfl⟩) ⟨hx, hb, hml, hown, hts⟩ hE hP hD hS hA [9, 10, 11, 12] rfl rfl rfl rfl 1 9 rfl rfl rfl rfl hl.1 rfl rfl (Nat.le_of_ble_eq_true rfl) dX6_ahead_98 (fun H locs hP hD hS => ?_)
            refine lv_istore (lv' := [(6, .int x110), (5, .int y0), (0, .ref v0), (1, .int x1), (2, .int x2), (3, .int x3), (4, .int x4)]) hx hb dX6_ahead_101 hl (by decide) rfl (fun ls hl => ?_)
            refine lv_iload hx hb dX6_ahead_103 (lv_at hl 6 rfl) ?_
            by_cases hc0 : x4 = (0 : Int32)
            · have hf := if_t hf hc0
              refine lv_tableIn (off := 31) (tgt := 136) hx hb dX6_ahead_105 (ts_in _ hc0 (by decide)) (ts_hi _ hc0 (by decide)) (ts_of _ hc0 (by decide)) (by decide) ?_
              refine lv_aload_n hx hb dX6_ahead_136 rfl (lv_at hl 2 rfl) ?_
              refine va_get (D := g.1) (ci := 6) (v := .ref h0) (C := RX6) (T := TX6) (N := 11) hx hb hts i_X6_ahead_X6 hown hE.1 hP 0 rfl rfl 2 (by decide) w2 (fun _ h9 => h9) rfl dX6_ahead_137 ?_
              obtain ⟨x112, hg, hf⟩ := o1_s hf
              refine Ct.callV (ws' := wV g v0 u0 u1 u2 u3 k0 k1 k2 k3 h0 h1 h2 h3 s0 s1 s2 s3 c0 c1 c2 p0 r0 t0 t1 t2 t3 z0 f0 ea R N R111 S C P Q K X fd tl ik) (As := []) (rest := []) (st1 := [.int x112]) (c_X1_isOpen l g h0 h1 h2 h3 R111 hg) (cwV 0 hts gX6_ahead_X1_isOpen rfl rfl rfl q_X1_isOpen ⟨Nat.le_of_ble_eq_true rfl, Nat.le_of_ble_eq_true rfl⟩) ⟨hx, hb, hml, hown, hts⟩ hE hP hD hS hA [9, 10, 11, 12] rfl rfl rfl rfl 1 9 rfl rfl rfl rfl hl.1 rfl rfl (Nat.le_of_ble_eq_true rfl) dX6_ahead_140 (fun H locs hP hD hS => ?_)
              refine lv_if_eq (tgt := 150) hx hb dX6_ahead_143 (by decide) (fun hc => ?_) (fun hc => ?_)
              · have hf := if_t hf hc
                refine lv_iconst (v := (0 : Int32)) hx hb dX6_ahead_150 (by decide) ?_
                cases hf
                exact Ct.iret hx hb hr hlocks hAe hP hD hS dX6_ahead_151
              · have hf := if_f hf hc
                refine lv_iconst (v := (1 : Int32)) hx hb dX6_ahead_146 (by decide) ?_
                refine lv_goto (tgt := 151) hx hb dX6_ahead_147 (by decide) ?_
                cases hf
                exact Ct.iret hx hb hr hlocks hAe hP hD hS dX6_ahead_151
            · have hf := if_f hf hc0
              by_cases hc1 : x4 = (1 : Int32)
              · have hf := if_t hf hc1
                refine lv_tableIn (off := 47) (tgt := 152) hx hb dX6_ahead_105 (ts_in _ hc1 (by decide)) (ts_hi _ hc1 (by decide)) (ts_of _ hc1 (by decide)) (by decide) ?_
                refine lv_iload hx hb dX6_ahead_152 (lv_at hl 0 rfl) ?_
                cases hf
                exact Ct.iret hx hb hr hlocks hAe hP hD hS dX6_ahead_154
              · have hf := if_f hf hc1
                by_cases hc2 : x4 = (2 : Int32)
                · have hf := if_t hf hc2
                  refine lv_tableIn (off := 50) (tgt := 155) hx hb dX6_ahead_105 (ts_in _ hc2 (by decide)) (ts_hi _ hc2 (by decide)) (ts_of _ hc2 (by decide)) (by decide) ?_
                  refine lv_aload_n hx hb dX6_ahead_155 rfl (lv_at hl 2 rfl) ?_
                  refine va_get (D := g.1) (ci := 6) (v := .ref h0) (C := RX6) (T := TX6) (N := 11) hx hb hts i_X6_ahead_X6 hown hE.1 hP 0 rfl rfl 2 (by decide) w2 (fun _ h9 => h9) rfl dX6_ahead_156 ?_
                  obtain ⟨x113, hg, hf⟩ := o1_s hf
                  refine Ct.callV (ws' := wV g v0 u0 u1 u2 u3 k0 k1 k2 k3 h0 h1 h2 h3 s0 s1 s2 s3 c0 c1 c2 p0 r0 t0 t1 t2 t3 z0 f0 ea R N R111 S C P Q K X fd tl ik) (As := []) (rest := []) (st1 := [.int x113]) (c_X1_levelsTogether l g h0 h1 h2 h3 R111 hg) (cwV 0 hts gX6_ahead_X1_levelsTogether rfl rfl rfl q_X1_levelsTogether ⟨Nat.le_of_ble_eq_true rfl, Nat.le_of_ble_eq_true rfl⟩) ⟨hx, hb, hml, hown, hts⟩ hE hP hD hS hA [9, 10, 11, 12] rfl rfl rfl rfl 1 9 rfl rfl rfl rfl hl.1 rfl rfl (Nat.le_of_ble_eq_true rfl) dX6_ahead_159 (fun H locs hP hD hS => ?_)
                  cases hf
                  exact Ct.iret hx hb hr hlocks hAe hP hD hS dX6_ahead_162
                · have hf := if_f hf hc2
                  by_cases hc3 : x4 = (3 : Int32)
                  · have hf := if_t hf hc3
                    refine lv_tableIn (off := 58) (tgt := 163) hx hb dX6_ahead_105 (ts_in _ hc3 (by decide)) (ts_hi _ hc3 (by decide)) (ts_of _ hc3 (by decide)) (by decide) ?_
                    refine lv_aload_n hx hb dX6_ahead_163 rfl (lv_at hl 2 rfl) ?_
                    refine va_get (D := g.1) (ci := 6) (v := .ref h0) (C := RX6) (T := TX6) (N := 11) hx hb hts i_X6_ahead_X6 hown hE.1 hP 0 rfl rfl 2 (by decide) w2 (fun _ h9 => h9) rfl dX6_ahead_164 ?_
                    refine va_getN (D := g.1) (ci := 1) (v := .int R111.2.2.2.2.2.2.2.1) (C := RX1) (T := TX1) (N := 9) hx hb hts i_X6_ahead_X1 hown hE.1 hP 9 rfl rfl 7 (by decide) (va_Nw.use rfl (hE.2.1 _ (List.mem_of_getElem? (i := 8) rfl))) (fun _ h9 => h9) rfl dX6_ahead_167 ?_
                    refine lv_aload_n hx hb dX6_ahead_170 rfl (lv_at hl 2 rfl) ?_
                    refine va_get (D := g.1) (ci := 6) (v := .ref u0) (C := RX6) (T := TX6) (N := 11) hx hb hts i_X6_ahead_X6 hown hE.1 hP 0 rfl rfl 0 (by decide) w3 (fun _ h9 => h9) rfl dX6_ahead_171 ?_
                    refine va_getN (D := g.1) (ci := 1) (v := .int R.2.2.2.2.2.2.2.1) (C := RX1) (T := TX1) (N := 9) hx hb hts i_X6_ahead_X1 hown hE.1 hP 1 rfl rfl 7 (by decide) (va_Nw.use rfl (hE.2.1 _ (List.mem_of_getElem? (i := 8) rfl))) (fun _ h9 => h9) rfl dX6_ahead_174 ?_
                    refine lv_isub hx hb dX6_ahead_177 ?_
                    cases hf
                    exact Ct.iret hx hb hr hlocks hAe hP hD hS dX6_ahead_178
                  · have hf := if_f hf hc3
                    have hn0 := lv_neT (a := 0) hc0 (by decide)
                    have hn1 := lv_neT (a := 1) hc1 (by decide)
                    have hn2 := lv_neT (a := 2) hc2 (by decide)
                    have hn3 := lv_neT (a := 3) hc3 (by decide)
                    refine lv_tableOut (tgt := 179) hx hb dX6_ahead_105 (by omega) (by decide) ?_
                    refine lv_aload_n hx hb dX6_ahead_179 rfl (lv_at hl 2 rfl) ?_
                    refine va_get (D := g.1) (ci := 6) (v := .ref h0) (C := RX6) (T := TX6) (N := 11) hx hb hts i_X6_ahead_X6 hown hE.1 hP 0 rfl rfl 2 (by decide) w2 (fun _ h9 => h9) rfl dX6_ahead_180 ?_
                    refine lv_iload hx hb dX6_ahead_183 (lv_at hl 6 rfl) ?_
                    refine lv_iconst (v := (4 : Int32)) hx hb dX6_ahead_185 (by decide) ?_
                    refine lv_isub hx hb dX6_ahead_186 ?_
                    refine lv_iconst (v := (2 : Int32)) hx hb dX6_ahead_187 (by decide) ?_
                    obtain ⟨x114, hg, hf⟩ := o1_s hf
                    refine Ct.callV (ws' := wV g v0 u0 u1 u2 u3 k0 k1 k2 k3 h0 h1 h2 h3 s0 s1 s2 s3 c0 c1 c2 p0 r0 t0 t1 t2 t3 z0 f0 ea R N R111 S C P Q K X fd tl ik) (As := [.int (x4 - (4 : Int32)), .int (2 : Int32)]) (rest := []) (st1 := [.int x114]) (c_X1_get l g h0 h1 h2 h3 R111 (x4 - (4 : Int32)) (2 : Int32) hg) (cwV 2 hts gX6_ahead_X1_get rfl rfl rfl q_X1_get ⟨Nat.le_of_ble_eq_true rfl, Nat.le_of_ble_eq_true rfl⟩) ⟨hx, hb, hml, hown, hts⟩ hE hP hD hS hA [9, 10, 11, 12] rfl rfl rfl rfl 1 9 rfl rfl rfl rfl hl.1 rfl rfl (Nat.le_of_ble_eq_true rfl) dX6_ahead_188 (fun H locs hP hD hS => ?_)
                    cases hf
                    exact Ct.iret hx hb hr hlocks hAe hP hD hS dX6_ahead_191
          · have hf := if_f hf hc
            refine lv_aload_n hx hb dX6_ahead_73 rfl (lv_at hl 1 rfl) ?_
            refine lv_ldc hx hb hown w4 dX6_ahead_74 ?_
            obtain ⟨x115, fd116, hg, hf⟩ := o2_s hf
            refine Ct.callV (ws' := wV g v0 u0 u1 u2 u3 k0 k1 k2 k3 h0 h1 h2 h3 s0 s1 s2 s3 c0 c1 c2 p0 r0 t0 t1 t2 t3 z0 f0 ea R N B S C P Q K X fd116 tl ik) (As := [.int (-1000005 : Int32)]) (rest := []) (st1 := [.int x115]) (c_X6_finding l g v0 u0 u1 u2 u3 k0 k1 k2 k3 h0 h1 h2 h3 s0 s1 s2 s3 c0 c1 c2 p0 r0 t0 t1 t2 t3 z0 f0 ea R N B S C P Q K X fd tl ik (-1000005 : Int32) hg) (cwV 1 hts gX6_ahead_X6_finding rfl rfl rfl q_X6_finding ⟨Nat.le_of_ble_eq_true rfl, Nat.le_of_ble_eq_true rfl⟩) ⟨hx, hb, hml, hown, hts⟩ hE hP hD hS hA [0, 1, 2, 3, 4, 5, 6, 7, 8, 9, 10, 11, 12, 13, 14, 15, 16, 17, 18, 19, 20, 21, 22, 23, 24, 25, 26, 27, 28, 29, 30, 31, 32, 33, 34, 35] rfl rfl rfl rfl 6 0 rfl rfl rfl rfl hl.1 rfl rfl (Nat.le_of_ble_eq_true rfl) dX6_ahead_76 (fun H locs hP hD hS => ?_)
            cases hf
            exact Ct.iret hx hb hr hlocks hAe hP hD hS dX6_ahead_79
        · have hf := if_t hf hc
          refine lv_aload_n hx hb dX6_ahead_58 rfl (lv_at hl 1 rfl) ?_
          refine lv_ldc hx hb hown w1 dX6_ahead_59 ?_
          obtain ⟨x117, fd118, hg, hf⟩ := o2_s hf
          refine Ct.callV (ws' := wV g v0 u0 u1 u2 u3 k0 k1 k2 k3 h0 h1 h2 h3 s0 s1 s2 s3 c0 c1 c2 p0 r0 t0 t1 t2 t3 z0 f0 ea R N B S C P Q K X fd118 tl ik) (As := [.int (-1000001 : Int32)]) (rest := []) (st1 := [.int x117]) (c_X6_finding l g v0 u0 u1 u2 u3 k0 k1 k2 k3 h0 h1 h2 h3 s0 s1 s2 s3 c0 c1 c2 p0 r0 t0 t1 t2 t3 z0 f0 ea R N B S C P Q K X fd tl ik (-1000001 : Int32) hg) (cwV 1 hts gX6_ahead_X6_finding rfl rfl rfl q_X6_finding ⟨Nat.le_of_ble_eq_true rfl, Nat.le_of_ble_eq_true rfl⟩) ⟨hx, hb, hml, hown, hts⟩ hE hP hD hS hA [0, 1, 2, 3, 4, 5, 6, 7, 8, 9, 10, 11, 12, 13, 14, 15, 16, 17, 18, 19, 20, 21, 22, 23, 24, 25, 26, 27, 28, 29, 30, 31, 32, 33, 34, 35] rfl rfl rfl rfl 6 0 rfl rfl rfl rfl hl.1 rfl rfl (Nat.le_of_ble_eq_true rfl) dX6_ahead_61 (fun H locs hP hD hS => ?_)
          cases hf
          exact Ct.iret hx hb hr hlocks hAe hP hD hS dX6_ahead_64
  have J28 : ∀ (B : Rf) (fd : Nat → Int32) (x1 : Int32) (x2 : Int32) (x3 : Int32) (x4 : Int32) (H : Heap) (locs : List Loc) (ls : Array Slot), fX6_ahead_J28 R B fd x1 x2 x3 x4 = some (r, B', fd') → va_P g.1 vwK (wV g v0 u0 u1 u2 u3 k0 k1 k2 k3 h0 h1 h2 h3 s0 s1 s2 s3 c0 c1 c2 p0 r0 t0 t1 t2 t3 z0 f0 ea R N B S C P Q K X fd tl ik) H → va_D A (wV g v0 u0 u1 u2 u3 k0 k1 k2 k3 h0 h1 h2 h3 s0 s1 s2 s3 c0 c1 c2 p0 r0 t0 t1 t2 t3 z0 f0 ea R N B S C P Q K X fd tl ik) → va_S A s.heap H locs → lv_has ls 7 [(0, .ref v0), (1, .int x1), (2, .int x2), (3, .int x3), (4, .int x4)] → W p l e (rmm 6 137) s m args below meth c H locs 0 0 (MQ below (QcG g (wV g v0 u0 u1 u2 u3 k0 k1 k2 k3 h0 h1 h2 h3 s0 s1 s2 s3 c0 c1 c2 p0 r0 t0 t1 t2 t3 z0 f0 ea R N B S C P Q K X fd tl ik) (wV g v0 u0 u1 u2 u3 k0 k1 k2 k3 h0 h1 h2 h3 s0 s1 s2 s3 c0 c1 c2 p0 r0 t0 t1 t2 t3 z0 f0 ea R N (B') S C P Q K X (fd') tl ik) (some (.int r)) s.heap.size) args s 0 0 A) (F0 m 28 ls []) := by
    intro B fd x1 x2 x3 x4 H locs ls hf hP hD hS hl
    unfold fX6_ahead_J28 at hf
    refine lv_iconst (v := (1 : Int32)) hx hb dX6_ahead_28 (by decide) ?_
    refine lv_goto (tgt := 33) hx hb dX6_ahead_29 (by decide) ?_
    exact J33 _ _ _ _ _ _ _ _ _ _  hf hP hD hS (lv_sub hl [0, 1, 2, 3, 4] rfl)
  unfold fX6_ahead at hf
  refine lv_iload hx hb dX6_ahead_0 (lv_at hl 4 rfl) ?_
  refine lv_iconst (v := (0 : Int32)) hx hb dX6_ahead_2 (by decide) ?_
  refine lv_iconst (v := (3 : Int32)) hx hb dX6_ahead_3 (by decide) ?_
  obtain ⟨x101, hg, hf⟩ := o1_s hf
  refine Ct.callS (ws' := wV g v0 u0 u1 u2 u3 k0 k1 k2 k3 h0 h1 h2 h3 s0 s1 s2 s3 c0 c1 c2 p0 r0 t0 t1 t2 t3 z0 f0 ea R N B S C P Q K X fd tl ik) (As := [.int a4, .int (0 : Int32), .int (3 : Int32)]) (rest := []) (st1 := [.int x101]) (c_X6_isWithin l g a4 (0 : Int32) (3 : Int32) hg) (va_cwS 3 hts gX6_ahead_X6_isWithin rfl rfl rfl q_X6_isWithin.2 ⟨Nat.le_of_ble_eq_true rfl, Nat.le_of_ble_eq_true rfl⟩) ⟨hx, hb, hml, hown, hts⟩ hE hP hD hS hA [] rfl rfl rfl rfl rfl hl.1 rfl rfl (Nat.le_of_ble_eq_true rfl) dX6_ahead_4 (fun H locs hP hD hS => ?_)
  refine lv_if_ne (tgt := 28) hx hb dX6_ahead_7 (by decide) (fun hc => ?_) (fun hc => ?_)
  · have hf := if_f hf hc
    exact J28 _ _ _ _ _ _ _ _ _  hf hP hD hS (lv_sub hl [0, 1, 2, 3, 4] rfl)
  · have hf := if_t hf hc
    refine lv_iload hx hb dX6_ahead_10 (lv_at hl 4 rfl) ?_
    refine lv_iconst (v := (4 : Int32)) hx hb dX6_ahead_12 (by decide) ?_
    refine lv_iconst (v := (3 : Int32)) hx hb dX6_ahead_13 (by decide) ?_
    refine lv_aload_n hx hb dX6_ahead_14 rfl (lv_at hl 0 rfl) ?_
    refine va_get (D := g.1) (ci := 6) (v := .ref u0) (C := RX6) (T := TX6) (N := 11) hx hb hts i_X6_ahead_X6 hown hE.1 hP 0 rfl rfl 0 (by decide) w3 (fun _ h9 => h9) rfl dX6_ahead_15 ?_
    refine va_getN (D := g.1) (ci := 1) (v := .int R.2.2.2.1) (C := RX1) (T := TX1) (N := 9) hx hb hts i_X6_ahead_X1 hown hE.1 hP 1 rfl rfl 3 (by decide) (va_Nw.use rfl (hE.2.1 _ (List.mem_of_getElem? (i := 1) rfl))) (fun _ h9 => h9) rfl dX6_ahead_18 ?_
    refine lv_iadd hx hb dX6_ahead_21 ?_
    obtain ⟨x119, hg, hf⟩ := o1_s hf
    refine Ct.callS (ws' := wV g v0 u0 u1 u2 u3 k0 k1 k2 k3 h0 h1 h2 h3 s0 s1 s2 s3 c0 c1 c2 p0 r0 t0 t1 t2 t3 z0 f0 ea R N B S C P Q K X fd tl ik) (As := [.int a4, .int (4 : Int32), .int ((3 : Int32) + R.2.2.2.1)]) (rest := []) (st1 := [.int x119]) (c_X6_isWithin l g a4 (4 : Int32) ((3 : Int32) + R.2.2.2.1) hg) (va_cwS 3 hts gX6_ahead_X6_isWithin rfl rfl rfl q_X6_isWithin.2 ⟨Nat.le_of_ble_eq_true rfl, Nat.le_of_ble_eq_true rfl⟩) ⟨hx, hb, hml, hown, hts⟩ hE hP hD hS hA [] rfl rfl rfl rfl rfl hl.1 rfl rfl (Nat.le_of_ble_eq_true rfl) dX6_ahead_22 (fun H locs hP hD hS => ?_)
    refine lv_if_eq (tgt := 32) hx hb dX6_ahead_25 (by decide) (fun hc => ?_) (fun hc => ?_)
    · have hf := if_t hf hc
      refine lv_iconst (v := (0 : Int32)) hx hb dX6_ahead_32 (by decide) ?_
      exact J33 _ _ _ _ _ _ _ _ _ _  hf hP hD hS (lv_sub hl [0, 1, 2, 3, 4] rfl)
    · have hf := if_f hf hc
      exact J28 _ _ _ _ _ _ _ _ _  hf hP hD hS (lv_sub hl [0, 1, 2, 3, 4] rfl)
def fX6_when_L66 (fd : Nat → Int32) (x1 : Int32) (x2 : Int32) (x3 : Int32) (kx : Rf → Option (Int32 × Rf × (Nat → Int32))) : Nat → Rf → Int32 → Option (Int32 × Rf × (Nat → Int32))
  | 0, _, _ => none
  | k + 1, B, x4 => if x3 < x4 then (kx B) else (o1 (fX1_passHour B x1 x2) (fun R110 => o1 (fX1_isOpen R110) (fun x111 => if x111 = 0 then (fX6_when_L66 fd x1 x2 x3 kx k R110 (x4 + (1 : Int32))) else (some (x4, R110, fd)))))
def fX6_when (R : Rf) (B : Rf) (fd : Nat → Int32) (a1 : Int32) (a2 : Int32) (a3 : Int32) : Option (Int32 × Rf × (Nat → Int32)) := o1 (fX6_isRain a1 a2) (fun x101 => if x101 = 0 then (o2 (fX6_finding fd (-1000001 : Int32)) (fun x102 fd103 => some (x102, B, fd103))) else (o1 (fX6_isWithin a3 (1 : Int32) (100 : Int32)) (fun x104 => if x104 = 0 then (o2 (fX6_finding fd (-1000001 : Int32)) (fun x117 fd118 => some (x117, B, fd118))) else (o1 (fX6_isTooLate R a3) (fun x105 => if x105 = 0 then (o1 (fX1_become B R) (fun R106 => o1 (fX1_isOpen R106) (fun x107 => if x107 = 0 then (fX6_when_L66 fd a1 a2 a3 (fun B112 => o2 (fX6_finding fd (-1000004 : Int32)) (fun x113 fd114 => some (x113, B112, fd114))) fu R106 (1 : Int32)) else (some ((0 : Int32), R106, fd))))) else (o2 (fX6_finding fd (-1000005 : Int32)) (fun x115 fd116 => some (x115, B, fd116))))))))
theorem q_X6_when : yX6_when.cls = RX6 ∧ yX6_when.cls ≠ "java/lang/invoke/MethodHandle" ∧ yX6_when.cls ≠ "java/lang/invoke/VarHandle" ∧ (parseMethodDescriptor yX6_when.desc).map (fun d => d.parameters.length) = some 3 := by decide +kernel
theorem i_X6_when_X6 : ∀ w ∈ u_ws RX6 TX6 11, w ∈ wsX6_when := fun _ h => List.mem_cons_of_mem _ (List.mem_append_left _ (List.mem_append_right _ (h)))
set_option maxHeartbeats 4000000 in
set_option maxRecDepth 100000 in
theorem c_X6_when (l : Launch) (g : gG) (v0 u0 u1 u2 u3 k0 k1 k2 k3 h0 h1 h2 h3 s0 s1 s2 s3 c0 c1 c2 p0 r0 t0 t1 t2 t3 z0 f0 : Nat) (ea : Nat → Nat) (R : Rf) (N : Rf) (B : Rf) (S : Sv) (C : Ca) (P : Nat → Int32) (Q : Tr) (K : Tk) (X : F4) (fd : Nat → Int32) (tl : Int32) (ik : Int32) (a1 : Int32) (a2 : Int32) (a3 : Int32) {r : Int32} {B' : Rf} {fd' : Nat → Int32} (hf : fX6_when R B fd a1 a2 a3 = some (r, B', fd')) : Ct l yX6_when wsX6_when (rmm 5 112) g (wV g v0 u0 u1 u2 u3 k0 k1 k2 k3 h0 h1 h2 h3 s0 s1 s2 s3 c0 c1 c2 p0 r0 t0 t1 t2 t3 z0 f0 ea R N B S C P Q K X fd tl ik) (wV g v0 u0 u1 u2 u3 k0 k1 k2 k3 h0 h1 h2 h3 s0 s1 s2 s3 c0 c1 c2 p0 r0 t0 t1 t2 t3 z0 f0 ea R N (B') S C P Q K X (fd') tl ik) [.ref v0, .int a1, .int a2, .int a3] (some (.int r)) := by
  refine Ct.mk (by decide) rfl (Nat.le_of_ble_eq_true rfl) ?_
  intro p e s m args below meth c A ls hx hb hr hml hts hown hlocks hA hE hP hD hS hl hAe
  have hown : s.vm.findClass RX6 = some m.cls := hown
  have hl : lv_has ls 5 [(0, .ref v0), (1, .int a1), (2, .int a2), (3, .int a3)] := hl
  have w1 := hts (.constant RX6 73 (-1000001)) (List.mem_of_getElem? (i := 1) rfl)
  have w2 := hts (.fieldLink RX6 19 "RainVault" "trial" "LRainVault$Roof;") (List.mem_of_getElem? (i := 3) rfl)
  have w3 := hts (.fieldLink RX6 10 "RainVault" "roof" "LRainVault$Roof;") (List.mem_of_getElem? (i := 4) rfl)
  have w4 := hts (.constant RX6 164 (-1000004)) (List.mem_of_getElem? (i := 5) rfl)
  have w5 := hts (.constant RX6 143 (-1000005)) (List.mem_of_getElem? (i := 2) rfl)
  have L66 : ∀ (fd : Nat → Int32) (x1 : Int32) (x2 : Int32) (x3 : Int32) (kx : Rf → Option (Int32 × Rf × (Nat → Int32))) (k : Nat) (B : Rf) (x4 : Int32) (H : Heap) (locs : List Loc) (ls : Array Slot), fX6_when_L66 fd x1 x2 x3 kx k B x4 = some (r, B', fd') → va_P g.1 vwK (wV g v0 u0 u1 u2 u3 k0 k1 k2 k3 h0 h1 h2 h3 s0 s1 s2 s3 c0 c1 c2 p0 r0 t0 t1 t2 t3 z0 f0 ea R N B S C P Q K X fd tl ik) H → va_D A (wV g v0 u0 u1 u2 u3 k0 k1 k2 k3 h0 h1 h2 h3 s0 s1 s2 s3 c0 c1 c2 p0 r0 t0 t1 t2 t3 z0 f0 ea R N B S C P Q K X fd tl ik) → va_S A s.heap H locs → lv_has ls 5 [(0, .ref v0), (1, .int x1), (2, .int x2), (3, .int x3), (4, .int x4)] → (∀ (B : Rf) (H : Heap) (locs : List Loc) (ls : Array Slot), kx B = some (r, B', fd') → va_P g.1 vwK (wV g v0 u0 u1 u2 u3 k0 k1 k2 k3 h0 h1 h2 h3 s0 s1 s2 s3 c0 c1 c2 p0 r0 t0 t1 t2 t3 z0 f0 ea R N B S C P Q K X fd tl ik) H → va_D A (wV g v0 u0 u1 u2 u3 k0 k1 k2 k3 h0 h1 h2 h3 s0 s1 s2 s3 c0 c1 c2 p0 r0 t0 t1 t2 t3 z0 f0 ea R N B S C P Q K X fd tl ik) → va_S A s.heap H locs → lv_has ls 5 [(0, .ref v0)] → W p l e (rmm 5 112) s m args below meth c H locs 0 0 (MQ below (QcG g (wV g v0 u0 u1 u2 u3 k0 k1 k2 k3 h0 h1 h2 h3 s0 s1 s2 s3 c0 c1 c2 p0 r0 t0 t1 t2 t3 z0 f0 ea R N B S C P Q K X fd tl ik) (wV g v0 u0 u1 u2 u3 k0 k1 k2 k3 h0 h1 h2 h3 s0 s1 s2 s3 c0 c1 c2 p0 r0 t0 t1 t2 t3 z0 f0 ea R N (B') S C P Q K X (fd') tl ik) (some (.int r)) s.heap.size) args s 0 0 A) (F0 m 100 ls [])) → W p l e (rmm 5 112) s m args below meth c H locs 0 0 (MQ below (QcG g (wV g v0 u0 u1 u2 u3 k0 k1 k2 k3 h0 h1 h2 h3 s0 s1 s2 s3 c0 c1 c2 p0 r0 t0 t1 t2 t3 z0 f0 ea R N B S C P Q K X fd tl ik) (wV g v0 u0 u1 u2 u3 k0 k1 k2 k3 h0 h1 h2 h3 s0 s1 s2 s3 c0 c1 c2 p0 r0 t0 t1 t2 t3 z0 f0 ea R N (B') S C P Q K X (fd') tl ik) (some (.int r)) s.heap.size) args s 0 0 A) (F0 m 66 ls []) := by
    intro fd x1 x2 x3 kx k
    induction k with
    | zero => intro B x4 H locs ls hf; exact nomatch (show (none : Option (Int32 × Rf × (Nat → Int32))) = some _ from hf)
    | succ k ih =>
      intro B x4 H locs ls hf hP hD hS hl hk
      rw [fX6_when_L66] at hf
      refine lv_iload hx hb dX6_when_66 (lv_at hl 4 rfl) ?_
      refine lv_iload_n hx hb dX6_when_68 rfl (lv_at hl 3 rfl) ?_
      refine lv_icmp_gt (tgt := 100) hx hb dX6_when_69 (by decide) (fun hc => ?_) (fun hc => ?_)
      · have hf := if_t hf hc
        exact hk _ _ _ _  hf hP hD hS (lv_sub hl [0] rfl)
      · have hf := if_f hf hc
        refine lv_aload_n hx hb dX6_when_72 rfl (lv_at hl 0 rfl) ?_
        refine va_get (D := g.1) (ci := 6) (v := .ref h0) (C := RX6) (T := TX6) (N := 11) hx hb hts i_X6_when_X6 hown hE.1 hP 0 rfl rfl 2 (by decide) w2 (fun _ h9 => h9) rfl dX6_when_73 ?_
        refine lv_iload_n hx hb dX6_when_76 rfl (lv_at hl 1 rfl) ?_
        refine lv_iload_n hx hb dX6_when_77 rfl (lv_at hl 2 rfl) ?_
        obtain ⟨R110, hg, hf⟩ := o1_s hf
        refine Ct.callV (ws' := wV g v0 u0 u1 u2 u3 k0 k1 k2 k3 h0 h1 h2 h3 s0 s1 s2 s3 c0 c1 c2 p0 r0 t0 t1 t2 t3 z0 f0 ea R N R110 S C P Q K X fd tl ik) (As := [.int x1, .int x2]) (rest := []) (st1 := []) (c_X1_passHour l g h0 h1 h2 h3 B x1 x2 hg) (cwV 2 hts gX6_when_X1_passHour rfl rfl rfl q_X1_passHour ⟨Nat.le_of_ble_eq_true rfl, Nat.le_of_ble_eq_true rfl⟩) ⟨hx, hb, hml, hown, hts⟩ hE hP hD hS hA [9, 10, 11, 12] rfl rfl rfl rfl 1 9 rfl rfl rfl rfl hl.1 rfl rfl (Nat.le_of_ble_eq_true rfl) dX6_when_78 (fun H locs hP hD hS => ?_)
        refine lv_aload_n hx hb dX6_when_81 rfl (lv_at hl 0 rfl) ?_
        refine va_get (D := g.1) (ci := 6) (v := .ref h0) (C := RX6) (T := TX6) (N := 11) hx hb hts i_X6_when_X6 hown hE.1 hP 0 rfl rfl 2 (by decide) w2 (fun _ h9 => h9) rfl dX6_when_82 ?_
        obtain ⟨x111, hg, hf⟩ := o1_s hf
        refine Ct.callV (ws' := wV g v0 u0 u1 u2 u3 k0 k1 k2 k3 h0 h1 h2 h3 s0 s1 s2 s3 c0 c1 c2 p0 r0 t0 t1 t2 t3 z0 f0 ea R N R110 S C P Q K X fd tl ik) (As := []) (rest := []) (st1 := [.int x111]) (c_X1_isOpen l g h0 h1 h2 h3 R110 hg) (cwV 0 hts gX6_when_X1_isOpen rfl rfl rfl q_X1_isOpen ⟨Nat.le_of_ble_eq_true rfl, Nat.le_of_ble_eq_true rfl⟩) ⟨hx, hb, hml, hown, hts⟩ hE hP hD hS hA [9, 10, 11, 12] rfl rfl rfl rfl 1 9 rfl rfl rfl rfl hl.1 rfl rfl (Nat.le_of_ble_eq_true rfl) dX6_when_85 (fun H locs hP hD hS => ?_)
        refine lv_if_eq (tgt := 94) hx hb dX6_when_88 (by decide) (fun hc => ?_) (fun hc => ?_)
        · have hf := if_t hf hc
          refine lv_iinc (v := (x4 + (1 : Int32))) (lv' := [(4, .int (x4 + (1 : Int32))), (0, .ref v0), (1, .int x1), (2, .int x2), (3, .int x3)]) hx hb dX6_when_94 hl (k := 4) rfl rfl (by decide) rfl (fun ls hl => ?_)
          refine lv_goto (tgt := 66) hx hb dX6_when_97 (by decide) ?_
          exact ih _ _ _ _ _  hf hP hD hS (lv_sub hl [1, 2, 3, 4, 0] rfl) hk
        · have hf := if_f hf hc
          refine lv_iload hx hb dX6_when_91 (lv_at hl 4 rfl) ?_
          cases hf
          exact Ct.iret hx hb hr hlocks hAe hP hD hS dX6_when_93
  unfold fX6_when at hf
  refine lv_iload_n hx hb dX6_when_0 rfl (lv_at hl 1 rfl) ?_
  refine lv_iload_n hx hb dX6_when_1 rfl (lv_at hl 2 rfl) ?_
  obtain ⟨x101, hg, hf⟩ := o1_s hf
  refine Ct.callS (ws' := wV g v0 u0 u1 u2 u3 k0 k1 k2 k3 h0 h1 h2 h3 s0 s1 s2 s3 c0 c1 c2 p0 r0 t0 t1 t2 t3 z0 f0 ea R N B S C P Q K X fd tl ik) (As := [.int a1, .int a2]) (rest := []) (st1 := [.int x101]) (c_X6_isRain l g a1 a2 hg) (va_cwS 2 hts gX6_when_X6_isRain rfl rfl rfl q_X6_isRain.2 ⟨Nat.le_of_ble_eq_true rfl, Nat.le_of_ble_eq_true rfl⟩) ⟨hx, hb, hml, hown, hts⟩ hE hP hD hS hA [] rfl rfl rfl rfl rfl hl.1 rfl rfl (Nat.le_of_ble_eq_true rfl) dX6_when_2 (fun H locs hP hD hS => ?_)
  refine lv_if_eq (tgt := 18) hx hb dX6_when_5 (by decide) (fun hc => ?_) (fun hc => ?_)
  · have hf := if_t hf hc
    refine lv_aload_n hx hb dX6_when_18 rfl (lv_at hl 0 rfl) ?_
    refine lv_ldc hx hb hown w1 dX6_when_19 ?_
    obtain ⟨x102, fd103, hg, hf⟩ := o2_s hf
    refine Ct.callV (ws' := wV g v0 u0 u1 u2 u3 k0 k1 k2 k3 h0 h1 h2 h3 s0 s1 s2 s3 c0 c1 c2 p0 r0 t0 t1 t2 t3 z0 f0 ea R N B S C P Q K X fd103 tl ik) (As := [.int (-1000001 : Int32)]) (rest := []) (st1 := [.int x102]) (c_X6_finding l g v0 u0 u1 u2 u3 k0 k1 k2 k3 h0 h1 h2 h3 s0 s1 s2 s3 c0 c1 c2 p0 r0 t0 t1 t2 t3 z0 f0 ea R N B S C P Q K X fd tl ik (-1000001 : Int32) hg) (cwV 1 hts gX6_when_X6_finding rfl rfl rfl q_X6_finding ⟨Nat.le_of_ble_eq_true rfl, Nat.le_of_ble_eq_true rfl⟩) ⟨hx, hb, hml, hown, hts⟩ hE hP hD hS hA [0, 1, 2, 3, 4, 5, 6, 7, 8, 9, 10, 11, 12, 13, 14, 15, 16, 17, 18, 19, 20, 21, 22, 23, 24, 25, 26, 27, 28, 29, 30, 31, 32, 33, 34, 35] rfl rfl rfl rfl 6 0 rfl rfl rfl rfl hl.1 rfl rfl (Nat.le_of_ble_eq_true rfl) dX6_when_21 (fun H locs hP hD hS => ?_)
    cases hf
    exact Ct.iret hx hb hr hlocks hAe hP hD hS dX6_when_24
  · have hf := if_f hf hc
    refine lv_iload_n hx hb dX6_when_8 rfl (lv_at hl 3 rfl) ?_
    refine lv_iconst (v := (1 : Int32)) hx hb dX6_when_9 (by decide) ?_
    refine lv_bipush (v := (100 : Int32)) hx hb dX6_when_10 (by decide) ?_
    obtain ⟨x104, hg, hf⟩ := o1_s hf
    refine Ct.callS (ws' := wV g v0 u0 u1 u2 u3 k0 k1 k2 k3 h0 h1 h2 h3 s0 s1 s2 s3 c0 c1 c2 p0 r0 t0 t1 t2 t3 z0 f0 ea R N B S C P Q K X fd tl ik) (As := [.int a3, .int (1 : Int32), .int (100 : Int32)]) (rest := []) (st1 := [.int x104]) (c_X6_isWithin l g a3 (1 : Int32) (100 : Int32) hg) (va_cwS 3 hts gX6_when_X6_isWithin rfl rfl rfl q_X6_isWithin.2 ⟨Nat.le_of_ble_eq_true rfl, Nat.le_of_ble_eq_true rfl⟩) ⟨hx, hb, hml, hown, hts⟩ hE hP hD hS hA [] rfl rfl rfl rfl rfl hl.1 rfl rfl (Nat.le_of_ble_eq_true rfl) dX6_when_12 (fun H locs hP hD hS => ?_)
    refine lv_if_ne (tgt := 25) hx hb dX6_when_15 (by decide) (fun hc => ?_) (fun hc => ?_)
    · have hf := if_f hf hc
      refine lv_aload_n hx hb dX6_when_25 rfl (lv_at hl 0 rfl) ?_
      refine lv_iload_n hx hb dX6_when_26 rfl (lv_at hl 3 rfl) ?_
      obtain ⟨x105, hg, hf⟩ := o1_s hf
      refine Ct.callV (ws' := wV g v0 u0 u1 u2 u3 k0 k1 k2 k3 h0 h1 h2 h3 s0 s1 s2 s3 c0 c1 c2 p0 r0 t0 t1 t2 t3 z0 f0 ea R N B S C P Q K X fd tl ik) (As := [.int a3]) (rest := []) (st1 := [.int x105]) (c_X6_isTooLate l g v0 u0 u1 u2 u3 k0 k1 k2 k3 h0 h1 h2 h3 s0 s1 s2 s3 c0 c1 c2 p0 r0 t0 t1 t2 t3 z0 f0 ea R N B S C P Q K X fd tl ik a3 hg) (cwV 1 hts gX6_when_X6_isTooLate rfl rfl rfl q_X6_isTooLate ⟨Nat.le_of_ble_eq_true rfl, Nat.le_of_ble_eq_true rfl⟩) ⟨hx, hb, hml, hown, hts⟩ hE hP hD hS hA [0, 1, 2, 3, 4, 5, 6, 7, 8, 9, 10, 11, 12, 13, 14, 15, 16, 17, 18, 19, 20, 21, 22, 23, 24, 25, 26, 27, 28, 29, 30, 31, 32, 33, 34, 35] rfl rfl rfl rfl 6 0 rfl rfl rfl rfl hl.1 rfl rfl (Nat.le_of_ble_eq_true rfl) dX6_when_27 (fun H locs hP hD hS => ?_)
      refine lv_if_eq (tgt := 40) hx hb dX6_when_30 (by decide) (fun hc => ?_) (fun hc => ?_)
      · have hf := if_t hf hc
        refine lv_aload_n hx hb dX6_when_40 rfl (lv_at hl 0 rfl) ?_
        refine va_get (D := g.1) (ci := 6) (v := .ref h0) (C := RX6) (T := TX6) (N := 11) hx hb hts i_X6_when_X6 hown hE.1 hP 0 rfl rfl 2 (by decide) w2 (fun _ h9 => h9) rfl dX6_when_41 ?_
        refine lv_aload_n hx hb dX6_when_44 rfl (lv_at hl 0 rfl) ?_
        refine va_get (D := g.1) (ci := 6) (v := .ref u0) (C := RX6) (T := TX6) (N := 11) hx hb hts i_X6_when_X6 hown hE.1 hP 0 rfl rfl 0 (by decide) w3 (fun _ h9 => h9) rfl dX6_when_45 ?_
        obtain ⟨R106, hg, hf⟩ := o1_s hf
        refine Ct.callV (ws' := wV g v0 u0 u1 u2 u3 k0 k1 k2 k3 h0 h1 h2 h3 s0 s1 s2 s3 c0 c1 c2 p0 r0 t0 t1 t2 t3 z0 f0 ea R N R106 S C P Q K X fd tl ik) (As := [.ref u0]) (rest := []) (st1 := []) (c_X1_become l g h0 h1 h2 h3 u0 u1 u2 u3 B R hg) (cwV 1 hts gX6_when_X1_become rfl rfl rfl q_X1_become ⟨Nat.le_of_ble_eq_true rfl, Nat.le_of_ble_eq_true rfl⟩) ⟨hx, hb, hml, hown, hts⟩ hE hP hD hS hA [9, 10, 11, 12, 1, 2, 3, 4] rfl rfl rfl rfl 1 9 rfl rfl rfl rfl hl.1 rfl rfl (Nat.le_of_ble_eq_true rfl) dX6_when_48 (fun H locs hP hD hS => ?_)
        refine lv_aload_n hx hb dX6_when_51 rfl (lv_at hl 0 rfl) ?_
        refine va_get (D := g.1) (ci := 6) (v := .ref h0) (C := RX6) (T := TX6) (N := 11) hx hb hts i_X6_when_X6 hown hE.1 hP 0 rfl rfl 2 (by decide) w2 (fun _ h9 => h9) rfl dX6_when_52 ?_
        obtain ⟨x107, hg, hf⟩ := o1_s hf
        refine Ct.callV (ws' := wV g v0 u0 u1 u2 u3 k0 k1 k2 k3 h0 h1 h2 h3 s0 s1 s2 s3 c0 c1 c2 p0 r0 t0 t1 t2 t3 z0 f0 ea R N R106 S C P Q K X fd tl ik) (As := []) (rest := []) (st1 := [.int x107]) (c_X1_isOpen l g h0 h1 h2 h3 R106 hg) (cwV 0 hts gX6_when_X1_isOpen rfl rfl rfl q_X1_isOpen ⟨Nat.le_of_ble_eq_true rfl, Nat.le_of_ble_eq_true rfl⟩) ⟨hx, hb, hml, hown, hts⟩ hE hP hD hS hA [9, 10, 11, 12] rfl rfl rfl rfl 1 9 rfl rfl rfl rfl hl.1 rfl rfl (Nat.le_of_ble_eq_true rfl) dX6_when_55 (fun H locs hP hD hS => ?_)
        refine lv_if_eq (tgt := 63) hx hb dX6_when_58 (by decide) (fun hc => ?_) (fun hc => ?_)
        · have hf := if_t hf hc
          refine lv_iconst (v := (1 : Int32)) hx hb dX6_when_63 (by decide) ?_
          refine lv_istore (lv' := [(4, .int (1 : Int32)), (0, .ref v0), (1, .int a1), (2, .int a2), (3, .int a3)]) hx hb dX6_when_64 hl (by decide) rfl (fun ls hl => ?_)
          refine L66 _ _ _ _ _ _ _ _ _ _ _  hf hP hD hS (lv_sub hl [1, 2, 3, 4, 0] rfl) (fun B112 H locs ls hf hP hD hS hl => ?_)
          refine lv_aload_n hx hb dX6_when_100 rfl (lv_at hl 0 rfl) ?_
          refine lv_ldc hx hb hown w4 dX6_when_101 ?_
          obtain ⟨x113, fd114, hg, hf⟩ := o2_s hf
          refine Ct.callV (ws' := wV g v0 u0 u1 u2 u3 k0 k1 k2 k3 h0 h1 h2 h3 s0 s1 s2 s3 c0 c1 c2 p0 r0 t0 t1 t2 t3 z0 f0 ea R N B112 S C P Q K X fd114 tl ik) (As := [.int (-1000004 : Int32)]) (rest := []) (st1 := [.int x113]) (c_X6_finding l g v0 u0 u1 u2 u3 k0 k1 k2 k3 h0 h1 h2 h3 s0 s1 s2 s3 c0 c1 c2 p0 r0 t0 t1 t2 t3 z0 f0 ea R N B112 S C P Q K X fd tl ik (-1000004 : Int32) hg) (cwV 1 hts gX6_when_X6_finding rfl rfl rfl q_X6_finding ⟨Nat.le_of_ble_eq_true rfl, Nat.le_of_ble_eq_true rfl⟩) ⟨hx, hb, hml, hown, hts⟩ hE hP hD hS hA [0, 1, 2, 3, 4, 5, 6, 7, 8, 9, 10, 11, 12, 13, 14, 15, 16, 17, 18, 19, 20, 21, 22, 23, 24, 25, 26, 27, 28, 29, 30, 31, 32, 33, 34, 35] rfl rfl rfl rfl 6 0 rfl rfl rfl rfl hl.1 rfl rfl (Nat.le_of_ble_eq_true rfl) dX6_when_103 (fun H locs hP hD hS => ?_)
          cases hf
          exact Ct.iret hx hb hr hlocks hAe hP hD hS dX6_when_106
        · have hf := if_f hf hc
          refine lv_iconst (v := (0 : Int32)) hx hb dX6_when_61 (by decide) ?_
          cases hf
          exact Ct.iret hx hb hr hlocks hAe hP hD hS dX6_when_62
      · have hf := if_f hf hc
        refine lv_aload_n hx hb dX6_when_33 rfl (lv_at hl 0 rfl) ?_
        refine lv_ldc hx hb hown w5 dX6_when_34 ?_
        obtain ⟨x115, fd116, hg, hf⟩ := o2_s hf
        refine Ct.callV (ws' := wV g v0 u0 u1 u2 u3 k0 k1 k2 k3 h0 h1 h2 h3 s0 s1 s2 s3 c0 c1 c2 p0 r0 t0 t1 t2 t3 z0 f0 ea R N B S C P Q K X fd116 tl ik) (As := [.int (-1000005 : Int32)]) (rest := []) (st1 := [.int x115]) (c_X6_finding l g v0 u0 u1 u2 u3 k0 k1 k2 k3 h0 h1 h2 h3 s0 s1 s2 s3 c0 c1 c2 p0 r0 t0 t1 t2 t3 z0 f0 ea R N B S C P Q K X fd tl ik (-1000005 : Int32) hg) (cwV 1 hts gX6_when_X6_finding rfl rfl rfl q_X6_finding ⟨Nat.le_of_ble_eq_true rfl, Nat.le_of_ble_eq_true rfl⟩) ⟨hx, hb, hml, hown, hts⟩ hE hP hD hS hA [0, 1, 2, 3, 4, 5, 6, 7, 8, 9, 10, 11, 12, 13, 14, 15, 16, 17, 18, 19, 20, 21, 22, 23, 24, 25, 26, 27, 28, 29, 30, 31, 32, 33, 34, 35] rfl rfl rfl rfl 6 0 rfl rfl rfl rfl hl.1 rfl rfl (Nat.le_of_ble_eq_true rfl) dX6_when_36 (fun H locs hP hD hS => ?_)
        cases hf
        exact Ct.iret hx hb hr hlocks hAe hP hD hS dX6_when_39
    · have hf := if_t hf hc
      refine lv_aload_n hx hb dX6_when_18 rfl (lv_at hl 0 rfl) ?_
      refine lv_ldc hx hb hown w1 dX6_when_19 ?_
      obtain ⟨x117, fd118, hg, hf⟩ := o2_s hf
      refine Ct.callV (ws' := wV g v0 u0 u1 u2 u3 k0 k1 k2 k3 h0 h1 h2 h3 s0 s1 s2 s3 c0 c1 c2 p0 r0 t0 t1 t2 t3 z0 f0 ea R N B S C P Q K X fd118 tl ik) (As := [.int (-1000001 : Int32)]) (rest := []) (st1 := [.int x117]) (c_X6_finding l g v0 u0 u1 u2 u3 k0 k1 k2 k3 h0 h1 h2 h3 s0 s1 s2 s3 c0 c1 c2 p0 r0 t0 t1 t2 t3 z0 f0 ea R N B S C P Q K X fd tl ik (-1000001 : Int32) hg) (cwV 1 hts gX6_when_X6_finding rfl rfl rfl q_X6_finding ⟨Nat.le_of_ble_eq_true rfl, Nat.le_of_ble_eq_true rfl⟩) ⟨hx, hb, hml, hown, hts⟩ hE hP hD hS hA [0, 1, 2, 3, 4, 5, 6, 7, 8, 9, 10, 11, 12, 13, 14, 15, 16, 17, 18, 19, 20, 21, 22, 23, 24, 25, 26, 27, 28, 29, 30, 31, 32, 33, 34, 35] rfl rfl rfl rfl 6 0 rfl rfl rfl rfl hl.1 rfl rfl (Nat.le_of_ble_eq_true rfl) dX6_when_21 (fun H locs hP hD hS => ?_)
      cases hf
      exact Ct.iret hx hb hr hlocks hAe hP hD hS dX6_when_24
def fX6_faultOfRains (R : Rf) (a1 : Int32) : Option (Int32) := o1 (fX6_isWithin a1 (0 : Int32) (5 : Int32)) (fun x101 => if x101 = 0 then (some (-1000001 : Int32)) else (o1 (fX6_isTooLate R a1) (fun x102 => if x102 = 0 then (some (0 : Int32)) else (some (-1000005 : Int32)))))
theorem q_X6_faultOfRains : yX6_faultOfRains.cls = RX6 ∧ yX6_faultOfRains.cls ≠ "java/lang/invoke/MethodHandle" ∧ yX6_faultOfRains.cls ≠ "java/lang/invoke/VarHandle" ∧ (parseMethodDescriptor yX6_faultOfRains.desc).map (fun d => d.parameters.length) = some 1 := by decide +kernel
set_option maxHeartbeats 4000000 in
set_option maxRecDepth 100000 in
theorem c_X6_faultOfRains (l : Launch) (g : gG) (v0 u0 u1 u2 u3 k0 k1 k2 k3 h0 h1 h2 h3 s0 s1 s2 s3 c0 c1 c2 p0 r0 t0 t1 t2 t3 z0 f0 : Nat) (ea : Nat → Nat) (R : Rf) (N : Rf) (B : Rf) (S : Sv) (C : Ca) (P : Nat → Int32) (Q : Tr) (K : Tk) (X : F4) (fd : Nat → Int32) (tl : Int32) (ik : Int32) (a1 : Int32) {r : Int32} (hf : fX6_faultOfRains R a1 = some r) : Ct l yX6_faultOfRains wsX6_faultOfRains (rmm 1 22) g (wV g v0 u0 u1 u2 u3 k0 k1 k2 k3 h0 h1 h2 h3 s0 s1 s2 s3 c0 c1 c2 p0 r0 t0 t1 t2 t3 z0 f0 ea R N B S C P Q K X fd tl ik) (wV g v0 u0 u1 u2 u3 k0 k1 k2 k3 h0 h1 h2 h3 s0 s1 s2 s3 c0 c1 c2 p0 r0 t0 t1 t2 t3 z0 f0 ea R N B S C P Q K X fd tl ik) [.ref v0, .int a1] (some (.int r)) := by
  refine Ct.mk (by decide) rfl (Nat.le_of_ble_eq_true rfl) ?_
  intro p e s m args below meth c A ls hx hb hr hml hts hown hlocks hA hE hP hD hS hl hAe
  have hown : s.vm.findClass RX6 = some m.cls := hown
  have hl : lv_has ls 2 [(0, .ref v0), (1, .int a1)] := hl
  have w1 := hts (.constant RX6 143 (-1000005)) (List.mem_of_getElem? (i := 2) rfl)
  have w2 := hts (.constant RX6 73 (-1000001)) (List.mem_of_getElem? (i := 1) rfl)
  unfold fX6_faultOfRains at hf
  refine lv_iload_n hx hb dX6_faultOfRains_0 rfl (lv_at hl 1 rfl) ?_
  refine lv_iconst (v := (0 : Int32)) hx hb dX6_faultOfRains_1 (by decide) ?_
  refine lv_iconst (v := (5 : Int32)) hx hb dX6_faultOfRains_2 (by decide) ?_
  obtain ⟨x101, hg, hf⟩ := o1_s hf
  refine Ct.callS (ws' := wV g v0 u0 u1 u2 u3 k0 k1 k2 k3 h0 h1 h2 h3 s0 s1 s2 s3 c0 c1 c2 p0 r0 t0 t1 t2 t3 z0 f0 ea R N B S C P Q K X fd tl ik) (As := [.int a1, .int (0 : Int32), .int (5 : Int32)]) (rest := []) (st1 := [.int x101]) (c_X6_isWithin l g a1 (0 : Int32) (5 : Int32) hg) (va_cwS 3 hts gX6_faultOfRains_X6_isWithin rfl rfl rfl q_X6_isWithin.2 ⟨Nat.le_of_ble_eq_true rfl, Nat.le_of_ble_eq_true rfl⟩) ⟨hx, hb, hml, hown, hts⟩ hE hP hD hS hA [] rfl rfl rfl rfl rfl hl.1 rfl rfl (Nat.le_of_ble_eq_true rfl) dX6_faultOfRains_3 (fun H locs hP hD hS => ?_)
  refine lv_if_ne (tgt := 12) hx hb dX6_faultOfRains_6 (by decide) (fun hc => ?_) (fun hc => ?_)
  · have hf := if_f hf hc
    refine lv_aload_n hx hb dX6_faultOfRains_12 rfl (lv_at hl 0 rfl) ?_
    refine lv_iload_n hx hb dX6_faultOfRains_13 rfl (lv_at hl 1 rfl) ?_
    obtain ⟨x102, hg, hf⟩ := o1_s hf
    refine Ct.callV (ws' := wV g v0 u0 u1 u2 u3 k0 k1 k2 k3 h0 h1 h2 h3 s0 s1 s2 s3 c0 c1 c2 p0 r0 t0 t1 t2 t3 z0 f0 ea R N B S C P Q K X fd tl ik) (As := [.int a1]) (rest := []) (st1 := [.int x102]) (c_X6_isTooLate l g v0 u0 u1 u2 u3 k0 k1 k2 k3 h0 h1 h2 h3 s0 s1 s2 s3 c0 c1 c2 p0 r0 t0 t1 t2 t3 z0 f0 ea R N B S C P Q K X fd tl ik a1 hg) (cwV 1 hts gX6_faultOfRains_X6_isTooLate rfl rfl rfl q_X6_isTooLate ⟨Nat.le_of_ble_eq_true rfl, Nat.le_of_ble_eq_true rfl⟩) ⟨hx, hb, hml, hown, hts⟩ hE hP hD hS hA [0, 1, 2, 3, 4, 5, 6, 7, 8, 9, 10, 11, 12, 13, 14, 15, 16, 17, 18, 19, 20, 21, 22, 23, 24, 25, 26, 27, 28, 29, 30, 31, 32, 33, 34, 35] rfl rfl rfl rfl 6 0 rfl rfl rfl rfl hl.1 rfl rfl (Nat.le_of_ble_eq_true rfl) dX6_faultOfRains_14 (fun H locs hP hD hS => ?_)
    refine lv_if_eq (tgt := 25) hx hb dX6_faultOfRains_17 (by decide) (fun hc => ?_) (fun hc => ?_)
    · have hf := if_t hf hc
      refine lv_iconst (v := (0 : Int32)) hx hb dX6_faultOfRains_25 (by decide) ?_
      cases hf
      exact Ct.iret hx hb hr hlocks hAe hP hD hS dX6_faultOfRains_26
    · have hf := if_f hf hc
      refine lv_ldc hx hb hown w1 dX6_faultOfRains_20 ?_
      refine lv_goto (tgt := 26) hx hb dX6_faultOfRains_22 (by decide) ?_
      cases hf
      exact Ct.iret hx hb hr hlocks hAe hP hD hS dX6_faultOfRains_26
  · have hf := if_t hf hc
    refine lv_ldc hx hb hown w2 dX6_faultOfRains_9 ?_
    cases hf
    exact Ct.iret hx hb hr hlocks hAe hP hD hS dX6_faultOfRains_11
def fX6_rains (R : Rf) (B : Rf) (S : Sv) (fd : Nat → Int32) (a1 : Int32) : Option (Int32 × Rf × Sv × (Nat → Int32)) := o1 (fX6_faultOfRains R a1) (fun x101 => if x101 = 0 then (o2 (fX3_lookThrough S B R a1) (fun S102 R103 => some (S102.2.2.2.2.1, R103, S102, fd))) else (o2 (fX6_finding fd x101) (fun x104 fd105 => some (x104, B, S, fd105))))
theorem q_X6_rains : yX6_rains.cls = RX6 ∧ yX6_rains.cls ≠ "java/lang/invoke/MethodHandle" ∧ yX6_rains.cls ≠ "java/lang/invoke/VarHandle" ∧ (parseMethodDescriptor yX6_rains.desc).map (fun d => d.parameters.length) = some 1 := by decide +kernel
theorem i_X6_rains_X6 : ∀ w ∈ u_ws RX6 TX6 11, w ∈ wsX6_rains := fun _ h => List.mem_cons_of_mem _ (List.mem_append_left _ (List.mem_append_left _ (List.mem_append_right _ (h))))
theorem i_X6_rains_X3 : ∀ w ∈ u_ws RX3 TX3 8, w ∈ wsX6_rains := fun _ h => List.mem_cons_of_mem _ (List.mem_append_left _ (List.mem_append_right _ (h)))
set_option maxHeartbeats 4000000 in
set_option maxRecDepth 100000 in
theorem c_X6_rains (l : Launch) (g : gG) (v0 u0 u1 u2 u3 k0 k1 k2 k3 h0 h1 h2 h3 s0 s1 s2 s3 c0 c1 c2 p0 r0 t0 t1 t2 t3 z0 f0 : Nat) (ea : Nat → Nat) (R : Rf) (N : Rf) (B : Rf) (S : Sv) (C : Ca) (P : Nat → Int32) (Q : Tr) (K : Tk) (X : F4) (fd : Nat → Int32) (tl : Int32) (ik : Int32) (a1 : Int32) {r : Int32} {B' : Rf} {S' : Sv} {fd' : Nat → Int32} (hf : fX6_rains R B S fd a1 = some (r, B', S', fd')) : Ct l yX6_rains wsX6_rains (rmm 6 148) g (wV g v0 u0 u1 u2 u3 k0 k1 k2 k3 h0 h1 h2 h3 s0 s1 s2 s3 c0 c1 c2 p0 r0 t0 t1 t2 t3 z0 f0 ea R N B S C P Q K X fd tl ik) (wV g v0 u0 u1 u2 u3 k0 k1 k2 k3 h0 h1 h2 h3 s0 s1 s2 s3 c0 c1 c2 p0 r0 t0 t1 t2 t3 z0 f0 ea R N (B') (S') C P Q K X (fd') tl ik) [.ref v0, .int a1] (some (.int r)) := by
  refine Ct.mk (by decide) rfl (Nat.le_of_ble_eq_true rfl) ?_
  intro p e s m args below meth c A ls hx hb hr hml hts hown hlocks hA hE hP hD hS hl hAe
  have hown : s.vm.findClass RX6 = some m.cls := hown
  have hl : lv_has ls 3 [(0, .ref v0), (1, .int a1)] := hl
  have w1 := hts (.fieldLink RX6 27 "RainVault" "survey" "LRainVault$Survey;") (List.mem_of_getElem? (i := 1) rfl)
  have w2 := hts (.fieldLink RX6 10 "RainVault" "roof" "LRainVault$Roof;") (List.mem_of_getElem? (i := 2) rfl)
  unfold fX6_rains at hf
  refine lv_aload_n hx hb dX6_rains_0 rfl (lv_at hl 0 rfl) ?_
  refine lv_iload_n hx hb dX6_rains_1 rfl (lv_at hl 1 rfl) ?_
  obtain ⟨x101, hg, hf⟩ := o1_s hf
  refine Ct.callV (ws' := wV g v0 u0 u1 u2 u3 k0 k1 k2 k3 h0 h1 h2 h3 s0 s1 s2 s3 c0 c1 c2 p0 r0 t0 t1 t2 t3 z0 f0 ea R N B S C P Q K X fd tl ik) (As := [.int a1]) (rest := []) (st1 := [.int x101]) (c_X6_faultOfRains l g v0 u0 u1 u2 u3 k0 k1 k2 k3 h0 h1 h2 h3 s0 s1 s2 s3 c0 c1 c2 p0 r0 t0 t1 t2 t3 z0 f0 ea R N B S C P Q K X fd tl ik a1 hg) (cwV 1 hts gX6_rains_X6_faultOfRains rfl rfl rfl q_X6_faultOfRains ⟨Nat.le_of_ble_eq_true rfl, Nat.le_of_ble_eq_true rfl⟩) ⟨hx, hb, hml, hown, hts⟩ hE hP hD hS hA [0, 1, 2, 3, 4, 5, 6, 7, 8, 9, 10, 11, 12, 13, 14, 15, 16, 17, 18, 19, 20, 21, 22, 23, 24, 25, 26, 27, 28, 29, 30, 31, 32, 33, 34, 35] rfl rfl rfl rfl 6 0 rfl rfl rfl rfl hl.1 rfl rfl (Nat.le_of_ble_eq_true rfl) dX6_rains_2 (fun H locs hP hD hS => ?_)
  refine lv_istore_n (lv' := [(2, .int x101), (0, .ref v0), (1, .int a1)]) hx hb dX6_rains_5 rfl hl (by decide) rfl (fun ls hl => ?_)
  refine lv_iload_n hx hb dX6_rains_6 rfl (lv_at hl 0 rfl) ?_
  refine lv_if_eq (tgt := 16) hx hb dX6_rains_7 (by decide) (fun hc => ?_) (fun hc => ?_)
  · have hf := if_t hf hc
    refine lv_aload_n hx hb dX6_rains_16 rfl (lv_at hl 1 rfl) ?_
    refine va_get (D := g.1) (ci := 6) (v := .ref s0) (C := RX6) (T := TX6) (N := 11) hx hb hts i_X6_rains_X6 hown hE.1 hP 0 rfl rfl 3 (by decide) w1 (fun _ h9 => h9) rfl dX6_rains_17 ?_
    refine lv_aload_n hx hb dX6_rains_20 rfl (lv_at hl 1 rfl) ?_
    refine va_get (D := g.1) (ci := 6) (v := .ref u0) (C := RX6) (T := TX6) (N := 11) hx hb hts i_X6_rains_X6 hown hE.1 hP 0 rfl rfl 0 (by decide) w2 (fun _ h9 => h9) rfl dX6_rains_21 ?_
    refine lv_iload_n hx hb dX6_rains_24 rfl (lv_at hl 2 rfl) ?_
    obtain ⟨S102, R103, hg, hf⟩ := o2_s hf
    refine Ct.callV (ws' := wV g v0 u0 u1 u2 u3 k0 k1 k2 k3 h0 h1 h2 h3 s0 s1 s2 s3 c0 c1 c2 p0 r0 t0 t1 t2 t3 z0 f0 ea R N R103 S102 C P Q K X fd tl ik) (As := [.ref u0, .int a1]) (rest := []) (st1 := []) (c_X3_lookThrough l g s0 s1 s2 s3 h0 h1 h2 h3 u0 u1 u2 u3 S B R a1 hg) (cwV 2 hts gX6_rains_X3_lookThrough rfl rfl rfl q_X3_lookThrough ⟨Nat.le_of_ble_eq_true rfl, Nat.le_of_ble_eq_true rfl⟩) ⟨hx, hb, hml, hown, hts⟩ hE hP hD hS hA [13, 14, 15, 16, 9, 10, 11, 12, 1, 2, 3, 4] rfl rfl rfl rfl 3 13 rfl rfl rfl rfl hl.1 rfl rfl (Nat.le_of_ble_eq_true rfl) dX6_rains_25 (fun H locs hP hD hS => ?_)
    refine lv_aload_n hx hb dX6_rains_28 rfl (lv_at hl 1 rfl) ?_
    refine va_get (D := g.1) (ci := 6) (v := .ref s0) (C := RX6) (T := TX6) (N := 11) hx hb hts i_X6_rains_X6 hown hE.1 hP 0 rfl rfl 3 (by decide) w1 (fun _ h9 => h9) rfl dX6_rains_29 ?_
    refine va_getN (D := g.1) (ci := 3) (v := .int S102.2.2.2.2.1) (C := RX3) (T := TX3) (N := 8) hx hb hts i_X6_rains_X3 hown hE.1 hP 13 rfl rfl 5 (by decide) (va_Nw.use rfl (hE.2.1 _ (List.mem_of_getElem? (i := 11) rfl))) (fun _ h9 => h9) rfl dX6_rains_32 ?_
    cases hf
    exact Ct.iret hx hb hr hlocks hAe hP hD hS dX6_rains_35
  · have hf := if_f hf hc
    refine lv_aload_n hx hb dX6_rains_10 rfl (lv_at hl 1 rfl) ?_
    refine lv_iload_n hx hb dX6_rains_11 rfl (lv_at hl 0 rfl) ?_
    obtain ⟨x104, fd105, hg, hf⟩ := o2_s hf
    refine Ct.callV (ws' := wV g v0 u0 u1 u2 u3 k0 k1 k2 k3 h0 h1 h2 h3 s0 s1 s2 s3 c0 c1 c2 p0 r0 t0 t1 t2 t3 z0 f0 ea R N B S C P Q K X fd105 tl ik) (As := [.int x101]) (rest := []) (st1 := [.int x104]) (c_X6_finding l g v0 u0 u1 u2 u3 k0 k1 k2 k3 h0 h1 h2 h3 s0 s1 s2 s3 c0 c1 c2 p0 r0 t0 t1 t2 t3 z0 f0 ea R N B S C P Q K X fd tl ik x101 hg) (cwV 1 hts gX6_rains_X6_finding rfl rfl rfl q_X6_finding ⟨Nat.le_of_ble_eq_true rfl, Nat.le_of_ble_eq_true rfl⟩) ⟨hx, hb, hml, hown, hts⟩ hE hP hD hS hA [0, 1, 2, 3, 4, 5, 6, 7, 8, 9, 10, 11, 12, 13, 14, 15, 16, 17, 18, 19, 20, 21, 22, 23, 24, 25, 26, 27, 28, 29, 30, 31, 32, 33, 34, 35] rfl rfl rfl rfl 6 0 rfl rfl rfl rfl hl.1 rfl rfl (Nat.le_of_ble_eq_true rfl) dX6_rains_12 (fun H locs hP hD hS => ?_)
    cases hf
    exact Ct.iret hx hb hr hlocks hAe hP hD hS dX6_rains_15
def fX6_first_J21 (R : Rf) (B : Rf) (S : Sv) (fd : Nat → Int32) (x1 : Int32) (x2 : Int32) (y0 : Int32) : Option (Int32 × Rf × Sv × (Nat → Int32)) := if y0 = 0 then (o2 (fX3_lookThrough S B R x1) (fun S102 R103 => if S102.2.2.2.2.1 = 0 then (o2 (fX6_finding fd (-1000004 : Int32)) (fun x105 fd106 => some (x105, R103, S102, fd106))) else (o1 (fX6_at 5 S102.2.2.1 x2) (fun x104 => some (x104, R103, S102, fd))))) else (o2 (fX6_finding fd y0) (fun x107 fd108 => some (x107, B, S, fd108)))
def fX6_first (R : Rf) (B : Rf) (S : Sv) (fd : Nat → Int32) (a1 : Int32) (a2 : Int32) : Option (Int32 × Rf × Sv × (Nat → Int32)) := o1 (fX6_isWithin a2 (0 : Int32) (a1 - (1 : Int32))) (fun x101 => if x101 = 0 then (fX6_first_J21 R B S fd a1 a2 (-1000001 : Int32)) else (o1 (fX6_faultOfRains R a1) (fun x109 => fX6_first_J21 R B S fd a1 a2 x109)))
theorem q_X6_first : yX6_first.cls = RX6 ∧ yX6_first.cls ≠ "java/lang/invoke/MethodHandle" ∧ yX6_first.cls ≠ "java/lang/invoke/VarHandle" ∧ (parseMethodDescriptor yX6_first.desc).map (fun d => d.parameters.length) = some 2 := by decide +kernel
theorem i_X6_first_X6 : ∀ w ∈ u_ws RX6 TX6 11, w ∈ wsX6_first := fun _ h => List.mem_cons_of_mem _ (List.mem_append_left _ (List.mem_append_left _ (List.mem_append_right _ (h))))
theorem i_X6_first_X3 : ∀ w ∈ u_ws RX3 TX3 8, w ∈ wsX6_first := fun _ h => List.mem_cons_of_mem _ (List.mem_append_left _ (List.mem_append_right _ (h)))
set_option maxHeartbeats 4000000 in
set_option maxRecDepth 100000 in
theorem c_X6_first (l : Launch) (g : gG) (v0 u0 u1 u2 u3 k0 k1 k2 k3 h0 h1 h2 h3 s0 s1 s2 s3 c0 c1 c2 p0 r0 t0 t1 t2 t3 z0 f0 : Nat) (ea : Nat → Nat) (R : Rf) (N : Rf) (B : Rf) (S : Sv) (C : Ca) (P : Nat → Int32) (Q : Tr) (K : Tk) (X : F4) (fd : Nat → Int32) (tl : Int32) (ik : Int32) (a1 : Int32) (a2 : Int32) {r : Int32} {B' : Rf} {S' : Sv} {fd' : Nat → Int32} (hf : fX6_first R B S fd a1 a2 = some (r, B', S', fd')) : Ct l yX6_first wsX6_first (rmm 6 148) g (wV g v0 u0 u1 u2 u3 k0 k1 k2 k3 h0 h1 h2 h3 s0 s1 s2 s3 c0 c1 c2 p0 r0 t0 t1 t2 t3 z0 f0 ea R N B S C P Q K X fd tl ik) (wV g v0 u0 u1 u2 u3 k0 k1 k2 k3 h0 h1 h2 h3 s0 s1 s2 s3 c0 c1 c2 p0 r0 t0 t1 t2 t3 z0 f0 ea R N (B') (S') C P Q K X (fd') tl ik) [.ref v0, .int a1, .int a2] (some (.int r)) := by
  refine Ct.mk (by decide) rfl (Nat.le_of_ble_eq_true rfl) ?_
  intro p e s m args below meth c A ls hx hb hr hml hts hown hlocks hA hE hP hD hS hl hAe
  have hown : s.vm.findClass RX6 = some m.cls := hown
  have hl : lv_has ls 4 [(0, .ref v0), (1, .int a1), (2, .int a2)] := hl
  have w1 := hts (.constant RX6 73 (-1000001)) (List.mem_of_getElem? (i := 1) rfl)
  have w2 := hts (.fieldLink RX6 27 "RainVault" "survey" "LRainVault$Survey;") (List.mem_of_getElem? (i := 2) rfl)
  have w3 := hts (.fieldLink RX6 10 "RainVault" "roof" "LRainVault$Roof;") (List.mem_of_getElem? (i := 3) rfl)
  have w4 := hts (.constant RX6 164 (-1000004)) (List.mem_of_getElem? (i := 4) rfl)
  have J21 : ∀ (B : Rf) (S : Sv) (fd : Nat → Int32) (x1 : Int32) (x2 : Int32) (y0 : Int32) (H : Heap) (locs : List Loc) (ls : Array Slot), fX6_first_J21 R B S fd x1 x2 y0 = some (r, B', S', fd') → va_P g.1 vwK (wV g v0 u0 u1 u2 u3 k0 k1 k2 k3 h0 h1 h2 h3 s0 s1 s2 s3 c0 c1 c2 p0 r0 t0 t1 t2 t3 z0 f0 ea R N B S C P Q K X fd tl ik) H → va_D A (wV g v0 u0 u1 u2 u3 k0 k1 k2 k3 h0 h1 h2 h3 s0 s1 s2 s3 c0 c1 c2 p0 r0 t0 t1 t2 t3 z0 f0 ea R N B S C P Q K X fd tl ik) → va_S A s.heap H locs → lv_has ls 4 [(0, .ref v0), (1, .int x1), (2, .int x2)] → W p l e (rmm 6 148) s m args below meth c H locs 0 0 (MQ below (QcG g (wV g v0 u0 u1 u2 u3 k0 k1 k2 k3 h0 h1 h2 h3 s0 s1 s2 s3 c0 c1 c2 p0 r0 t0 t1 t2 t3 z0 f0 ea R N B S C P Q K X fd tl ik) (wV g v0 u0 u1 u2 u3 k0 k1 k2 k3 h0 h1 h2 h3 s0 s1 s2 s3 c0 c1 c2 p0 r0 t0 t1 t2 t3 z0 f0 ea R N (B') (S') C P Q K X (fd') tl ik) (some (.int r)) s.heap.size) args s 0 0 A) (F0 m 21 ls [.int y0]) := by
    intro B S fd x1 x2 y0 H locs ls hf hP hD hS hl
    unfold fX6_first_J21 at hf
    refine lv_istore_n (lv' := [(3, .int y0), (0, .ref v0), (1, .int x1), (2, .int x2)]) hx hb dX6_first_21 rfl hl (by decide) rfl (fun ls hl => ?_)
    refine lv_iload_n hx hb dX6_first_22 rfl (lv_at hl 0 rfl) ?_
    refine lv_if_eq (tgt := 32) hx hb dX6_first_23 (by decide) (fun hc => ?_) (fun hc => ?_)
    · have hf := if_t hf hc
      refine lv_aload_n hx hb dX6_first_32 rfl (lv_at hl 1 rfl) ?_
      refine va_get (D := g.1) (ci := 6) (v := .ref s0) (C := RX6) (T := TX6) (N := 11) hx hb hts i_X6_first_X6 hown hE.1 hP 0 rfl rfl 3 (by decide) w2 (fun _ h9 => h9) rfl dX6_first_33 ?_
      refine lv_aload_n hx hb dX6_first_36 rfl (lv_at hl 1 rfl) ?_
      refine va_get (D := g.1) (ci := 6) (v := .ref u0) (C := RX6) (T := TX6) (N := 11) hx hb hts i_X6_first_X6 hown hE.1 hP 0 rfl rfl 0 (by decide) w3 (fun _ h9 => h9) rfl dX6_first_37 ?_
      refine lv_iload_n hx hb dX6_first_40 rfl (lv_at hl 2 rfl) ?_
      obtain ⟨S102, R103, hg, hf⟩ := o2_s hf
      refine Ct.callV (ws' := wV g v0 u0 u1 u2 u3 k0 k1 k2 k3 h0 h1 h2 h3 s0 s1 s2 s3 c0 c1 c2 p0 r0 t0 t1 t2 t3 z0 f0 ea R N R103 S102 C P Q K X fd tl ik) (As := [.ref u0, .int x1]) (rest := []) (st1 := []) (c_X3_lookThrough l g s0 s1 s2 s3 h0 h1 h2 h3 u0 u1 u2 u3 S B R x1 hg) (cwV 2 hts gX6_first_X3_lookThrough rfl rfl rfl q_X3_lookThrough ⟨Nat.le_of_ble_eq_true rfl, Nat.le_of_ble_eq_true rfl⟩) ⟨hx, hb, hml, hown, hts⟩ hE hP hD hS hA [13, 14, 15, 16, 9, 10, 11, 12, 1, 2, 3, 4] rfl rfl rfl rfl 3 13 rfl rfl rfl rfl hl.1 rfl rfl (Nat.le_of_ble_eq_true rfl) dX6_first_41 (fun H locs hP hD hS => ?_)
      refine lv_aload_n hx hb dX6_first_44 rfl (lv_at hl 1 rfl) ?_
      refine va_get (D := g.1) (ci := 6) (v := .ref s0) (C := RX6) (T := TX6) (N := 11) hx hb hts i_X6_first_X6 hown hE.1 hP 0 rfl rfl 3 (by decide) w2 (fun _ h9 => h9) rfl dX6_first_45 ?_
      refine va_getN (D := g.1) (ci := 3) (v := .int S102.2.2.2.2.1) (C := RX3) (T := TX3) (N := 8) hx hb hts i_X6_first_X3 hown hE.1 hP 13 rfl rfl 5 (by decide) (va_Nw.use rfl (hE.2.1 _ (List.mem_of_getElem? (i := 11) rfl))) (fun _ h9 => h9) rfl dX6_first_48 ?_
      refine lv_if_ne (tgt := 63) hx hb dX6_first_51 (by decide) (fun hc => ?_) (fun hc => ?_)
      · have hf := if_f hf hc
        refine lv_aload_n hx hb dX6_first_63 rfl (lv_at hl 1 rfl) ?_
        refine va_get (D := g.1) (ci := 6) (v := .ref s0) (C := RX6) (T := TX6) (N := 11) hx hb hts i_X6_first_X6 hown hE.1 hP 0 rfl rfl 3 (by decide) w2 (fun _ h9 => h9) rfl dX6_first_64 ?_
        refine va_getN (D := g.1) (ci := 3) (v := .ref s3) (C := RX3) (T := TX3) (N := 8) hx hb hts i_X6_first_X3 hown hE.1 hP 13 rfl rfl 3 (by decide) (va_Nw.use rfl (hE.2.1 _ (List.mem_of_getElem? (i := 10) rfl))) (fun _ h9 => h9) rfl dX6_first_67 ?_
        refine lv_iload_n hx hb dX6_first_70 rfl (lv_at hl 3 rfl) ?_
        obtain ⟨x104, hg, hf⟩ := o1_s hf
        refine Ct.callS (ws' := wV g v0 u0 u1 u2 u3 k0 k1 k2 k3 h0 h1 h2 h3 s0 s1 s2 s3 c0 c1 c2 p0 r0 t0 t1 t2 t3 z0 f0 ea R N R103 S102 C P Q K X fd tl ik) (As := [.ref s3, .int x2]) (rest := []) (st1 := [.int x104]) (c_X6_at l g s3 5 S102.2.2.1 x2 hg) (va_cwS 2 hts gX6_first_X6_at rfl rfl rfl q_X6_at.2 ⟨Nat.le_of_ble_eq_true rfl, Nat.le_of_ble_eq_true rfl⟩) ⟨hx, hb, hml, hown, hts⟩ hE hP hD hS hA [16] rfl rfl rfl rfl rfl hl.1 rfl rfl (Nat.le_of_ble_eq_true rfl) dX6_first_71 (fun H locs hP hD hS => ?_)
        cases hf
        exact Ct.iret hx hb hr hlocks hAe hP hD hS dX6_first_74
      · have hf := if_t hf hc
        refine lv_aload_n hx hb dX6_first_54 rfl (lv_at hl 1 rfl) ?_
        refine lv_ldc hx hb hown w4 dX6_first_55 ?_
        obtain ⟨x105, fd106, hg, hf⟩ := o2_s hf
        refine Ct.callV (ws' := wV g v0 u0 u1 u2 u3 k0 k1 k2 k3 h0 h1 h2 h3 s0 s1 s2 s3 c0 c1 c2 p0 r0 t0 t1 t2 t3 z0 f0 ea R N R103 S102 C P Q K X fd106 tl ik) (As := [.int (-1000004 : Int32)]) (rest := []) (st1 := [.int x105]) (c_X6_finding l g v0 u0 u1 u2 u3 k0 k1 k2 k3 h0 h1 h2 h3 s0 s1 s2 s3 c0 c1 c2 p0 r0 t0 t1 t2 t3 z0 f0 ea R N R103 S102 C P Q K X fd tl ik (-1000004 : Int32) hg) (cwV 1 hts gX6_first_X6_finding rfl rfl rfl q_X6_finding ⟨Nat.le_of_ble_eq_true rfl, Nat.le_of_ble_eq_true rfl⟩) ⟨hx, hb, hml, hown, hts⟩ hE hP hD hS hA [0, 1, 2, 3, 4, 5, 6, 7, 8, 9, 10, 11, 12, 13, 14, 15, 16, 17, 18, 19, 20, 21, 22, 23, 24, 25, 26, 27, 28, 29, 30, 31, 32, 33, 34, 35] rfl rfl rfl rfl 6 0 rfl rfl rfl rfl hl.1 rfl rfl (Nat.le_of_ble_eq_true rfl) dX6_first_57 (fun H locs hP hD hS => ?_)
        refine lv_goto (tgt := 74) hx hb dX6_first_60 (by decide) ?_
        cases hf
        exact Ct.iret hx hb hr hlocks hAe hP hD hS dX6_first_74
    · have hf := if_f hf hc
      refine lv_aload_n hx hb dX6_first_26 rfl (lv_at hl 1 rfl) ?_
      refine lv_iload_n hx hb dX6_first_27 rfl (lv_at hl 0 rfl) ?_
      obtain ⟨x107, fd108, hg, hf⟩ := o2_s hf
      refine Ct.callV (ws' := wV g v0 u0 u1 u2 u3 k0 k1 k2 k3 h0 h1 h2 h3 s0 s1 s2 s3 c0 c1 c2 p0 r0 t0 t1 t2 t3 z0 f0 ea R N B S C P Q K X fd108 tl ik) (As := [.int y0]) (rest := []) (st1 := [.int x107]) (c_X6_finding l g v0 u0 u1 u2 u3 k0 k1 k2 k3 h0 h1 h2 h3 s0 s1 s2 s3 c0 c1 c2 p0 r0 t0 t1 t2 t3 z0 f0 ea R N B S C P Q K X fd tl ik y0 hg) (cwV 1 hts gX6_first_X6_finding rfl rfl rfl q_X6_finding ⟨Nat.le_of_ble_eq_true rfl, Nat.le_of_ble_eq_true rfl⟩) ⟨hx, hb, hml, hown, hts⟩ hE hP hD hS hA [0, 1, 2, 3, 4, 5, 6, 7, 8, 9, 10, 11, 12, 13, 14, 15, 16, 17, 18, 19, 20, 21, 22, 23, 24, 25, 26, 27, 28, 29, 30, 31, 32, 33, 34, 35] rfl rfl rfl rfl 6 0 rfl rfl rfl rfl hl.1 rfl rfl (Nat.le_of_ble_eq_true rfl) dX6_first_28 (fun H locs hP hD hS => ?_)
      cases hf
      exact Ct.iret hx hb hr hlocks hAe hP hD hS dX6_first_31
  unfold fX6_first at hf
  refine lv_iload_n hx hb dX6_first_0 rfl (lv_at hl 2 rfl) ?_
  refine lv_iconst (v := (0 : Int32)) hx hb dX6_first_1 (by decide) ?_
  refine lv_iload_n hx hb dX6_first_2 rfl (lv_at hl 1 rfl) ?_
  refine lv_iconst (v := (1 : Int32)) hx hb dX6_first_3 (by decide) ?_
  refine lv_isub hx hb dX6_first_4 ?_
  obtain ⟨x101, hg, hf⟩ := o1_s hf
  refine Ct.callS (ws' := wV g v0 u0 u1 u2 u3 k0 k1 k2 k3 h0 h1 h2 h3 s0 s1 s2 s3 c0 c1 c2 p0 r0 t0 t1 t2 t3 z0 f0 ea R N B S C P Q K X fd tl ik) (As := [.int a2, .int (0 : Int32), .int (a1 - (1 : Int32))]) (rest := []) (st1 := [.int x101]) (c_X6_isWithin l g a2 (0 : Int32) (a1 - (1 : Int32)) hg) (va_cwS 3 hts gX6_first_X6_isWithin rfl rfl rfl q_X6_isWithin.2 ⟨Nat.le_of_ble_eq_true rfl, Nat.le_of_ble_eq_true rfl⟩) ⟨hx, hb, hml, hown, hts⟩ hE hP hD hS hA [] rfl rfl rfl rfl rfl hl.1 rfl rfl (Nat.le_of_ble_eq_true rfl) dX6_first_5 (fun H locs hP hD hS => ?_)
  refine lv_if_eq (tgt := 19) hx hb dX6_first_8 (by decide) (fun hc => ?_) (fun hc => ?_)
  · have hf := if_t hf hc
    refine lv_ldc hx hb hown w1 dX6_first_19 ?_
    exact J21 _ _ _ _ _ _ _ _ _  hf hP hD hS (lv_sub hl [0, 1, 2] rfl)
  · have hf := if_f hf hc
    refine lv_aload_n hx hb dX6_first_11 rfl (lv_at hl 0 rfl) ?_
    refine lv_iload_n hx hb dX6_first_12 rfl (lv_at hl 1 rfl) ?_
    obtain ⟨x109, hg, hf⟩ := o1_s hf
    refine Ct.callV (ws' := wV g v0 u0 u1 u2 u3 k0 k1 k2 k3 h0 h1 h2 h3 s0 s1 s2 s3 c0 c1 c2 p0 r0 t0 t1 t2 t3 z0 f0 ea R N B S C P Q K X fd tl ik) (As := [.int a1]) (rest := []) (st1 := [.int x109]) (c_X6_faultOfRains l g v0 u0 u1 u2 u3 k0 k1 k2 k3 h0 h1 h2 h3 s0 s1 s2 s3 c0 c1 c2 p0 r0 t0 t1 t2 t3 z0 f0 ea R N B S C P Q K X fd tl ik a1 hg) (cwV 1 hts gX6_first_X6_faultOfRains rfl rfl rfl q_X6_faultOfRains ⟨Nat.le_of_ble_eq_true rfl, Nat.le_of_ble_eq_true rfl⟩) ⟨hx, hb, hml, hown, hts⟩ hE hP hD hS hA [0, 1, 2, 3, 4, 5, 6, 7, 8, 9, 10, 11, 12, 13, 14, 15, 16, 17, 18, 19, 20, 21, 22, 23, 24, 25, 26, 27, 28, 29, 30, 31, 32, 33, 34, 35] rfl rfl rfl rfl 6 0 rfl rfl rfl rfl hl.1 rfl rfl (Nat.le_of_ble_eq_true rfl) dX6_first_13 (fun H locs hP hD hS => ?_)
    refine lv_goto (tgt := 21) hx hb dX6_first_16 (by decide) ?_
    exact J21 _ _ _ _ _ _ _ _ _  hf hP hD hS (lv_sub hl [0, 1, 2] rfl)
def fX6_driest (R : Rf) (B : Rf) (S : Sv) (fd : Nat → Int32) (a1 : Int32) : Option (Int32 × Rf × Sv × (Nat → Int32)) := o1 (fX6_faultOfRains R a1) (fun x101 => if x101 = 0 then (o2 (fX3_lookThrough S B R a1) (fun S102 R103 => if S102.2.2.2.2.1 = 0 then (o2 (fX6_finding fd (-1000004 : Int32)) (fun x104 fd105 => some (x104, R103, S102, fd105))) else (some (S102.2.2.2.2.2.1, R103, S102, fd)))) else (o2 (fX6_finding fd x101) (fun x106 fd107 => some (x106, B, S, fd107))))
theorem q_X6_driest : yX6_driest.cls = RX6 ∧ yX6_driest.cls ≠ "java/lang/invoke/MethodHandle" ∧ yX6_driest.cls ≠ "java/lang/invoke/VarHandle" ∧ (parseMethodDescriptor yX6_driest.desc).map (fun d => d.parameters.length) = some 1 := by decide +kernel
theorem i_X6_driest_X6 : ∀ w ∈ u_ws RX6 TX6 11, w ∈ wsX6_driest := fun _ h => List.mem_cons_of_mem _ (List.mem_append_left _ (List.mem_append_left _ (List.mem_append_right _ (h))))
theorem i_X6_driest_X3 : ∀ w ∈ u_ws RX3 TX3 8, w ∈ wsX6_driest := fun _ h => List.mem_cons_of_mem _ (List.mem_append_left _ (List.mem_append_right _ (h)))
set_option maxHeartbeats 4000000 in
set_option maxRecDepth 100000 in
theorem c_X6_driest (l : Launch) (g : gG) (v0 u0 u1 u2 u3 k0 k1 k2 k3 h0 h1 h2 h3 s0 s1 s2 s3 c0 c1 c2 p0 r0 t0 t1 t2 t3 z0 f0 : Nat) (ea : Nat → Nat) (R : Rf) (N : Rf) (B : Rf) (S : Sv) (C : Ca) (P : Nat → Int32) (Q : Tr) (K : Tk) (X : F4) (fd : Nat → Int32) (tl : Int32) (ik : Int32) (a1 : Int32) {r : Int32} {B' : Rf} {S' : Sv} {fd' : Nat → Int32} (hf : fX6_driest R B S fd a1 = some (r, B', S', fd')) : Ct l yX6_driest wsX6_driest (rmm 6 148) g (wV g v0 u0 u1 u2 u3 k0 k1 k2 k3 h0 h1 h2 h3 s0 s1 s2 s3 c0 c1 c2 p0 r0 t0 t1 t2 t3 z0 f0 ea R N B S C P Q K X fd tl ik) (wV g v0 u0 u1 u2 u3 k0 k1 k2 k3 h0 h1 h2 h3 s0 s1 s2 s3 c0 c1 c2 p0 r0 t0 t1 t2 t3 z0 f0 ea R N (B') (S') C P Q K X (fd') tl ik) [.ref v0, .int a1] (some (.int r)) := by
  refine Ct.mk (by decide) rfl (Nat.le_of_ble_eq_true rfl) ?_
  intro p e s m args below meth c A ls hx hb hr hml hts hown hlocks hA hE hP hD hS hl hAe
  have hown : s.vm.findClass RX6 = some m.cls := hown
  have hl : lv_has ls 3 [(0, .ref v0), (1, .int a1)] := hl
  have w1 := hts (.fieldLink RX6 27 "RainVault" "survey" "LRainVault$Survey;") (List.mem_of_getElem? (i := 1) rfl)
  have w2 := hts (.fieldLink RX6 10 "RainVault" "roof" "LRainVault$Roof;") (List.mem_of_getElem? (i := 2) rfl)
  have w3 := hts (.constant RX6 164 (-1000004)) (List.mem_of_getElem? (i := 3) rfl)
  unfold fX6_driest at hf
  refine lv_aload_n hx hb dX6_driest_0 rfl (lv_at hl 0 rfl) ?_
  refine lv_iload_n hx hb dX6_driest_1 rfl (lv_at hl 1 rfl) ?_
  obtain ⟨x101, hg, hf⟩ := o1_s hf
  refine Ct.callV (ws' := wV g v0 u0 u1 u2 u3 k0 k1 k2 k3 h0 h1 h2 h3 s0 s1 s2 s3 c0 c1 c2 p0 r0 t0 t1 t2 t3 z0 f0 ea R N B S C P Q K X fd tl ik) (As := [.int a1]) (rest := []) (st1 := [.int x101]) (c_X6_faultOfRains l g v0 u0 u1 u2 u3 k0 k1 k2 k3 h0 h1 h2 h3 s0 s1 s2 s3 c0 c1 c2 p0 r0 t0 t1 t2 t3 z0 f0 ea R N B S C P Q K X fd tl ik a1 hg) (cwV 1 hts gX6_driest_X6_faultOfRains rfl rfl rfl q_X6_faultOfRains ⟨Nat.le_of_ble_eq_true rfl, Nat.le_of_ble_eq_true rfl⟩) ⟨hx, hb, hml, hown, hts⟩ hE hP hD hS hA [0, 1, 2, 3, 4, 5, 6, 7, 8, 9, 10, 11, 12, 13, 14, 15, 16, 17, 18, 19, 20, 21, 22, 23, 24, 25, 26, 27, 28, 29, 30, 31, 32, 33, 34, 35] rfl rfl rfl rfl 6 0 rfl rfl rfl rfl hl.1 rfl rfl (Nat.le_of_ble_eq_true rfl) dX6_driest_2 (fun H locs hP hD hS => ?_)
  refine lv_istore_n (lv' := [(2, .int x101), (0, .ref v0), (1, .int a1)]) hx hb dX6_driest_5 rfl hl (by decide) rfl (fun ls hl => ?_)
  refine lv_iload_n hx hb dX6_driest_6 rfl (lv_at hl 0 rfl) ?_
  refine lv_if_eq (tgt := 16) hx hb dX6_driest_7 (by decide) (fun hc => ?_) (fun hc => ?_)
  · have hf := if_t hf hc
    refine lv_aload_n hx hb dX6_driest_16 rfl (lv_at hl 1 rfl) ?_
    refine va_get (D := g.1) (ci := 6) (v := .ref s0) (C := RX6) (T := TX6) (N := 11) hx hb hts i_X6_driest_X6 hown hE.1 hP 0 rfl rfl 3 (by decide) w1 (fun _ h9 => h9) rfl dX6_driest_17 ?_
    refine lv_aload_n hx hb dX6_driest_20 rfl (lv_at hl 1 rfl) ?_
    refine va_get (D := g.1) (ci := 6) (v := .ref u0) (C := RX6) (T := TX6) (N := 11) hx hb hts i_X6_driest_X6 hown hE.1 hP 0 rfl rfl 0 (by decide) w2 (fun _ h9 => h9) rfl dX6_driest_21 ?_
    refine lv_iload_n hx hb dX6_driest_24 rfl (lv_at hl 2 rfl) ?_
    obtain ⟨S102, R103, hg, hf⟩ := o2_s hf
    refine Ct.callV (ws' := wV g v0 u0 u1 u2 u3 k0 k1 k2 k3 h0 h1 h2 h3 s0 s1 s2 s3 c0 c1 c2 p0 r0 t0 t1 t2 t3 z0 f0 ea R N R103 S102 C P Q K X fd tl ik) (As := [.ref u0, .int a1]) (rest := []) (st1 := []) (c_X3_lookThrough l g s0 s1 s2 s3 h0 h1 h2 h3 u0 u1 u2 u3 S B R a1 hg) (cwV 2 hts gX6_driest_X3_lookThrough rfl rfl rfl q_X3_lookThrough ⟨Nat.le_of_ble_eq_true rfl, Nat.le_of_ble_eq_true rfl⟩) ⟨hx, hb, hml, hown, hts⟩ hE hP hD hS hA [13, 14, 15, 16, 9, 10, 11, 12, 1, 2, 3, 4] rfl rfl rfl rfl 3 13 rfl rfl rfl rfl hl.1 rfl rfl (Nat.le_of_ble_eq_true rfl) dX6_driest_25 (fun H locs hP hD hS => ?_)
    refine lv_aload_n hx hb dX6_driest_28 rfl (lv_at hl 1 rfl) ?_
    refine va_get (D := g.1) (ci := 6) (v := .ref s0) (C := RX6) (T := TX6) (N := 11) hx hb hts i_X6_driest_X6 hown hE.1 hP 0 rfl rfl 3 (by decide) w1 (fun _ h9 => h9) rfl dX6_driest_29 ?_
    refine va_getN (D := g.1) (ci := 3) (v := .int S102.2.2.2.2.1) (C := RX3) (T := TX3) (N := 8) hx hb hts i_X6_driest_X3 hown hE.1 hP 13 rfl rfl 5 (by decide) (va_Nw.use rfl (hE.2.1 _ (List.mem_of_getElem? (i := 11) rfl))) (fun _ h9 => h9) rfl dX6_driest_32 ?_
    refine lv_if_ne (tgt := 47) hx hb dX6_driest_35 (by decide) (fun hc => ?_) (fun hc => ?_)
    · have hf := if_f hf hc
      refine lv_aload_n hx hb dX6_driest_47 rfl (lv_at hl 1 rfl) ?_
      refine va_get (D := g.1) (ci := 6) (v := .ref s0) (C := RX6) (T := TX6) (N := 11) hx hb hts i_X6_driest_X6 hown hE.1 hP 0 rfl rfl 3 (by decide) w1 (fun _ h9 => h9) rfl dX6_driest_48 ?_
      refine va_getN (D := g.1) (ci := 3) (v := .int S102.2.2.2.2.2.1) (C := RX3) (T := TX3) (N := 8) hx hb hts i_X6_driest_X3 hown hE.1 hP 13 rfl rfl 6 (by decide) (va_Nw.use rfl (hE.2.1 _ (List.mem_of_getElem? (i := 12) rfl))) (fun _ h9 => h9) rfl dX6_driest_51 ?_
      cases hf
      exact Ct.iret hx hb hr hlocks hAe hP hD hS dX6_driest_54
    · have hf := if_t hf hc
      refine lv_aload_n hx hb dX6_driest_38 rfl (lv_at hl 1 rfl) ?_
      refine lv_ldc hx hb hown w3 dX6_driest_39 ?_
      obtain ⟨x104, fd105, hg, hf⟩ := o2_s hf
      refine Ct.callV (ws' := wV g v0 u0 u1 u2 u3 k0 k1 k2 k3 h0 h1 h2 h3 s0 s1 s2 s3 c0 c1 c2 p0 r0 t0 t1 t2 t3 z0 f0 ea R N R103 S102 C P Q K X fd105 tl ik) (As := [.int (-1000004 : Int32)]) (rest := []) (st1 := [.int x104]) (c_X6_finding l g v0 u0 u1 u2 u3 k0 k1 k2 k3 h0 h1 h2 h3 s0 s1 s2 s3 c0 c1 c2 p0 r0 t0 t1 t2 t3 z0 f0 ea R N R103 S102 C P Q K X fd tl ik (-1000004 : Int32) hg) (cwV 1 hts gX6_driest_X6_finding rfl rfl rfl q_X6_finding ⟨Nat.le_of_ble_eq_true rfl, Nat.le_of_ble_eq_true rfl⟩) ⟨hx, hb, hml, hown, hts⟩ hE hP hD hS hA [0, 1, 2, 3, 4, 5, 6, 7, 8, 9, 10, 11, 12, 13, 14, 15, 16, 17, 18, 19, 20, 21, 22, 23, 24, 25, 26, 27, 28, 29, 30, 31, 32, 33, 34, 35] rfl rfl rfl rfl 6 0 rfl rfl rfl rfl hl.1 rfl rfl (Nat.le_of_ble_eq_true rfl) dX6_driest_41 (fun H locs hP hD hS => ?_)
      refine lv_goto (tgt := 54) hx hb dX6_driest_44 (by decide) ?_
      cases hf
      exact Ct.iret hx hb hr hlocks hAe hP hD hS dX6_driest_54
  · have hf := if_f hf hc
    refine lv_aload_n hx hb dX6_driest_10 rfl (lv_at hl 1 rfl) ?_
    refine lv_iload_n hx hb dX6_driest_11 rfl (lv_at hl 0 rfl) ?_
    obtain ⟨x106, fd107, hg, hf⟩ := o2_s hf
    refine Ct.callV (ws' := wV g v0 u0 u1 u2 u3 k0 k1 k2 k3 h0 h1 h2 h3 s0 s1 s2 s3 c0 c1 c2 p0 r0 t0 t1 t2 t3 z0 f0 ea R N B S C P Q K X fd107 tl ik) (As := [.int x101]) (rest := []) (st1 := [.int x106]) (c_X6_finding l g v0 u0 u1 u2 u3 k0 k1 k2 k3 h0 h1 h2 h3 s0 s1 s2 s3 c0 c1 c2 p0 r0 t0 t1 t2 t3 z0 f0 ea R N B S C P Q K X fd tl ik x101 hg) (cwV 1 hts gX6_driest_X6_finding rfl rfl rfl q_X6_finding ⟨Nat.le_of_ble_eq_true rfl, Nat.le_of_ble_eq_true rfl⟩) ⟨hx, hb, hml, hown, hts⟩ hE hP hD hS hA [0, 1, 2, 3, 4, 5, 6, 7, 8, 9, 10, 11, 12, 13, 14, 15, 16, 17, 18, 19, 20, 21, 22, 23, 24, 25, 26, 27, 28, 29, 30, 31, 32, 33, 34, 35] rfl rfl rfl rfl 6 0 rfl rfl rfl rfl hl.1 rfl rfl (Nat.le_of_ble_eq_true rfl) dX6_driest_12 (fun H locs hP hD hS => ?_)
    cases hf
    exact Ct.iret hx hb hr hlocks hAe hP hD hS dX6_driest_15
def fX6_soonest_L17 (R : Rf) (fd : Nat → Int32) (kx : Rf → Sv → Option (Int32 × Rf × Sv × (Nat → Int32))) : Nat → Rf → Sv → Int32 → Option (Int32 × Rf × Sv × (Nat → Int32))
  | 0, _, _, _ => none
  | k + 1, B, S, x1 => if (5 : Int32) < x1 then (kx B S) else (o2 (fX3_lookThrough S B R x1) (fun S104 R105 => if S104.2.2.2.2.1 ≤ 0 then (fX6_soonest_L17 R fd kx k R105 S104 (x1 + (1 : Int32))) else (some (x1, R105, S104, fd))))
def fX6_soonest (R : Rf) (B : Rf) (S : Sv) (fd : Nat → Int32) : Option (Int32 × Rf × Sv × (Nat → Int32)) := o1 (fX6_isTooLate R (5 : Int32)) (fun x101 => if x101 = 0 then (fX6_soonest_L17 R fd (fun B106 S107 => o2 (fX6_finding fd (-1000004 : Int32)) (fun x108 fd109 => some (x108, B106, S107, fd109))) fu B S (0 : Int32)) else (o2 (fX6_finding fd (-1000005 : Int32)) (fun x110 fd111 => some (x110, B, S, fd111))))
theorem q_X6_soonest : yX6_soonest.cls = RX6 ∧ yX6_soonest.cls ≠ "java/lang/invoke/MethodHandle" ∧ yX6_soonest.cls ≠ "java/lang/invoke/VarHandle" ∧ (parseMethodDescriptor yX6_soonest.desc).map (fun d => d.parameters.length) = some 0 := by decide +kernel
theorem i_X6_soonest_X6 : ∀ w ∈ u_ws RX6 TX6 11, w ∈ wsX6_soonest := fun _ h => List.mem_cons_of_mem _ (List.mem_append_left _ (List.mem_append_left _ (List.mem_append_right _ (h))))
theorem i_X6_soonest_X3 : ∀ w ∈ u_ws RX3 TX3 8, w ∈ wsX6_soonest := fun _ h => List.mem_cons_of_mem _ (List.mem_append_left _ (List.mem_append_right _ (h)))
set_option maxHeartbeats 4000000 in
set_option maxRecDepth 100000 in
theorem c_X6_soonest (l : Launch) (g : gG) (v0 u0 u1 u2 u3 k0 k1 k2 k3 h0 h1 h2 h3 s0 s1 s2 s3 c0 c1 c2 p0 r0 t0 t1 t2 t3 z0 f0 : Nat) (ea : Nat → Nat) (R : Rf) (N : Rf) (B : Rf) (S : Sv) (C : Ca) (P : Nat → Int32) (Q : Tr) (K : Tk) (X : F4) (fd : Nat → Int32) (tl : Int32) (ik : Int32) {r : Int32} {B' : Rf} {S' : Sv} {fd' : Nat → Int32} (hf : fX6_soonest R B S fd = some (r, B', S', fd')) : Ct l yX6_soonest wsX6_soonest (rmm 6 148) g (wV g v0 u0 u1 u2 u3 k0 k1 k2 k3 h0 h1 h2 h3 s0 s1 s2 s3 c0 c1 c2 p0 r0 t0 t1 t2 t3 z0 f0 ea R N B S C P Q K X fd tl ik) (wV g v0 u0 u1 u2 u3 k0 k1 k2 k3 h0 h1 h2 h3 s0 s1 s2 s3 c0 c1 c2 p0 r0 t0 t1 t2 t3 z0 f0 ea R N (B') (S') C P Q K X (fd') tl ik) [.ref v0] (some (.int r)) := by
  refine Ct.mk (by decide) rfl (Nat.le_of_ble_eq_true rfl) ?_
  intro p e s m args below meth c A ls hx hb hr hml hts hown hlocks hA hE hP hD hS hl hAe
  have hown : s.vm.findClass RX6 = some m.cls := hown
  have hl : lv_has ls 2 [(0, .ref v0)] := hl
  have w1 := hts (.fieldLink RX6 27 "RainVault" "survey" "LRainVault$Survey;") (List.mem_of_getElem? (i := 2) rfl)
  have w2 := hts (.fieldLink RX6 10 "RainVault" "roof" "LRainVault$Roof;") (List.mem_of_getElem? (i := 3) rfl)
  have w3 := hts (.constant RX6 164 (-1000004)) (List.mem_of_getElem? (i := 4) rfl)
  have w4 := hts (.constant RX6 143 (-1000005)) (List.mem_of_getElem? (i := 1) rfl)
  have L17 : ∀ (fd : Nat → Int32) (kx : Rf → Sv → Option (Int32 × Rf × Sv × (Nat → Int32))) (k : Nat) (B : Rf) (S : Sv) (x1 : Int32) (H : Heap) (locs : List Loc) (ls : Array Slot), fX6_soonest_L17 R fd kx k B S x1 = some (r, B', S', fd') → va_P g.1 vwK (wV g v0 u0 u1 u2 u3 k0 k1 k2 k3 h0 h1 h2 h3 s0 s1 s2 s3 c0 c1 c2 p0 r0 t0 t1 t2 t3 z0 f0 ea R N B S C P Q K X fd tl ik) H → va_D A (wV g v0 u0 u1 u2 u3 k0 k1 k2 k3 h0 h1 h2 h3 s0 s1 s2 s3 c0 c1 c2 p0 r0 t0 t1 t2 t3 z0 f0 ea R N B S C P Q K X fd tl ik) → va_S A s.heap H locs → lv_has ls 2 [(0, .ref v0), (1, .int x1)] → (∀ (B : Rf) (S : Sv) (H : Heap) (locs : List Loc) (ls : Array Slot), kx B S = some (r, B', S', fd') → va_P g.1 vwK (wV g v0 u0 u1 u2 u3 k0 k1 k2 k3 h0 h1 h2 h3 s0 s1 s2 s3 c0 c1 c2 p0 r0 t0 t1 t2 t3 z0 f0 ea R N B S C P Q K X fd tl ik) H → va_D A (wV g v0 u0 u1 u2 u3 k0 k1 k2 k3 h0 h1 h2 h3 s0 s1 s2 s3 c0 c1 c2 p0 r0 t0 t1 t2 t3 z0 f0 ea R N B S C P Q K X fd tl ik) → va_S A s.heap H locs → lv_has ls 2 [(0, .ref v0)] → W p l e (rmm 6 148) s m args below meth c H locs 0 0 (MQ below (QcG g (wV g v0 u0 u1 u2 u3 k0 k1 k2 k3 h0 h1 h2 h3 s0 s1 s2 s3 c0 c1 c2 p0 r0 t0 t1 t2 t3 z0 f0 ea R N B S C P Q K X fd tl ik) (wV g v0 u0 u1 u2 u3 k0 k1 k2 k3 h0 h1 h2 h3 s0 s1 s2 s3 c0 c1 c2 p0 r0 t0 t1 t2 t3 z0 f0 ea R N (B') (S') C P Q K X (fd') tl ik) (some (.int r)) s.heap.size) args s 0 0 A) (F0 m 52 ls [])) → W p l e (rmm 6 148) s m args below meth c H locs 0 0 (MQ below (QcG g (wV g v0 u0 u1 u2 u3 k0 k1 k2 k3 h0 h1 h2 h3 s0 s1 s2 s3 c0 c1 c2 p0 r0 t0 t1 t2 t3 z0 f0 ea R N B S C P Q K X fd tl ik) (wV g v0 u0 u1 u2 u3 k0 k1 k2 k3 h0 h1 h2 h3 s0 s1 s2 s3 c0 c1 c2 p0 r0 t0 t1 t2 t3 z0 f0 ea R N (B') (S') C P Q K X (fd') tl ik) (some (.int r)) s.heap.size) args s 0 0 A) (F0 m 17 ls []) := by
    intro fd kx k
    induction k with
    | zero => intro B S x1 H locs ls hf; exact nomatch (show (none : Option (Int32 × Rf × Sv × (Nat → Int32))) = some _ from hf)
    | succ k ih =>
      intro B S x1 H locs ls hf hP hD hS hl hk
      rw [fX6_soonest_L17] at hf
      refine lv_iload_n hx hb dX6_soonest_17 rfl (lv_at hl 1 rfl) ?_
      refine lv_iconst (v := (5 : Int32)) hx hb dX6_soonest_18 (by decide) ?_
      refine lv_icmp_gt (tgt := 52) hx hb dX6_soonest_19 (by decide) (fun hc => ?_) (fun hc => ?_)
      · have hf := if_t hf hc
        exact hk _ _ _ _ _  hf hP hD hS (lv_sub hl [0] rfl)
      · have hf := if_f hf hc
        refine lv_aload_n hx hb dX6_soonest_22 rfl (lv_at hl 0 rfl) ?_
        refine va_get (D := g.1) (ci := 6) (v := .ref s0) (C := RX6) (T := TX6) (N := 11) hx hb hts i_X6_soonest_X6 hown hE.1 hP 0 rfl rfl 3 (by decide) w1 (fun _ h9 => h9) rfl dX6_soonest_23 ?_
        refine lv_aload_n hx hb dX6_soonest_26 rfl (lv_at hl 0 rfl) ?_
        refine va_get (D := g.1) (ci := 6) (v := .ref u0) (C := RX6) (T := TX6) (N := 11) hx hb hts i_X6_soonest_X6 hown hE.1 hP 0 rfl rfl 0 (by decide) w2 (fun _ h9 => h9) rfl dX6_soonest_27 ?_
        refine lv_iload_n hx hb dX6_soonest_30 rfl (lv_at hl 1 rfl) ?_
        obtain ⟨S104, R105, hg, hf⟩ := o2_s hf
        refine Ct.callV (ws' := wV g v0 u0 u1 u2 u3 k0 k1 k2 k3 h0 h1 h2 h3 s0 s1 s2 s3 c0 c1 c2 p0 r0 t0 t1 t2 t3 z0 f0 ea R N R105 S104 C P Q K X fd tl ik) (As := [.ref u0, .int x1]) (rest := []) (st1 := []) (c_X3_lookThrough l g s0 s1 s2 s3 h0 h1 h2 h3 u0 u1 u2 u3 S B R x1 hg) (cwV 2 hts gX6_soonest_X3_lookThrough rfl rfl rfl q_X3_lookThrough ⟨Nat.le_of_ble_eq_true rfl, Nat.le_of_ble_eq_true rfl⟩) ⟨hx, hb, hml, hown, hts⟩ hE hP hD hS hA [13, 14, 15, 16, 9, 10, 11, 12, 1, 2, 3, 4] rfl rfl rfl rfl 3 13 rfl rfl rfl rfl hl.1 rfl rfl (Nat.le_of_ble_eq_true rfl) dX6_soonest_31 (fun H locs hP hD hS => ?_)
        refine lv_aload_n hx hb dX6_soonest_34 rfl (lv_at hl 0 rfl) ?_
        refine va_get (D := g.1) (ci := 6) (v := .ref s0) (C := RX6) (T := TX6) (N := 11) hx hb hts i_X6_soonest_X6 hown hE.1 hP 0 rfl rfl 3 (by decide) w1 (fun _ h9 => h9) rfl dX6_soonest_35 ?_
        refine va_getN (D := g.1) (ci := 3) (v := .int S104.2.2.2.2.1) (C := RX3) (T := TX3) (N := 8) hx hb hts i_X6_soonest_X3 hown hE.1 hP 13 rfl rfl 5 (by decide) (va_Nw.use rfl (hE.2.1 _ (List.mem_of_getElem? (i := 11) rfl))) (fun _ h9 => h9) rfl dX6_soonest_38 ?_
        refine lv_if_le (tgt := 46) hx hb dX6_soonest_41 (by decide) (fun hc => ?_) (fun hc => ?_)
        · have hf := if_t hf hc
          refine lv_iinc (v := (x1 + (1 : Int32))) (lv' := [(1, .int (x1 + (1 : Int32))), (0, .ref v0)]) hx hb dX6_soonest_46 hl (k := 1) rfl rfl (by decide) rfl (fun ls hl => ?_)
          refine lv_goto (tgt := 17) hx hb dX6_soonest_49 (by decide) ?_
          exact ih _ _ _ _ _ _  hf hP hD hS (lv_sub hl [1, 0] rfl) hk
        · have hf := if_f hf hc
          refine lv_iload_n hx hb dX6_soonest_44 rfl (lv_at hl 1 rfl) ?_
          cases hf
          exact Ct.iret hx hb hr hlocks hAe hP hD hS dX6_soonest_45
  unfold fX6_soonest at hf
  refine lv_aload_n hx hb dX6_soonest_0 rfl (lv_at hl 0 rfl) ?_
  refine lv_iconst (v := (5 : Int32)) hx hb dX6_soonest_1 (by decide) ?_
  obtain ⟨x101, hg, hf⟩ := o1_s hf
  refine Ct.callV (ws' := wV g v0 u0 u1 u2 u3 k0 k1 k2 k3 h0 h1 h2 h3 s0 s1 s2 s3 c0 c1 c2 p0 r0 t0 t1 t2 t3 z0 f0 ea R N B S C P Q K X fd tl ik) (As := [.int (5 : Int32)]) (rest := []) (st1 := [.int x101]) (c_X6_isTooLate l g v0 u0 u1 u2 u3 k0 k1 k2 k3 h0 h1 h2 h3 s0 s1 s2 s3 c0 c1 c2 p0 r0 t0 t1 t2 t3 z0 f0 ea R N B S C P Q K X fd tl ik (5 : Int32) hg) (cwV 1 hts gX6_soonest_X6_isTooLate rfl rfl rfl q_X6_isTooLate ⟨Nat.le_of_ble_eq_true rfl, Nat.le_of_ble_eq_true rfl⟩) ⟨hx, hb, hml, hown, hts⟩ hE hP hD hS hA [0, 1, 2, 3, 4, 5, 6, 7, 8, 9, 10, 11, 12, 13, 14, 15, 16, 17, 18, 19, 20, 21, 22, 23, 24, 25, 26, 27, 28, 29, 30, 31, 32, 33, 34, 35] rfl rfl rfl rfl 6 0 rfl rfl rfl rfl hl.1 rfl rfl (Nat.le_of_ble_eq_true rfl) dX6_soonest_2 (fun H locs hP hD hS => ?_)
  refine lv_if_eq (tgt := 15) hx hb dX6_soonest_5 (by decide) (fun hc => ?_) (fun hc => ?_)
  · have hf := if_t hf hc
    refine lv_iconst (v := (0 : Int32)) hx hb dX6_soonest_15 (by decide) ?_
    refine lv_istore_n (lv' := [(1, .int (0 : Int32)), (0, .ref v0)]) hx hb dX6_soonest_16 rfl hl (by decide) rfl (fun ls hl => ?_)
    refine L17 _ _ _ _ _ _ _ _ _  hf hP hD hS (lv_sub hl [1, 0] rfl) (fun B106 S107 H locs ls hf hP hD hS hl => ?_)
    refine lv_aload_n hx hb dX6_soonest_52 rfl (lv_at hl 0 rfl) ?_
    refine lv_ldc hx hb hown w3 dX6_soonest_53 ?_
    obtain ⟨x108, fd109, hg, hf⟩ := o2_s hf
    refine Ct.callV (ws' := wV g v0 u0 u1 u2 u3 k0 k1 k2 k3 h0 h1 h2 h3 s0 s1 s2 s3 c0 c1 c2 p0 r0 t0 t1 t2 t3 z0 f0 ea R N B106 S107 C P Q K X fd109 tl ik) (As := [.int (-1000004 : Int32)]) (rest := []) (st1 := [.int x108]) (c_X6_finding l g v0 u0 u1 u2 u3 k0 k1 k2 k3 h0 h1 h2 h3 s0 s1 s2 s3 c0 c1 c2 p0 r0 t0 t1 t2 t3 z0 f0 ea R N B106 S107 C P Q K X fd tl ik (-1000004 : Int32) hg) (cwV 1 hts gX6_soonest_X6_finding rfl rfl rfl q_X6_finding ⟨Nat.le_of_ble_eq_true rfl, Nat.le_of_ble_eq_true rfl⟩) ⟨hx, hb, hml, hown, hts⟩ hE hP hD hS hA [0, 1, 2, 3, 4, 5, 6, 7, 8, 9, 10, 11, 12, 13, 14, 15, 16, 17, 18, 19, 20, 21, 22, 23, 24, 25, 26, 27, 28, 29, 30, 31, 32, 33, 34, 35] rfl rfl rfl rfl 6 0 rfl rfl rfl rfl hl.1 rfl rfl (Nat.le_of_ble_eq_true rfl) dX6_soonest_55 (fun H locs hP hD hS => ?_)
    cases hf
    exact Ct.iret hx hb hr hlocks hAe hP hD hS dX6_soonest_58
  · have hf := if_f hf hc
    refine lv_aload_n hx hb dX6_soonest_8 rfl (lv_at hl 0 rfl) ?_
    refine lv_ldc hx hb hown w4 dX6_soonest_9 ?_
    obtain ⟨x110, fd111, hg, hf⟩ := o2_s hf
    refine Ct.callV (ws' := wV g v0 u0 u1 u2 u3 k0 k1 k2 k3 h0 h1 h2 h3 s0 s1 s2 s3 c0 c1 c2 p0 r0 t0 t1 t2 t3 z0 f0 ea R N B S C P Q K X fd111 tl ik) (As := [.int (-1000005 : Int32)]) (rest := []) (st1 := [.int x110]) (c_X6_finding l g v0 u0 u1 u2 u3 k0 k1 k2 k3 h0 h1 h2 h3 s0 s1 s2 s3 c0 c1 c2 p0 r0 t0 t1 t2 t3 z0 f0 ea R N B S C P Q K X fd tl ik (-1000005 : Int32) hg) (cwV 1 hts gX6_soonest_X6_finding rfl rfl rfl q_X6_finding ⟨Nat.le_of_ble_eq_true rfl, Nat.le_of_ble_eq_true rfl⟩) ⟨hx, hb, hml, hown, hts⟩ hE hP hD hS hA [0, 1, 2, 3, 4, 5, 6, 7, 8, 9, 10, 11, 12, 13, 14, 15, 16, 17, 18, 19, 20, 21, 22, 23, 24, 25, 26, 27, 28, 29, 30, 31, 32, 33, 34, 35] rfl rfl rfl rfl 6 0 rfl rfl rfl rfl hl.1 rfl rfl (Nat.le_of_ble_eq_true rfl) dX6_soonest_11 (fun H locs hP hD hS => ?_)
    cases hf
    exact Ct.iret hx hb hr hlocks hAe hP hD hS dX6_soonest_14
def fX6_needed (R : Rf) (B : Rf) (S : Sv) (fd : Nat → Int32) (a1 : Int32) : Option (Int32 × Rf × Sv × (Nat → Int32)) := o1 (fX6_faultOfRains R a1) (fun x101 => if x101 = 0 then (o2 (fX3_lookThrough S B R a1) (fun S102 R103 => if S102.2.2.2.2.1 = 0 then (o2 (fX6_finding fd (-1000004 : Int32)) (fun x104 fd105 => some (x104, R103, S102, fd105))) else (some (S102.2.2.2.2.2.2, R103, S102, fd)))) else (o2 (fX6_finding fd x101) (fun x106 fd107 => some (x106, B, S, fd107))))
theorem q_X6_needed : yX6_needed.cls = RX6 ∧ yX6_needed.cls ≠ "java/lang/invoke/MethodHandle" ∧ yX6_needed.cls ≠ "java/lang/invoke/VarHandle" ∧ (parseMethodDescriptor yX6_needed.desc).map (fun d => d.parameters.length) = some 1 := by decide +kernel
theorem i_X6_needed_X6 : ∀ w ∈ u_ws RX6 TX6 11, w ∈ wsX6_needed := fun _ h => List.mem_cons_of_mem _ (List.mem_append_left _ (List.mem_append_left _ (List.mem_append_right _ (h))))
theorem i_X6_needed_X3 : ∀ w ∈ u_ws RX3 TX3 8, w ∈ wsX6_needed := fun _ h => List.mem_cons_of_mem _ (List.mem_append_left _ (List.mem_append_right _ (h)))
set_option maxHeartbeats 4000000 in
set_option maxRecDepth 100000 in
theorem c_X6_needed (l : Launch) (g : gG) (v0 u0 u1 u2 u3 k0 k1 k2 k3 h0 h1 h2 h3 s0 s1 s2 s3 c0 c1 c2 p0 r0 t0 t1 t2 t3 z0 f0 : Nat) (ea : Nat → Nat) (R : Rf) (N : Rf) (B : Rf) (S : Sv) (C : Ca) (P : Nat → Int32) (Q : Tr) (K : Tk) (X : F4) (fd : Nat → Int32) (tl : Int32) (ik : Int32) (a1 : Int32) {r : Int32} {B' : Rf} {S' : Sv} {fd' : Nat → Int32} (hf : fX6_needed R B S fd a1 = some (r, B', S', fd')) : Ct l yX6_needed wsX6_needed (rmm 6 148) g (wV g v0 u0 u1 u2 u3 k0 k1 k2 k3 h0 h1 h2 h3 s0 s1 s2 s3 c0 c1 c2 p0 r0 t0 t1 t2 t3 z0 f0 ea R N B S C P Q K X fd tl ik) (wV g v0 u0 u1 u2 u3 k0 k1 k2 k3 h0 h1 h2 h3 s0 s1 s2 s3 c0 c1 c2 p0 r0 t0 t1 t2 t3 z0 f0 ea R N (B') (S') C P Q K X (fd') tl ik) [.ref v0, .int a1] (some (.int r)) := by
  refine Ct.mk (by decide) rfl (Nat.le_of_ble_eq_true rfl) ?_
  intro p e s m args below meth c A ls hx hb hr hml hts hown hlocks hA hE hP hD hS hl hAe
  have hown : s.vm.findClass RX6 = some m.cls := hown
  have hl : lv_has ls 3 [(0, .ref v0), (1, .int a1)] := hl
  have w1 := hts (.fieldLink RX6 27 "RainVault" "survey" "LRainVault$Survey;") (List.mem_of_getElem? (i := 1) rfl)
  have w2 := hts (.fieldLink RX6 10 "RainVault" "roof" "LRainVault$Roof;") (List.mem_of_getElem? (i := 2) rfl)
  have w3 := hts (.constant RX6 164 (-1000004)) (List.mem_of_getElem? (i := 3) rfl)
  unfold fX6_needed at hf
  refine lv_aload_n hx hb dX6_needed_0 rfl (lv_at hl 0 rfl) ?_
  refine lv_iload_n hx hb dX6_needed_1 rfl (lv_at hl 1 rfl) ?_
  obtain ⟨x101, hg, hf⟩ := o1_s hf
  refine Ct.callV (ws' := wV g v0 u0 u1 u2 u3 k0 k1 k2 k3 h0 h1 h2 h3 s0 s1 s2 s3 c0 c1 c2 p0 r0 t0 t1 t2 t3 z0 f0 ea R N B S C P Q K X fd tl ik) (As := [.int a1]) (rest := []) (st1 := [.int x101]) (c_X6_faultOfRains l g v0 u0 u1 u2 u3 k0 k1 k2 k3 h0 h1 h2 h3 s0 s1 s2 s3 c0 c1 c2 p0 r0 t0 t1 t2 t3 z0 f0 ea R N B S C P Q K X fd tl ik a1 hg) (cwV 1 hts gX6_needed_X6_faultOfRains rfl rfl rfl q_X6_faultOfRains ⟨Nat.le_of_ble_eq_true rfl, Nat.le_of_ble_eq_true rfl⟩) ⟨hx, hb, hml, hown, hts⟩ hE hP hD hS hA [0, 1, 2, 3, 4, 5, 6, 7, 8, 9, 10, 11, 12, 13, 14, 15, 16, 17, 18, 19, 20, 21, 22, 23, 24, 25, 26, 27, 28, 29, 30, 31, 32, 33, 34, 35] rfl rfl rfl rfl 6 0 rfl rfl rfl rfl hl.1 rfl rfl (Nat.le_of_ble_eq_true rfl) dX6_needed_2 (fun H locs hP hD hS => ?_)
  refine lv_istore_n (lv' := [(2, .int x101), (0, .ref v0), (1, .int a1)]) hx hb dX6_needed_5 rfl hl (by decide) rfl (fun ls hl => ?_)
  refine lv_iload_n hx hb dX6_needed_6 rfl (lv_at hl 0 rfl) ?_
  refine lv_if_eq (tgt := 16) hx hb dX6_needed_7 (by decide) (fun hc => ?_) (fun hc => ?_)
  · have hf := if_t hf hc
    refine lv_aload_n hx hb dX6_needed_16 rfl (lv_at hl 1 rfl) ?_
    refine va_get (D := g.1) (ci := 6) (v := .ref s0) (C := RX6) (T := TX6) (N := 11) hx hb hts i_X6_needed_X6 hown hE.1 hP 0 rfl rfl 3 (by decide) w1 (fun _ h9 => h9) rfl dX6_needed_17 ?_
    refine lv_aload_n hx hb dX6_needed_20 rfl (lv_at hl 1 rfl) ?_
    refine va_get (D := g.1) (ci := 6) (v := .ref u0) (C := RX6) (T := TX6) (N := 11) hx hb hts i_X6_needed_X6 hown hE.1 hP 0 rfl rfl 0 (by decide) w2 (fun _ h9 => h9) rfl dX6_needed_21 ?_
    refine lv_iload_n hx hb dX6_needed_24 rfl (lv_at hl 2 rfl) ?_
    obtain ⟨S102, R103, hg, hf⟩ := o2_s hf
    refine Ct.callV (ws' := wV g v0 u0 u1 u2 u3 k0 k1 k2 k3 h0 h1 h2 h3 s0 s1 s2 s3 c0 c1 c2 p0 r0 t0 t1 t2 t3 z0 f0 ea R N R103 S102 C P Q K X fd tl ik) (As := [.ref u0, .int a1]) (rest := []) (st1 := []) (c_X3_lookThrough l g s0 s1 s2 s3 h0 h1 h2 h3 u0 u1 u2 u3 S B R a1 hg) (cwV 2 hts gX6_needed_X3_lookThrough rfl rfl rfl q_X3_lookThrough ⟨Nat.le_of_ble_eq_true rfl, Nat.le_of_ble_eq_true rfl⟩) ⟨hx, hb, hml, hown, hts⟩ hE hP hD hS hA [13, 14, 15, 16, 9, 10, 11, 12, 1, 2, 3, 4] rfl rfl rfl rfl 3 13 rfl rfl rfl rfl hl.1 rfl rfl (Nat.le_of_ble_eq_true rfl) dX6_needed_25 (fun H locs hP hD hS => ?_)
    refine lv_aload_n hx hb dX6_needed_28 rfl (lv_at hl 1 rfl) ?_
    refine va_get (D := g.1) (ci := 6) (v := .ref s0) (C := RX6) (T := TX6) (N := 11) hx hb hts i_X6_needed_X6 hown hE.1 hP 0 rfl rfl 3 (by decide) w1 (fun _ h9 => h9) rfl dX6_needed_29 ?_
    refine va_getN (D := g.1) (ci := 3) (v := .int S102.2.2.2.2.1) (C := RX3) (T := TX3) (N := 8) hx hb hts i_X6_needed_X3 hown hE.1 hP 13 rfl rfl 5 (by decide) (va_Nw.use rfl (hE.2.1 _ (List.mem_of_getElem? (i := 11) rfl))) (fun _ h9 => h9) rfl dX6_needed_32 ?_
    refine lv_if_ne (tgt := 47) hx hb dX6_needed_35 (by decide) (fun hc => ?_) (fun hc => ?_)
    · have hf := if_f hf hc
      refine lv_aload_n hx hb dX6_needed_47 rfl (lv_at hl 1 rfl) ?_
      refine va_get (D := g.1) (ci := 6) (v := .ref s0) (C := RX6) (T := TX6) (N := 11) hx hb hts i_X6_needed_X6 hown hE.1 hP 0 rfl rfl 3 (by decide) w1 (fun _ h9 => h9) rfl dX6_needed_48 ?_
      refine va_getN (D := g.1) (ci := 3) (v := .int S102.2.2.2.2.2.2) (C := RX3) (T := TX3) (N := 8) hx hb hts i_X6_needed_X3 hown hE.1 hP 13 rfl rfl 7 (by decide) (va_Nw.use rfl (hE.2.1 _ (List.mem_of_getElem? (i := 13) rfl))) (fun _ h9 => h9) rfl dX6_needed_51 ?_
      cases hf
      exact Ct.iret hx hb hr hlocks hAe hP hD hS dX6_needed_54
    · have hf := if_t hf hc
      refine lv_aload_n hx hb dX6_needed_38 rfl (lv_at hl 1 rfl) ?_
      refine lv_ldc hx hb hown w3 dX6_needed_39 ?_
      obtain ⟨x104, fd105, hg, hf⟩ := o2_s hf
      refine Ct.callV (ws' := wV g v0 u0 u1 u2 u3 k0 k1 k2 k3 h0 h1 h2 h3 s0 s1 s2 s3 c0 c1 c2 p0 r0 t0 t1 t2 t3 z0 f0 ea R N R103 S102 C P Q K X fd105 tl ik) (As := [.int (-1000004 : Int32)]) (rest := []) (st1 := [.int x104]) (c_X6_finding l g v0 u0 u1 u2 u3 k0 k1 k2 k3 h0 h1 h2 h3 s0 s1 s2 s3 c0 c1 c2 p0 r0 t0 t1 t2 t3 z0 f0 ea R N R103 S102 C P Q K X fd tl ik (-1000004 : Int32) hg) (cwV 1 hts gX6_needed_X6_finding rfl rfl rfl q_X6_finding ⟨Nat.le_of_ble_eq_true rfl, Nat.le_of_ble_eq_true rfl⟩) ⟨hx, hb, hml, hown, hts⟩ hE hP hD hS hA [0, 1, 2, 3, 4, 5, 6, 7, 8, 9, 10, 11, 12, 13, 14, 15, 16, 17, 18, 19, 20, 21, 22, 23, 24, 25, 26, 27, 28, 29, 30, 31, 32, 33, 34, 35] rfl rfl rfl rfl 6 0 rfl rfl rfl rfl hl.1 rfl rfl (Nat.le_of_ble_eq_true rfl) dX6_needed_41 (fun H locs hP hD hS => ?_)
      refine lv_goto (tgt := 54) hx hb dX6_needed_44 (by decide) ?_
      cases hf
      exact Ct.iret hx hb hr hlocks hAe hP hD hS dX6_needed_54
  · have hf := if_f hf hc
    refine lv_aload_n hx hb dX6_needed_10 rfl (lv_at hl 1 rfl) ?_
    refine lv_iload_n hx hb dX6_needed_11 rfl (lv_at hl 0 rfl) ?_
    obtain ⟨x106, fd107, hg, hf⟩ := o2_s hf
    refine Ct.callV (ws' := wV g v0 u0 u1 u2 u3 k0 k1 k2 k3 h0 h1 h2 h3 s0 s1 s2 s3 c0 c1 c2 p0 r0 t0 t1 t2 t3 z0 f0 ea R N B S C P Q K X fd107 tl ik) (As := [.int x101]) (rest := []) (st1 := [.int x106]) (c_X6_finding l g v0 u0 u1 u2 u3 k0 k1 k2 k3 h0 h1 h2 h3 s0 s1 s2 s3 c0 c1 c2 p0 r0 t0 t1 t2 t3 z0 f0 ea R N B S C P Q K X fd tl ik x101 hg) (cwV 1 hts gX6_needed_X6_finding rfl rfl rfl q_X6_finding ⟨Nat.le_of_ble_eq_true rfl, Nat.le_of_ble_eq_true rfl⟩) ⟨hx, hb, hml, hown, hts⟩ hE hP hD hS hA [0, 1, 2, 3, 4, 5, 6, 7, 8, 9, 10, 11, 12, 13, 14, 15, 16, 17, 18, 19, 20, 21, 22, 23, 24, 25, 26, 27, 28, 29, 30, 31, 32, 33, 34, 35] rfl rfl rfl rfl 6 0 rfl rfl rfl rfl hl.1 rfl rfl (Nat.le_of_ble_eq_true rfl) dX6_needed_12 (fun H locs hP hD hS => ?_)
    cases hf
    exact Ct.iret hx hb hr hlocks hAe hP hD hS dX6_needed_15
def fX6_buckets (R : Rf) (B : Rf) (C : Ca) (fd : Nat → Int32) : Option (Int32 × Rf × Ca × (Nat → Int32)) := o1 (fX1_become B R) (fun R101 => o3 (fX0_fewest C R101) (fun x102 C103 R104 => if 0 ≤ x102 then (some (x102, R104, C103, fd)) else (o2 (fX6_finding fd (-1000004 : Int32)) (fun x105 fd106 => some (x105, R104, C103, fd106)))))
theorem q_X6_buckets : yX6_buckets.cls = RX6 ∧ yX6_buckets.cls ≠ "java/lang/invoke/MethodHandle" ∧ yX6_buckets.cls ≠ "java/lang/invoke/VarHandle" ∧ (parseMethodDescriptor yX6_buckets.desc).map (fun d => d.parameters.length) = some 0 := by decide +kernel
theorem i_X6_buckets_X6 : ∀ w ∈ u_ws RX6 TX6 11, w ∈ wsX6_buckets := fun _ h => List.mem_cons_of_mem _ (List.mem_append_left _ (List.mem_append_left _ (List.mem_append_right _ (h))))
set_option maxHeartbeats 4000000 in
set_option maxRecDepth 100000 in
theorem c_X6_buckets (l : Launch) (g : gG) (v0 u0 u1 u2 u3 k0 k1 k2 k3 h0 h1 h2 h3 s0 s1 s2 s3 c0 c1 c2 p0 r0 t0 t1 t2 t3 z0 f0 : Nat) (ea : Nat → Nat) (R : Rf) (N : Rf) (B : Rf) (S : Sv) (C : Ca) (P : Nat → Int32) (Q : Tr) (K : Tk) (X : F4) (fd : Nat → Int32) (tl : Int32) (ik : Int32) {r : Int32} {B' : Rf} {C' : Ca} {fd' : Nat → Int32} (hf : fX6_buckets R B C fd = some (r, B', C', fd')) : Ct l yX6_buckets wsX6_buckets (rmm 6 135) g (wV g v0 u0 u1 u2 u3 k0 k1 k2 k3 h0 h1 h2 h3 s0 s1 s2 s3 c0 c1 c2 p0 r0 t0 t1 t2 t3 z0 f0 ea R N B S C P Q K X fd tl ik) (wV g v0 u0 u1 u2 u3 k0 k1 k2 k3 h0 h1 h2 h3 s0 s1 s2 s3 c0 c1 c2 p0 r0 t0 t1 t2 t3 z0 f0 ea R N (B') S (C') P Q K X (fd') tl ik) [.ref v0] (some (.int r)) := by
  refine Ct.mk (by decide) rfl (Nat.le_of_ble_eq_true rfl) ?_
  intro p e s m args below meth c A ls hx hb hr hml hts hown hlocks hA hE hP hD hS hl hAe
  have hown : s.vm.findClass RX6 = some m.cls := hown
  have hl : lv_has ls 2 [(0, .ref v0)] := hl
  have w1 := hts (.fieldLink RX6 19 "RainVault" "trial" "LRainVault$Roof;") (List.mem_of_getElem? (i := 1) rfl)
  have w2 := hts (.fieldLink RX6 10 "RainVault" "roof" "LRainVault$Roof;") (List.mem_of_getElem? (i := 2) rfl)
  have w3 := hts (.fieldLink RX6 34 "RainVault" "carrier" "LRainVault$Carrier;") (List.mem_of_getElem? (i := 3) rfl)
  have w4 := hts (.constant RX6 164 (-1000004)) (List.mem_of_getElem? (i := 4) rfl)
  unfold fX6_buckets at hf
  refine lv_aload_n hx hb dX6_buckets_0 rfl (lv_at hl 0 rfl) ?_
  refine va_get (D := g.1) (ci := 6) (v := .ref h0) (C := RX6) (T := TX6) (N := 11) hx hb hts i_X6_buckets_X6 hown hE.1 hP 0 rfl rfl 2 (by decide) w1 (fun _ h9 => h9) rfl dX6_buckets_1 ?_
  refine lv_aload_n hx hb dX6_buckets_4 rfl (lv_at hl 0 rfl) ?_
  refine va_get (D := g.1) (ci := 6) (v := .ref u0) (C := RX6) (T := TX6) (N := 11) hx hb hts i_X6_buckets_X6 hown hE.1 hP 0 rfl rfl 0 (by decide) w2 (fun _ h9 => h9) rfl dX6_buckets_5 ?_
  obtain ⟨R101, hg, hf⟩ := o1_s hf
  refine Ct.callV (ws' := wV g v0 u0 u1 u2 u3 k0 k1 k2 k3 h0 h1 h2 h3 s0 s1 s2 s3 c0 c1 c2 p0 r0 t0 t1 t2 t3 z0 f0 ea R N R101 S C P Q K X fd tl ik) (As := [.ref u0]) (rest := []) (st1 := []) (c_X1_become l g h0 h1 h2 h3 u0 u1 u2 u3 B R hg) (cwV 1 hts gX6_buckets_X1_become rfl rfl rfl q_X1_become ⟨Nat.le_of_ble_eq_true rfl, Nat.le_of_ble_eq_true rfl⟩) ⟨hx, hb, hml, hown, hts⟩ hE hP hD hS hA [9, 10, 11, 12, 1, 2, 3, 4] rfl rfl rfl rfl 1 9 rfl rfl rfl rfl hl.1 rfl rfl (Nat.le_of_ble_eq_true rfl) dX6_buckets_8 (fun H locs hP hD hS => ?_)
  refine lv_aload_n hx hb dX6_buckets_11 rfl (lv_at hl 0 rfl) ?_
  refine va_get (D := g.1) (ci := 6) (v := .ref c0) (C := RX6) (T := TX6) (N := 11) hx hb hts i_X6_buckets_X6 hown hE.1 hP 0 rfl rfl 4 (by decide) w3 (fun _ h9 => h9) rfl dX6_buckets_12 ?_
  obtain ⟨x102, C103, R104, hg, hf⟩ := o3_s hf
  refine Ct.callV (ws' := wV g v0 u0 u1 u2 u3 k0 k1 k2 k3 h0 h1 h2 h3 s0 s1 s2 s3 c0 c1 c2 p0 r0 t0 t1 t2 t3 z0 f0 ea R N R104 S C103 P Q K X fd tl ik) (As := []) (rest := []) (st1 := [.int x102]) (c_X0_fewest l g c0 c1 c2 h0 h1 h2 h3 C R101 hg) (cwV 0 hts gX6_buckets_X0_fewest rfl rfl rfl q_X0_fewest ⟨Nat.le_of_ble_eq_true rfl, Nat.le_of_ble_eq_true rfl⟩) ⟨hx, hb, hml, hown, hts⟩ hE hP hD hS hA [17, 18, 19, 9, 10, 11, 12] rfl rfl rfl rfl 0 17 rfl rfl rfl rfl hl.1 rfl rfl (Nat.le_of_ble_eq_true rfl) dX6_buckets_15 (fun H locs hP hD hS => ?_)
  refine lv_istore_n (lv' := [(1, .int x102), (0, .ref v0)]) hx hb dX6_buckets_18 rfl hl (by decide) rfl (fun ls hl => ?_)
  refine lv_iload_n hx hb dX6_buckets_19 rfl (lv_at hl 0 rfl) ?_
  refine lv_if_ge (tgt := 32) hx hb dX6_buckets_20 (by decide) (fun hc => ?_) (fun hc => ?_)
  · have hf := if_t hf hc
    refine lv_iload_n hx hb dX6_buckets_32 rfl (lv_at hl 0 rfl) ?_
    cases hf
    exact Ct.iret hx hb hr hlocks hAe hP hD hS dX6_buckets_33
  · have hf := if_f hf hc
    refine lv_aload_n hx hb dX6_buckets_23 rfl (lv_at hl 1 rfl) ?_
    refine lv_ldc hx hb hown w4 dX6_buckets_24 ?_
    obtain ⟨x105, fd106, hg, hf⟩ := o2_s hf
    refine Ct.callV (ws' := wV g v0 u0 u1 u2 u3 k0 k1 k2 k3 h0 h1 h2 h3 s0 s1 s2 s3 c0 c1 c2 p0 r0 t0 t1 t2 t3 z0 f0 ea R N R104 S C103 P Q K X fd106 tl ik) (As := [.int (-1000004 : Int32)]) (rest := []) (st1 := [.int x105]) (c_X6_finding l g v0 u0 u1 u2 u3 k0 k1 k2 k3 h0 h1 h2 h3 s0 s1 s2 s3 c0 c1 c2 p0 r0 t0 t1 t2 t3 z0 f0 ea R N R104 S C103 P Q K X fd tl ik (-1000004 : Int32) hg) (cwV 1 hts gX6_buckets_X6_finding rfl rfl rfl q_X6_finding ⟨Nat.le_of_ble_eq_true rfl, Nat.le_of_ble_eq_true rfl⟩) ⟨hx, hb, hml, hown, hts⟩ hE hP hD hS hA [0, 1, 2, 3, 4, 5, 6, 7, 8, 9, 10, 11, 12, 13, 14, 15, 16, 17, 18, 19, 20, 21, 22, 23, 24, 25, 26, 27, 28, 29, 30, 31, 32, 33, 34, 35] rfl rfl rfl rfl 6 0 rfl rfl rfl rfl hl.1 rfl rfl (Nat.le_of_ble_eq_true rfl) dX6_buckets_26 (fun H locs hP hD hS => ?_)
    refine lv_goto (tgt := 33) hx hb dX6_buckets_29 (by decide) ?_
    cases hf
    exact Ct.iret hx hb hr hlocks hAe hP hD hS dX6_buckets_33
def fX6_carry (R : Rf) (B : Rf) (C : Ca) (fd : Nat → Int32) (a1 : Int32) : Option (Int32 × Rf × Ca × (Nat → Int32)) := o1 (fX6_isWithin a1 (0 : Int32) (3 : Int32)) (fun x101 => if x101 = 0 then (o2 (fX6_finding fd (-1000001 : Int32)) (fun x109 fd110 => some (x109, B, C, fd110))) else (o1 (fX1_become B R) (fun R102 => o3 (fX0_fewest C R102) (fun x103 C104 R105 => if a1 < x103 then (o1 (fX6_at 4 C104.2 a1) (fun x106 => some (x106, R105, C104, fd))) else (o2 (fX6_finding fd (-1000004 : Int32)) (fun x107 fd108 => some (x107, R105, C104, fd108)))))))
theorem q_X6_carry : yX6_carry.cls = RX6 ∧ yX6_carry.cls ≠ "java/lang/invoke/MethodHandle" ∧ yX6_carry.cls ≠ "java/lang/invoke/VarHandle" ∧ (parseMethodDescriptor yX6_carry.desc).map (fun d => d.parameters.length) = some 1 := by decide +kernel
theorem i_X6_carry_X6 : ∀ w ∈ u_ws RX6 TX6 11, w ∈ wsX6_carry := fun _ h => List.mem_cons_of_mem _ (List.mem_append_left _ (List.mem_append_left _ (List.mem_append_right _ (h))))
theorem i_X6_carry_X0 : ∀ w ∈ u_ws RX0 TX0 3, w ∈ wsX6_carry := fun _ h => List.mem_cons_of_mem _ (List.mem_append_left _ (List.mem_append_right _ (h)))
set_option maxHeartbeats 4000000 in
set_option maxRecDepth 100000 in
theorem c_X6_carry (l : Launch) (g : gG) (v0 u0 u1 u2 u3 k0 k1 k2 k3 h0 h1 h2 h3 s0 s1 s2 s3 c0 c1 c2 p0 r0 t0 t1 t2 t3 z0 f0 : Nat) (ea : Nat → Nat) (R : Rf) (N : Rf) (B : Rf) (S : Sv) (C : Ca) (P : Nat → Int32) (Q : Tr) (K : Tk) (X : F4) (fd : Nat → Int32) (tl : Int32) (ik : Int32) (a1 : Int32) {r : Int32} {B' : Rf} {C' : Ca} {fd' : Nat → Int32} (hf : fX6_carry R B C fd a1 = some (r, B', C', fd')) : Ct l yX6_carry wsX6_carry (rmm 6 135) g (wV g v0 u0 u1 u2 u3 k0 k1 k2 k3 h0 h1 h2 h3 s0 s1 s2 s3 c0 c1 c2 p0 r0 t0 t1 t2 t3 z0 f0 ea R N B S C P Q K X fd tl ik) (wV g v0 u0 u1 u2 u3 k0 k1 k2 k3 h0 h1 h2 h3 s0 s1 s2 s3 c0 c1 c2 p0 r0 t0 t1 t2 t3 z0 f0 ea R N (B') S (C') P Q K X (fd') tl ik) [.ref v0, .int a1] (some (.int r)) := by
  refine Ct.mk (by decide) rfl (Nat.le_of_ble_eq_true rfl) ?_
  intro p e s m args below meth c A ls hx hb hr hml hts hown hlocks hA hE hP hD hS hl hAe
  have hown : s.vm.findClass RX6 = some m.cls := hown
  have hl : lv_has ls 2 [(0, .ref v0), (1, .int a1)] := hl
  have w1 := hts (.fieldLink RX6 19 "RainVault" "trial" "LRainVault$Roof;") (List.mem_of_getElem? (i := 2) rfl)
  have w2 := hts (.fieldLink RX6 10 "RainVault" "roof" "LRainVault$Roof;") (List.mem_of_getElem? (i := 3) rfl)
  have w3 := hts (.fieldLink RX6 34 "RainVault" "carrier" "LRainVault$Carrier;") (List.mem_of_getElem? (i := 4) rfl)
  have w4 := hts (.constant RX6 164 (-1000004)) (List.mem_of_getElem? (i := 5) rfl)
  have w5 := hts (.constant RX6 73 (-1000001)) (List.mem_of_getElem? (i := 1) rfl)
  unfold fX6_carry at hf
  refine lv_iload_n hx hb dX6_carry_0 rfl (lv_at hl 1 rfl) ?_
  refine lv_iconst (v := (0 : Int32)) hx hb dX6_carry_1 (by decide) ?_
  refine lv_iconst (v := (3 : Int32)) hx hb dX6_carry_2 (by decide) ?_
  obtain ⟨x101, hg, hf⟩ := o1_s hf
  refine Ct.callS (ws' := wV g v0 u0 u1 u2 u3 k0 k1 k2 k3 h0 h1 h2 h3 s0 s1 s2 s3 c0 c1 c2 p0 r0 t0 t1 t2 t3 z0 f0 ea R N B S C P Q K X fd tl ik) (As := [.int a1, .int (0 : Int32), .int (3 : Int32)]) (rest := []) (st1 := [.int x101]) (c_X6_isWithin l g a1 (0 : Int32) (3 : Int32) hg) (va_cwS 3 hts gX6_carry_X6_isWithin rfl rfl rfl q_X6_isWithin.2 ⟨Nat.le_of_ble_eq_true rfl, Nat.le_of_ble_eq_true rfl⟩) ⟨hx, hb, hml, hown, hts⟩ hE hP hD hS hA [] rfl rfl rfl rfl rfl hl.1 rfl rfl (Nat.le_of_ble_eq_true rfl) dX6_carry_3 (fun H locs hP hD hS => ?_)
  refine lv_if_ne (tgt := 16) hx hb dX6_carry_6 (by decide) (fun hc => ?_) (fun hc => ?_)
  · have hf := if_f hf hc
    refine lv_aload_n hx hb dX6_carry_16 rfl (lv_at hl 0 rfl) ?_
    refine va_get (D := g.1) (ci := 6) (v := .ref h0) (C := RX6) (T := TX6) (N := 11) hx hb hts i_X6_carry_X6 hown hE.1 hP 0 rfl rfl 2 (by decide) w1 (fun _ h9 => h9) rfl dX6_carry_17 ?_
    refine lv_aload_n hx hb dX6_carry_20 rfl (lv_at hl 0 rfl) ?_
    refine va_get (D := g.1) (ci := 6) (v := .ref u0) (C := RX6) (T := TX6) (N := 11) hx hb hts i_X6_carry_X6 hown hE.1 hP 0 rfl rfl 0 (by decide) w2 (fun _ h9 => h9) rfl dX6_carry_21 ?_
    obtain ⟨R102, hg, hf⟩ := o1_s hf
    refine Ct.callV (ws' := wV g v0 u0 u1 u2 u3 k0 k1 k2 k3 h0 h1 h2 h3 s0 s1 s2 s3 c0 c1 c2 p0 r0 t0 t1 t2 t3 z0 f0 ea R N R102 S C P Q K X fd tl ik) (As := [.ref u0]) (rest := []) (st1 := []) (c_X1_become l g h0 h1 h2 h3 u0 u1 u2 u3 B R hg) (cwV 1 hts gX6_carry_X1_become rfl rfl rfl q_X1_become ⟨Nat.le_of_ble_eq_true rfl, Nat.le_of_ble_eq_true rfl⟩) ⟨hx, hb, hml, hown, hts⟩ hE hP hD hS hA [9, 10, 11, 12, 1, 2, 3, 4] rfl rfl rfl rfl 1 9 rfl rfl rfl rfl hl.1 rfl rfl (Nat.le_of_ble_eq_true rfl) dX6_carry_24 (fun H locs hP hD hS => ?_)
    refine lv_iload_n hx hb dX6_carry_27 rfl (lv_at hl 1 rfl) ?_
    refine lv_aload_n hx hb dX6_carry_28 rfl (lv_at hl 0 rfl) ?_
    refine va_get (D := g.1) (ci := 6) (v := .ref c0) (C := RX6) (T := TX6) (N := 11) hx hb hts i_X6_carry_X6 hown hE.1 hP 0 rfl rfl 4 (by decide) w3 (fun _ h9 => h9) rfl dX6_carry_29 ?_
    obtain ⟨x103, C104, R105, hg, hf⟩ := o3_s hf
    refine Ct.callV (ws' := wV g v0 u0 u1 u2 u3 k0 k1 k2 k3 h0 h1 h2 h3 s0 s1 s2 s3 c0 c1 c2 p0 r0 t0 t1 t2 t3 z0 f0 ea R N R105 S C104 P Q K X fd tl ik) (As := []) (rest := [.int a1]) (st1 := [.int x103, .int a1]) (c_X0_fewest l g c0 c1 c2 h0 h1 h2 h3 C R102 hg) (cwV 0 hts gX6_carry_X0_fewest rfl rfl rfl q_X0_fewest ⟨Nat.le_of_ble_eq_true rfl, Nat.le_of_ble_eq_true rfl⟩) ⟨hx, hb, hml, hown, hts⟩ hE hP hD hS hA [17, 18, 19, 9, 10, 11, 12] rfl rfl rfl rfl 0 17 rfl rfl rfl rfl hl.1 rfl rfl (Nat.le_of_ble_eq_true rfl) dX6_carry_32 (fun H locs hP hD hS => ?_)
    refine lv_icmp_lt (tgt := 45) hx hb dX6_carry_35 (by decide) (fun hc => ?_) (fun hc => ?_)
    · have hf := if_t hf hc
      refine lv_aload_n hx hb dX6_carry_45 rfl (lv_at hl 0 rfl) ?_
      refine va_get (D := g.1) (ci := 6) (v := .ref c0) (C := RX6) (T := TX6) (N := 11) hx hb hts i_X6_carry_X6 hown hE.1 hP 0 rfl rfl 4 (by decide) w3 (fun _ h9 => h9) rfl dX6_carry_46 ?_
      refine va_getN (D := g.1) (ci := 0) (v := .ref c2) (C := RX0) (T := TX0) (N := 3) hx hb hts i_X6_carry_X0 hown hE.1 hP 17 rfl rfl 2 (by decide) (va_Nw.use rfl (hE.2.1 _ (List.mem_of_getElem? (i := 14) rfl))) (fun _ h9 => h9) rfl dX6_carry_49 ?_
      refine lv_iload_n hx hb dX6_carry_52 rfl (lv_at hl 1 rfl) ?_
      obtain ⟨x106, hg, hf⟩ := o1_s hf
      refine Ct.callS (ws' := wV g v0 u0 u1 u2 u3 k0 k1 k2 k3 h0 h1 h2 h3 s0 s1 s2 s3 c0 c1 c2 p0 r0 t0 t1 t2 t3 z0 f0 ea R N R105 S C104 P Q K X fd tl ik) (As := [.ref c2, .int a1]) (rest := []) (st1 := [.int x106]) (c_X6_at l g c2 4 C104.2 a1 hg) (va_cwS 2 hts gX6_carry_X6_at rfl rfl rfl q_X6_at.2 ⟨Nat.le_of_ble_eq_true rfl, Nat.le_of_ble_eq_true rfl⟩) ⟨hx, hb, hml, hown, hts⟩ hE hP hD hS hA [19] rfl rfl rfl rfl rfl hl.1 rfl rfl (Nat.le_of_ble_eq_true rfl) dX6_carry_53 (fun H locs hP hD hS => ?_)
      cases hf
      exact Ct.iret hx hb hr hlocks hAe hP hD hS dX6_carry_56
    · have hf := if_f hf hc
      refine lv_aload_n hx hb dX6_carry_38 rfl (lv_at hl 0 rfl) ?_
      refine lv_ldc hx hb hown w4 dX6_carry_39 ?_
      obtain ⟨x107, fd108, hg, hf⟩ := o2_s hf
      refine Ct.callV (ws' := wV g v0 u0 u1 u2 u3 k0 k1 k2 k3 h0 h1 h2 h3 s0 s1 s2 s3 c0 c1 c2 p0 r0 t0 t1 t2 t3 z0 f0 ea R N R105 S C104 P Q K X fd108 tl ik) (As := [.int (-1000004 : Int32)]) (rest := []) (st1 := [.int x107]) (c_X6_finding l g v0 u0 u1 u2 u3 k0 k1 k2 k3 h0 h1 h2 h3 s0 s1 s2 s3 c0 c1 c2 p0 r0 t0 t1 t2 t3 z0 f0 ea R N R105 S C104 P Q K X fd tl ik (-1000004 : Int32) hg) (cwV 1 hts gX6_carry_X6_finding rfl rfl rfl q_X6_finding ⟨Nat.le_of_ble_eq_true rfl, Nat.le_of_ble_eq_true rfl⟩) ⟨hx, hb, hml, hown, hts⟩ hE hP hD hS hA [0, 1, 2, 3, 4, 5, 6, 7, 8, 9, 10, 11, 12, 13, 14, 15, 16, 17, 18, 19, 20, 21, 22, 23, 24, 25, 26, 27, 28, 29, 30, 31, 32, 33, 34, 35] rfl rfl rfl rfl 6 0 rfl rfl rfl rfl hl.1 rfl rfl (Nat.le_of_ble_eq_true rfl) dX6_carry_41 (fun H locs hP hD hS => ?_)
      cases hf
      exact Ct.iret hx hb hr hlocks hAe hP hD hS dX6_carry_44
  · have hf := if_t hf hc
    refine lv_aload_n hx hb dX6_carry_9 rfl (lv_at hl 0 rfl) ?_
    refine lv_ldc hx hb hown w5 dX6_carry_10 ?_
    obtain ⟨x109, fd110, hg, hf⟩ := o2_s hf
    refine Ct.callV (ws' := wV g v0 u0 u1 u2 u3 k0 k1 k2 k3 h0 h1 h2 h3 s0 s1 s2 s3 c0 c1 c2 p0 r0 t0 t1 t2 t3 z0 f0 ea R N B S C P Q K X fd110 tl ik) (As := [.int (-1000001 : Int32)]) (rest := []) (st1 := [.int x109]) (c_X6_finding l g v0 u0 u1 u2 u3 k0 k1 k2 k3 h0 h1 h2 h3 s0 s1 s2 s3 c0 c1 c2 p0 r0 t0 t1 t2 t3 z0 f0 ea R N B S C P Q K X fd tl ik (-1000001 : Int32) hg) (cwV 1 hts gX6_carry_X6_finding rfl rfl rfl q_X6_finding ⟨Nat.le_of_ble_eq_true rfl, Nat.le_of_ble_eq_true rfl⟩) ⟨hx, hb, hml, hown, hts⟩ hE hP hD hS hA [0, 1, 2, 3, 4, 5, 6, 7, 8, 9, 10, 11, 12, 13, 14, 15, 16, 17, 18, 19, 20, 21, 22, 23, 24, 25, 26, 27, 28, 29, 30, 31, 32, 33, 34, 35] rfl rfl rfl rfl 6 0 rfl rfl rfl rfl hl.1 rfl rfl (Nat.le_of_ble_eq_true rfl) dX6_carry_12 (fun H locs hP hD hS => ?_)
    cases hf
    exact Ct.iret hx hb hr hlocks hAe hP hD hS dX6_carry_15
def fX6_faultOfTrial (R : Rf) (a1 : Int32) (a2 : Int32) (a3 : Int32) : Option (Int32) := o1 (fX6_isRain a1 a2) (fun x101 => if x101 = 0 then (some (-1000001 : Int32)) else (o1 (fX6_isWithin a3 (1 : Int32) (20 : Int32)) (fun x102 => if x102 = 0 then (some (-1000001 : Int32)) else (o1 (fX6_isTooLate R a3) (fun x103 => if x103 = 0 then (some (0 : Int32)) else (some (-1000005 : Int32)))))))
theorem q_X6_faultOfTrial : yX6_faultOfTrial.cls = RX6 ∧ yX6_faultOfTrial.cls ≠ "java/lang/invoke/MethodHandle" ∧ yX6_faultOfTrial.cls ≠ "java/lang/invoke/VarHandle" ∧ (parseMethodDescriptor yX6_faultOfTrial.desc).map (fun d => d.parameters.length) = some 3 := by decide +kernel
set_option maxHeartbeats 4000000 in
set_option maxRecDepth 100000 in
theorem c_X6_faultOfTrial (l : Launch) (g : gG) (v0 u0 u1 u2 u3 k0 k1 k2 k3 h0 h1 h2 h3 s0 s1 s2 s3 c0 c1 c2 p0 r0 t0 t1 t2 t3 z0 f0 : Nat) (ea : Nat → Nat) (R : Rf) (N : Rf) (B : Rf) (S : Sv) (C : Ca) (P : Nat → Int32) (Q : Tr) (K : Tk) (X : F4) (fd : Nat → Int32) (tl : Int32) (ik : Int32) (a1 : Int32) (a2 : Int32) (a3 : Int32) {r : Int32} (hf : fX6_faultOfTrial R a1 a2 a3 = some r) : Ct l yX6_faultOfTrial wsX6_faultOfTrial (rmm 2 43) g (wV g v0 u0 u1 u2 u3 k0 k1 k2 k3 h0 h1 h2 h3 s0 s1 s2 s3 c0 c1 c2 p0 r0 t0 t1 t2 t3 z0 f0 ea R N B S C P Q K X fd tl ik) (wV g v0 u0 u1 u2 u3 k0 k1 k2 k3 h0 h1 h2 h3 s0 s1 s2 s3 c0 c1 c2 p0 r0 t0 t1 t2 t3 z0 f0 ea R N B S C P Q K X fd tl ik) [.ref v0, .int a1, .int a2, .int a3] (some (.int r)) := by
  refine Ct.mk (by decide) rfl (Nat.le_of_ble_eq_true rfl) ?_
  intro p e s m args below meth c A ls hx hb hr hml hts hown hlocks hA hE hP hD hS hl hAe
  have hown : s.vm.findClass RX6 = some m.cls := hown
  have hl : lv_has ls 4 [(0, .ref v0), (1, .int a1), (2, .int a2), (3, .int a3)] := hl
  have w1 := hts (.constant RX6 73 (-1000001)) (List.mem_of_getElem? (i := 1) rfl)
  have w2 := hts (.constant RX6 143 (-1000005)) (List.mem_of_getElem? (i := 2) rfl)
  unfold fX6_faultOfTrial at hf
  refine lv_iload_n hx hb dX6_faultOfTrial_0 rfl (lv_at hl 1 rfl) ?_
  refine lv_iload_n hx hb dX6_faultOfTrial_1 rfl (lv_at hl 2 rfl) ?_
  obtain ⟨x101, hg, hf⟩ := o1_s hf
  refine Ct.callS (ws' := wV g v0 u0 u1 u2 u3 k0 k1 k2 k3 h0 h1 h2 h3 s0 s1 s2 s3 c0 c1 c2 p0 r0 t0 t1 t2 t3 z0 f0 ea R N B S C P Q K X fd tl ik) (As := [.int a1, .int a2]) (rest := []) (st1 := [.int x101]) (c_X6_isRain l g a1 a2 hg) (va_cwS 2 hts gX6_faultOfTrial_X6_isRain rfl rfl rfl q_X6_isRain.2 ⟨Nat.le_of_ble_eq_true rfl, Nat.le_of_ble_eq_true rfl⟩) ⟨hx, hb, hml, hown, hts⟩ hE hP hD hS hA [] rfl rfl rfl rfl rfl hl.1 rfl rfl (Nat.le_of_ble_eq_true rfl) dX6_faultOfTrial_2 (fun H locs hP hD hS => ?_)
  refine lv_if_eq (tgt := 18) hx hb dX6_faultOfTrial_5 (by decide) (fun hc => ?_) (fun hc => ?_)
  · have hf := if_t hf hc
    refine lv_ldc hx hb hown w1 dX6_faultOfTrial_18 ?_
    cases hf
    exact Ct.iret hx hb hr hlocks hAe hP hD hS dX6_faultOfTrial_20
  · have hf := if_f hf hc
    refine lv_iload_n hx hb dX6_faultOfTrial_8 rfl (lv_at hl 3 rfl) ?_
    refine lv_iconst (v := (1 : Int32)) hx hb dX6_faultOfTrial_9 (by decide) ?_
    refine lv_bipush (v := (20 : Int32)) hx hb dX6_faultOfTrial_10 (by decide) ?_
    obtain ⟨x102, hg, hf⟩ := o1_s hf
    refine Ct.callS (ws' := wV g v0 u0 u1 u2 u3 k0 k1 k2 k3 h0 h1 h2 h3 s0 s1 s2 s3 c0 c1 c2 p0 r0 t0 t1 t2 t3 z0 f0 ea R N B S C P Q K X fd tl ik) (As := [.int a3, .int (1 : Int32), .int (20 : Int32)]) (rest := []) (st1 := [.int x102]) (c_X6_isWithin l g a3 (1 : Int32) (20 : Int32) hg) (va_cwS 3 hts gX6_faultOfTrial_X6_isWithin rfl rfl rfl q_X6_isWithin.2 ⟨Nat.le_of_ble_eq_true rfl, Nat.le_of_ble_eq_true rfl⟩) ⟨hx, hb, hml, hown, hts⟩ hE hP hD hS hA [] rfl rfl rfl rfl rfl hl.1 rfl rfl (Nat.le_of_ble_eq_true rfl) dX6_faultOfTrial_12 (fun H locs hP hD hS => ?_)
    refine lv_if_ne (tgt := 21) hx hb dX6_faultOfTrial_15 (by decide) (fun hc => ?_) (fun hc => ?_)
    · have hf := if_f hf hc
      refine lv_aload_n hx hb dX6_faultOfTrial_21 rfl (lv_at hl 0 rfl) ?_
      refine lv_iload_n hx hb dX6_faultOfTrial_22 rfl (lv_at hl 3 rfl) ?_
      obtain ⟨x103, hg, hf⟩ := o1_s hf
      refine Ct.callV (ws' := wV g v0 u0 u1 u2 u3 k0 k1 k2 k3 h0 h1 h2 h3 s0 s1 s2 s3 c0 c1 c2 p0 r0 t0 t1 t2 t3 z0 f0 ea R N B S C P Q K X fd tl ik) (As := [.int a3]) (rest := []) (st1 := [.int x103]) (c_X6_isTooLate l g v0 u0 u1 u2 u3 k0 k1 k2 k3 h0 h1 h2 h3 s0 s1 s2 s3 c0 c1 c2 p0 r0 t0 t1 t2 t3 z0 f0 ea R N B S C P Q K X fd tl ik a3 hg) (cwV 1 hts gX6_faultOfTrial_X6_isTooLate rfl rfl rfl q_X6_isTooLate ⟨Nat.le_of_ble_eq_true rfl, Nat.le_of_ble_eq_true rfl⟩) ⟨hx, hb, hml, hown, hts⟩ hE hP hD hS hA [0, 1, 2, 3, 4, 5, 6, 7, 8, 9, 10, 11, 12, 13, 14, 15, 16, 17, 18, 19, 20, 21, 22, 23, 24, 25, 26, 27, 28, 29, 30, 31, 32, 33, 34, 35] rfl rfl rfl rfl 6 0 rfl rfl rfl rfl hl.1 rfl rfl (Nat.le_of_ble_eq_true rfl) dX6_faultOfTrial_23 (fun H locs hP hD hS => ?_)
      refine lv_if_eq (tgt := 34) hx hb dX6_faultOfTrial_26 (by decide) (fun hc => ?_) (fun hc => ?_)
      · have hf := if_t hf hc
        refine lv_iconst (v := (0 : Int32)) hx hb dX6_faultOfTrial_34 (by decide) ?_
        cases hf
        exact Ct.iret hx hb hr hlocks hAe hP hD hS dX6_faultOfTrial_35
      · have hf := if_f hf hc
        refine lv_ldc hx hb hown w2 dX6_faultOfTrial_29 ?_
        refine lv_goto (tgt := 35) hx hb dX6_faultOfTrial_31 (by decide) ?_
        cases hf
        exact Ct.iret hx hb hr hlocks hAe hP hD hS dX6_faultOfTrial_35
    · have hf := if_t hf hc
      refine lv_ldc hx hb hown w1 dX6_faultOfTrial_18 ?_
      cases hf
      exact Ct.iret hx hb hr hlocks hAe hP hD hS dX6_faultOfTrial_20
def fX6_cloths_L39 (R : Rf) (fd : Nat → Int32) (x1 : Int32) (x2 : Int32) (x3 : Int32) (x5 : Int32) (kx : Rf → Option (Int32 × Rf × (Nat → Int32))) : Nat → Rf → Int32 → Option (Int32 × Rf × (Nat → Int32))
  | 0, _, _ => none
  | k + 1, B, x6 => if ((1 : Int32) <<< (R.2.2.2.1 &&& 31)) ≤ x6 then (kx B) else (o1 (fJ6_bitCount_0f7a4 x6) (fun x108 => if x108 = x5 then (o1 (fX1_become B R) (fun R109 => o1 (fX1_coverJust R109 x6) (fun R110 => o2 (fX1_passHours R110 x1 x2 x3) (fun x111 R112 => o1 (fX1_isOpen R112) (fun x113 => if x113 = 0 then (fX6_cloths_L39 R fd x1 x2 x3 x5 kx k R112 (x6 + (1 : Int32))) else (some (x6, R112, fd))))))) else (fX6_cloths_L39 R fd x1 x2 x3 x5 kx k B (x6 + (1 : Int32)))))
def fX6_cloths_L24 (R : Rf) (fd : Nat → Int32) (x1 : Int32) (x2 : Int32) (x3 : Int32) (kx : Rf → Option (Int32 × Rf × (Nat → Int32))) : Nat → Rf → Int32 → Option (Int32 × Rf × (Nat → Int32))
  | 0, _, _ => none
  | k + 1, B, x5 => if R.2.2.2.1 < x5 then (kx B) else (fX6_cloths_L39 R fd x1 x2 x3 x5 (fun B115 => fX6_cloths_L24 R fd x1 x2 x3 kx k B115 (x5 + (1 : Int32))) fu B (0 : Int32))
def fX6_cloths (R : Rf) (B : Rf) (fd : Nat → Int32) (a1 : Int32) (a2 : Int32) (a3 : Int32) : Option (Int32 × Rf × (Nat → Int32)) := o1 (fX6_faultOfTrial R a1 a2 a3) (fun x101 => if x101 = 0 then (fX6_cloths_L24 R fd a1 a2 a3 (fun B116 => o2 (fX6_finding fd (-1000004 : Int32)) (fun x117 fd118 => some (x117, B116, fd118))) fu B (0 : Int32)) else (o2 (fX6_finding fd x101) (fun x119 fd120 => some (x119, B, fd120))))
theorem q_X6_cloths : yX6_cloths.cls = RX6 ∧ yX6_cloths.cls ≠ "java/lang/invoke/MethodHandle" ∧ yX6_cloths.cls ≠ "java/lang/invoke/VarHandle" ∧ (parseMethodDescriptor yX6_cloths.desc).map (fun d => d.parameters.length) = some 3 := by decide +kernel
theorem i_X6_cloths_X6 : ∀ w ∈ u_ws RX6 TX6 11, w ∈ wsX6_cloths := fun _ h => List.mem_cons_of_mem _ (List.mem_append_left _ (List.mem_append_right _ (h)))
theorem i_X6_cloths_X1 : ∀ w ∈ u_ws RX1 TX1 9, w ∈ wsX6_cloths := fun _ h => List.mem_cons_of_mem _ (List.mem_append_right _ (h))
set_option maxHeartbeats 4000000 in
set_option maxRecDepth 100000 in
theorem c_X6_cloths (l : Launch) (g : gG) (v0 u0 u1 u2 u3 k0 k1 k2 k3 h0 h1 h2 h3 s0 s1 s2 s3 c0 c1 c2 p0 r0 t0 t1 t2 t3 z0 f0 : Nat) (ea : Nat → Nat) (R : Rf) (N : Rf) (B : Rf) (S : Sv) (C : Ca) (P : Nat → Int32) (Q : Tr) (K : Tk) (X : F4) (fd : Nat → Int32) (tl : Int32) (ik : Int32) (a1 : Int32) (a2 : Int32) (a3 : Int32) {r : Int32} {B' : Rf} {fd' : Nat → Int32} (hf : fX6_cloths R B fd a1 a2 a3 = some (r, B', fd')) : Ct l yX6_cloths wsX6_cloths (rmm 6 137) g (wV g v0 u0 u1 u2 u3 k0 k1 k2 k3 h0 h1 h2 h3 s0 s1 s2 s3 c0 c1 c2 p0 r0 t0 t1 t2 t3 z0 f0 ea R N B S C P Q K X fd tl ik) (wV g v0 u0 u1 u2 u3 k0 k1 k2 k3 h0 h1 h2 h3 s0 s1 s2 s3 c0 c1 c2 p0 r0 t0 t1 t2 t3 z0 f0 ea R N (B') S C P Q K X (fd') tl ik) [.ref v0, .int a1, .int a2, .int a3] (some (.int r)) := by
  refine Ct.mk (by decide) rfl (Nat.le_of_ble_eq_true rfl) ?_
  intro p e s m args below meth c A ls hx hb hr hml hts hown hlocks hA hE hP hD hS hl hAe
  have hown : s.vm.findClass RX6 = some m.cls := hown
  have hl : lv_has ls 7 [(0, .ref v0), (1, .int a1), (2, .int a2), (3, .int a3)] := hl
  have w1 := hts (.fieldLink RX6 10 "RainVault" "roof" "LRainVault$Roof;") (List.mem_of_getElem? (i := 1) rfl)
  have w2 := hts (.fieldLink RX6 19 "RainVault" "trial" "LRainVault$Roof;") (List.mem_of_getElem? (i := 2) rfl)
  have w3 := hts (.constant RX6 164 (-1000004)) (List.mem_of_getElem? (i := 3) rfl)
  have L39 : ∀ (fd : Nat → Int32) (x1 : Int32) (x2 : Int32) (x3 : Int32) (x5 : Int32) (kx : Rf → Option (Int32 × Rf × (Nat → Int32))) (k : Nat) (B : Rf) (x6 : Int32) (H : Heap) (locs : List Loc) (ls : Array Slot), fX6_cloths_L39 R fd x1 x2 x3 x5 kx k B x6 = some (r, B', fd') → va_P g.1 vwK (wV g v0 u0 u1 u2 u3 k0 k1 k2 k3 h0 h1 h2 h3 s0 s1 s2 s3 c0 c1 c2 p0 r0 t0 t1 t2 t3 z0 f0 ea R N B S C P Q K X fd tl ik) H → va_D A (wV g v0 u0 u1 u2 u3 k0 k1 k2 k3 h0 h1 h2 h3 s0 s1 s2 s3 c0 c1 c2 p0 r0 t0 t1 t2 t3 z0 f0 ea R N B S C P Q K X fd tl ik) → va_S A s.heap H locs → lv_has ls 7 [(0, .ref v0), (1, .int x1), (2, .int x2), (3, .int x3), (5, .int x5), (6, .int x6)] → (∀ (B : Rf) (H : Heap) (locs : List Loc) (ls : Array Slot), kx B = some (r, B', fd') → va_P g.1 vwK (wV g v0 u0 u1 u2 u3 k0 k1 k2 k3 h0 h1 h2 h3 s0 s1 s2 s3 c0 c1 c2 p0 r0 t0 t1 t2 t3 z0 f0 ea R N B S C P Q K X fd tl ik) H → va_D A (wV g v0 u0 u1 u2 u3 k0 k1 k2 k3 h0 h1 h2 h3 s0 s1 s2 s3 c0 c1 c2 p0 r0 t0 t1 t2 t3 z0 f0 ea R N B S C P Q K X fd tl ik) → va_S A s.heap H locs → lv_has ls 7 [(0, .ref v0), (1, .int x1), (2, .int x2), (3, .int x3), (5, .int x5)] → W p l e (rmm 6 137) s m args below meth c H locs 0 0 (MQ below (QcG g (wV g v0 u0 u1 u2 u3 k0 k1 k2 k3 h0 h1 h2 h3 s0 s1 s2 s3 c0 c1 c2 p0 r0 t0 t1 t2 t3 z0 f0 ea R N B S C P Q K X fd tl ik) (wV g v0 u0 u1 u2 u3 k0 k1 k2 k3 h0 h1 h2 h3 s0 s1 s2 s3 c0 c1 c2 p0 r0 t0 t1 t2 t3 z0 f0 ea R N (B') S C P Q K X (fd') tl ik) (some (.int r)) s.heap.size) args s 0 0 A) (F0 m 113 ls [])) → W p l e (rmm 6 137) s m args below meth c H locs 0 0 (MQ below (QcG g (wV g v0 u0 u1 u2 u3 k0 k1 k2 k3 h0 h1 h2 h3 s0 s1 s2 s3 c0 c1 c2 p0 r0 t0 t1 t2 t3 z0 f0 ea R N B S C P Q K X fd tl ik) (wV g v0 u0 u1 u2 u3 k0 k1 k2 k3 h0 h1 h2 h3 s0 s1 s2 s3 c0 c1 c2 p0 r0 t0 t1 t2 t3 z0 f0 ea R N (B') S C P Q K X (fd') tl ik) (some (.int r)) s.heap.size) args s 0 0 A) (F0 m 39 ls []) := by
    intro fd x1 x2 x3 x5 kx k
    induction k with
    | zero => intro B x6 H locs ls hf; exact nomatch (show (none : Option (Int32 × Rf × (Nat → Int32))) = some _ from hf)
    | succ k ih =>
      intro B x6 H locs ls hf hP hD hS hl hk
      rw [fX6_cloths_L39] at hf
      refine lv_iload hx hb dX6_cloths_39 (lv_at hl 5 rfl) ?_
      refine lv_iconst (v := (1 : Int32)) hx hb dX6_cloths_41 (by decide) ?_
      refine lv_aload_n hx hb dX6_cloths_42 rfl (lv_at hl 0 rfl) ?_
      refine va_get (D := g.1) (ci := 6) (v := .ref u0) (C := RX6) (T := TX6) (N := 11) hx hb hts i_X6_cloths_X6 hown hE.1 hP 0 rfl rfl 0 (by decide) w1 (fun _ h9 => h9) rfl dX6_cloths_43 ?_
      refine va_getN (D := g.1) (ci := 1) (v := .int R.2.2.2.1) (C := RX1) (T := TX1) (N := 9) hx hb hts i_X6_cloths_X1 hown hE.1 hP 1 rfl rfl 3 (by decide) (va_Nw.use rfl (hE.2.1 _ (List.mem_of_getElem? (i := 1) rfl))) (fun _ h9 => h9) rfl dX6_cloths_46 ?_
      refine lv_ishl hx hb dX6_cloths_49 ?_
      refine lv_icmp_ge (tgt := 113) hx hb dX6_cloths_50 (by decide) (fun hc => ?_) (fun hc => ?_)
      · have hf := if_t hf hc
        exact hk _ _ _ _  hf hP hD hS (lv_sub hl [0, 1, 2, 3, 4] rfl)
      · have hf := if_f hf hc
        refine lv_iload hx hb dX6_cloths_53 (lv_at hl 5 rfl) ?_
        obtain ⟨x108, hg, hf⟩ := o1_s hf
        refine Ct.callS (ws' := wV g v0 u0 u1 u2 u3 k0 k1 k2 k3 h0 h1 h2 h3 s0 s1 s2 s3 c0 c1 c2 p0 r0 t0 t1 t2 t3 z0 f0 ea R N B S C P Q K X fd tl ik) (As := [.int x6]) (rest := []) (st1 := [.int x108]) (c_J6_bitCount_0f7a4 l g x6 hg) (va_cwS 1 hts gX6_cloths_J6_bitCount_0f7a4 rfl rfl rfl q_J6_bitCount_0f7a4.2 ⟨Nat.le_of_ble_eq_true rfl, Nat.le_of_ble_eq_true rfl⟩) ⟨hx, hb, hml, hown, hts⟩ hE hP hD hS hA [] rfl rfl rfl rfl rfl hl.1 rfl rfl (Nat.le_of_ble_eq_true rfl) dX6_cloths_55 (fun H locs hP hD hS => ?_)
        refine lv_iload hx hb dX6_cloths_58 (lv_at hl 4 rfl) ?_
        refine lv_icmp_ne (tgt := 107) hx hb dX6_cloths_60 (by decide) (fun hc => ?_) (fun hc => ?_)
        · have hf := if_f hf hc
          refine lv_iinc (v := (x6 + (1 : Int32))) (lv' := [(6, .int (x6 + (1 : Int32))), (0, .ref v0), (1, .int x1), (2, .int x2), (3, .int x3), (5, .int x5)]) hx hb dX6_cloths_107 hl (k := 5) rfl rfl (by decide) rfl (fun ls hl => ?_)
          refine lv_goto (tgt := 39) hx hb dX6_cloths_110 (by decide) ?_
          exact ih _ _ _ _ _  hf hP hD hS (lv_sub hl [1, 2, 3, 4, 5, 0] rfl) hk
        · have hf := if_t hf hc
          refine lv_aload_n hx hb dX6_cloths_63 rfl (lv_at hl 0 rfl) ?_
          refine va_get (D := g.1) (ci := 6) (v := .ref h0) (C := RX6) (T := TX6) (N := 11) hx hb hts i_X6_cloths_X6 hown hE.1 hP 0 rfl rfl 2 (by decide) w2 (fun _ h9 => h9) rfl dX6_cloths_64 ?_
          refine lv_aload_n hx hb dX6_cloths_67 rfl (lv_at hl 0 rfl) ?_
          refine va_get (D := g.1) (ci := 6) (v := .ref u0) (C := RX6) (T := TX6) (N := 11) hx hb hts i_X6_cloths_X6 hown hE.1 hP 0 rfl rfl 0 (by decide) w1 (fun _ h9 => h9) rfl dX6_cloths_68 ?_
          obtain ⟨R109, hg, hf⟩ := o1_s hf
          refine Ct.callV (ws' := wV g v0 u0 u1 u2 u3 k0 k1 k2 k3 h0 h1 h2 h3 s0 s1 s2 s3 c0 c1 c2 p0 r0 t0 t1 t2 t3 z0 f0 ea R N R109 S C P Q K X fd tl ik) (As := [.ref u0]) (rest := []) (st1 := []) (c_X1_become l g h0 h1 h2 h3 u0 u1 u2 u3 B R hg) (cwV 1 hts gX6_cloths_X1_become rfl rfl rfl q_X1_become ⟨Nat.le_of_ble_eq_true rfl, Nat.le_of_ble_eq_true rfl⟩) ⟨hx, hb, hml, hown, hts⟩ hE hP hD hS hA [9, 10, 11, 12, 1, 2, 3, 4] rfl rfl rfl rfl 1 9 rfl rfl rfl rfl hl.1 rfl rfl (Nat.le_of_ble_eq_true rfl) dX6_cloths_71 (fun H locs hP hD hS => ?_)
          refine lv_aload_n hx hb dX6_cloths_74 rfl (lv_at hl 0 rfl) ?_
          refine va_get (D := g.1) (ci := 6) (v := .ref h0) (C := RX6) (T := TX6) (N := 11) hx hb hts i_X6_cloths_X6 hown hE.1 hP 0 rfl rfl 2 (by decide) w2 (fun _ h9 => h9) rfl dX6_cloths_75 ?_
          refine lv_iload hx hb dX6_cloths_78 (lv_at hl 5 rfl) ?_
          obtain ⟨R110, hg, hf⟩ := o1_s hf
          refine Ct.callV (ws' := wV g v0 u0 u1 u2 u3 k0 k1 k2 k3 h0 h1 h2 h3 s0 s1 s2 s3 c0 c1 c2 p0 r0 t0 t1 t2 t3 z0 f0 ea R N R110 S C P Q K X fd tl ik) (As := [.int x6]) (rest := []) (st1 := []) (c_X1_coverJust l g h0 h1 h2 h3 R109 x6 hg) (cwV 1 hts gX6_cloths_X1_coverJust rfl rfl rfl q_X1_coverJust ⟨Nat.le_of_ble_eq_true rfl, Nat.le_of_ble_eq_true rfl⟩) ⟨hx, hb, hml, hown, hts⟩ hE hP hD hS hA [9, 10, 11, 12] rfl rfl rfl rfl 1 9 rfl rfl rfl rfl hl.1 rfl rfl (Nat.le_of_ble_eq_true rfl) dX6_cloths_80 (fun H locs hP hD hS => ?_)
          refine lv_aload_n hx hb dX6_cloths_83 rfl (lv_at hl 0 rfl) ?_
          refine va_get (D := g.1) (ci := 6) (v := .ref h0) (C := RX6) (T := TX6) (N := 11) hx hb hts i_X6_cloths_X6 hown hE.1 hP 0 rfl rfl 2 (by decide) w2 (fun _ h9 => h9) rfl dX6_cloths_84 ?_
          refine lv_iload_n hx hb dX6_cloths_87 rfl (lv_at hl 1 rfl) ?_
          refine lv_iload_n hx hb dX6_cloths_88 rfl (lv_at hl 2 rfl) ?_
          refine lv_iload_n hx hb dX6_cloths_89 rfl (lv_at hl 3 rfl) ?_
          obtain ⟨x111, R112, hg, hf⟩ := o2_s hf
          refine Ct.callV (ws' := wV g v0 u0 u1 u2 u3 k0 k1 k2 k3 h0 h1 h2 h3 s0 s1 s2 s3 c0 c1 c2 p0 r0 t0 t1 t2 t3 z0 f0 ea R N R112 S C P Q K X fd tl ik) (As := [.int x1, .int x2, .int x3]) (rest := []) (st1 := [.int x111]) (c_X1_passHours l g h0 h1 h2 h3 R110 x1 x2 x3 hg) (cwV 3 hts gX6_cloths_X1_passHours rfl rfl rfl q_X1_passHours ⟨Nat.le_of_ble_eq_true rfl, Nat.le_of_ble_eq_true rfl⟩) ⟨hx, hb, hml, hown, hts⟩ hE hP hD hS hA [9, 10, 11, 12] rfl rfl rfl rfl 1 9 rfl rfl rfl rfl hl.1 rfl rfl (Nat.le_of_ble_eq_true rfl) dX6_cloths_90 (fun H locs hP hD hS => ?_)
          refine lv_pop hx hb dX6_cloths_93 rfl ?_
          refine lv_aload_n hx hb dX6_cloths_94 rfl (lv_at hl 0 rfl) ?_
          refine va_get (D := g.1) (ci := 6) (v := .ref h0) (C := RX6) (T := TX6) (N := 11) hx hb hts i_X6_cloths_X6 hown hE.1 hP 0 rfl rfl 2 (by decide) w2 (fun _ h9 => h9) rfl dX6_cloths_95 ?_
          obtain ⟨x113, hg, hf⟩ := o1_s hf
          refine Ct.callV (ws' := wV g v0 u0 u1 u2 u3 k0 k1 k2 k3 h0 h1 h2 h3 s0 s1 s2 s3 c0 c1 c2 p0 r0 t0 t1 t2 t3 z0 f0 ea R N R112 S C P Q K X fd tl ik) (As := []) (rest := []) (st1 := [.int x113]) (c_X1_isOpen l g h0 h1 h2 h3 R112 hg) (cwV 0 hts gX6_cloths_X1_isOpen rfl rfl rfl q_X1_isOpen ⟨Nat.le_of_ble_eq_true rfl, Nat.le_of_ble_eq_true rfl⟩) ⟨hx, hb, hml, hown, hts⟩ hE hP hD hS hA [9, 10, 11, 12] rfl rfl rfl rfl 1 9 rfl rfl rfl rfl hl.1 rfl rfl (Nat.le_of_ble_eq_true rfl) dX6_cloths_98 (fun H locs hP hD hS => ?_)
          refine lv_if_eq (tgt := 107) hx hb dX6_cloths_101 (by decide) (fun hc => ?_) (fun hc => ?_)
          · have hf := if_t hf hc
            refine lv_iinc (v := (x6 + (1 : Int32))) (lv' := [(6, .int (x6 + (1 : Int32))), (0, .ref v0), (1, .int x1), (2, .int x2), (3, .int x3), (5, .int x5)]) hx hb dX6_cloths_107 hl (k := 5) rfl rfl (by decide) rfl (fun ls hl => ?_)
            refine lv_goto (tgt := 39) hx hb dX6_cloths_110 (by decide) ?_
            exact ih _ _ _ _ _  hf hP hD hS (lv_sub hl [1, 2, 3, 4, 5, 0] rfl) hk
          · have hf := if_f hf hc
            refine lv_iload hx hb dX6_cloths_104 (lv_at hl 5 rfl) ?_
            cases hf
            exact Ct.iret hx hb hr hlocks hAe hP hD hS dX6_cloths_106
  have L24 : ∀ (fd : Nat → Int32) (x1 : Int32) (x2 : Int32) (x3 : Int32) (kx : Rf → Option (Int32 × Rf × (Nat → Int32))) (k : Nat) (B : Rf) (x5 : Int32) (H : Heap) (locs : List Loc) (ls : Array Slot), fX6_cloths_L24 R fd x1 x2 x3 kx k B x5 = some (r, B', fd') → va_P g.1 vwK (wV g v0 u0 u1 u2 u3 k0 k1 k2 k3 h0 h1 h2 h3 s0 s1 s2 s3 c0 c1 c2 p0 r0 t0 t1 t2 t3 z0 f0 ea R N B S C P Q K X fd tl ik) H → va_D A (wV g v0 u0 u1 u2 u3 k0 k1 k2 k3 h0 h1 h2 h3 s0 s1 s2 s3 c0 c1 c2 p0 r0 t0 t1 t2 t3 z0 f0 ea R N B S C P Q K X fd tl ik) → va_S A s.heap H locs → lv_has ls 7 [(0, .ref v0), (1, .int x1), (2, .int x2), (3, .int x3), (5, .int x5)] → (∀ (B : Rf) (H : Heap) (locs : List Loc) (ls : Array Slot), kx B = some (r, B', fd') → va_P g.1 vwK (wV g v0 u0 u1 u2 u3 k0 k1 k2 k3 h0 h1 h2 h3 s0 s1 s2 s3 c0 c1 c2 p0 r0 t0 t1 t2 t3 z0 f0 ea R N B S C P Q K X fd tl ik) H → va_D A (wV g v0 u0 u1 u2 u3 k0 k1 k2 k3 h0 h1 h2 h3 s0 s1 s2 s3 c0 c1 c2 p0 r0 t0 t1 t2 t3 z0 f0 ea R N B S C P Q K X fd tl ik) → va_S A s.heap H locs → lv_has ls 7 [(0, .ref v0)] → W p l e (rmm 6 137) s m args below meth c H locs 0 0 (MQ below (QcG g (wV g v0 u0 u1 u2 u3 k0 k1 k2 k3 h0 h1 h2 h3 s0 s1 s2 s3 c0 c1 c2 p0 r0 t0 t1 t2 t3 z0 f0 ea R N B S C P Q K X fd tl ik) (wV g v0 u0 u1 u2 u3 k0 k1 k2 k3 h0 h1 h2 h3 s0 s1 s2 s3 c0 c1 c2 p0 r0 t0 t1 t2 t3 z0 f0 ea R N (B') S C P Q K X (fd') tl ik) (some (.int r)) s.heap.size) args s 0 0 A) (F0 m 119 ls [])) → W p l e (rmm 6 137) s m args below meth c H locs 0 0 (MQ below (QcG g (wV g v0 u0 u1 u2 u3 k0 k1 k2 k3 h0 h1 h2 h3 s0 s1 s2 s3 c0 c1 c2 p0 r0 t0 t1 t2 t3 z0 f0 ea R N B S C P Q K X fd tl ik) (wV g v0 u0 u1 u2 u3 k0 k1 k2 k3 h0 h1 h2 h3 s0 s1 s2 s3 c0 c1 c2 p0 r0 t0 t1 t2 t3 z0 f0 ea R N (B') S C P Q K X (fd') tl ik) (some (.int r)) s.heap.size) args s 0 0 A) (F0 m 24 ls []) := by
    intro fd x1 x2 x3 kx k
    induction k with
    | zero => intro B x5 H locs ls hf; exact nomatch (show (none : Option (Int32 × Rf × (Nat → Int32))) = some _ from hf)
    | succ k ih =>
      intro B x5 H locs ls hf hP hD hS hl hk
      rw [fX6_cloths_L24] at hf
      refine lv_iload hx hb dX6_cloths_24 (lv_at hl 4 rfl) ?_
      refine lv_aload_n hx hb dX6_cloths_26 rfl (lv_at hl 0 rfl) ?_
      refine va_get (D := g.1) (ci := 6) (v := .ref u0) (C := RX6) (T := TX6) (N := 11) hx hb hts i_X6_cloths_X6 hown hE.1 hP 0 rfl rfl 0 (by decide) w1 (fun _ h9 => h9) rfl dX6_cloths_27 ?_
      refine va_getN (D := g.1) (ci := 1) (v := .int R.2.2.2.1) (C := RX1) (T := TX1) (N := 9) hx hb hts i_X6_cloths_X1 hown hE.1 hP 1 rfl rfl 3 (by decide) (va_Nw.use rfl (hE.2.1 _ (List.mem_of_getElem? (i := 1) rfl))) (fun _ h9 => h9) rfl dX6_cloths_30 ?_
      refine lv_icmp_gt (tgt := 119) hx hb dX6_cloths_33 (by decide) (fun hc => ?_) (fun hc => ?_)
      · have hf := if_t hf hc
        exact hk _ _ _ _  hf hP hD hS (lv_sub hl [0] rfl)
      · have hf := if_f hf hc
        refine lv_iconst (v := (0 : Int32)) hx hb dX6_cloths_36 (by decide) ?_
        refine lv_istore (lv' := [(6, .int (0 : Int32)), (0, .ref v0), (1, .int x1), (2, .int x2), (3, .int x3), (5, .int x5)]) hx hb dX6_cloths_37 hl (by decide) rfl (fun ls hl => ?_)
        refine L39 _ _ _ _ _ _ _ _ _ _ _ _  hf hP hD hS (lv_sub hl [1, 2, 3, 4, 5, 0] rfl) (fun B115 H locs ls hf hP hD hS hl => ?_)
        refine lv_iinc (v := (x5 + (1 : Int32))) (lv' := [(5, .int (x5 + (1 : Int32))), (0, .ref v0), (1, .int x1), (2, .int x2), (3, .int x3)]) hx hb dX6_cloths_113 hl (k := 4) rfl rfl (by decide) rfl (fun ls hl => ?_)
        refine lv_goto (tgt := 24) hx hb dX6_cloths_116 (by decide) ?_
        exact ih _ _ _ _ _  hf hP hD hS (lv_sub hl [1, 2, 3, 4, 0] rfl) hk
  unfold fX6_cloths at hf
  refine lv_aload_n hx hb dX6_cloths_0 rfl (lv_at hl 0 rfl) ?_
  refine lv_iload_n hx hb dX6_cloths_1 rfl (lv_at hl 1 rfl) ?_
  refine lv_iload_n hx hb dX6_cloths_2 rfl (lv_at hl 2 rfl) ?_
  refine lv_iload_n hx hb dX6_cloths_3 rfl (lv_at hl 3 rfl) ?_
  obtain ⟨x101, hg, hf⟩ := o1_s hf
  refine Ct.callV (ws' := wV g v0 u0 u1 u2 u3 k0 k1 k2 k3 h0 h1 h2 h3 s0 s1 s2 s3 c0 c1 c2 p0 r0 t0 t1 t2 t3 z0 f0 ea R N B S C P Q K X fd tl ik) (As := [.int a1, .int a2, .int a3]) (rest := []) (st1 := [.int x101]) (c_X6_faultOfTrial l g v0 u0 u1 u2 u3 k0 k1 k2 k3 h0 h1 h2 h3 s0 s1 s2 s3 c0 c1 c2 p0 r0 t0 t1 t2 t3 z0 f0 ea R N B S C P Q K X fd tl ik a1 a2 a3 hg) (cwV 3 hts gX6_cloths_X6_faultOfTrial rfl rfl rfl q_X6_faultOfTrial ⟨Nat.le_of_ble_eq_true rfl, Nat.le_of_ble_eq_true rfl⟩) ⟨hx, hb, hml, hown, hts⟩ hE hP hD hS hA [0, 1, 2, 3, 4, 5, 6, 7, 8, 9, 10, 11, 12, 13, 14, 15, 16, 17, 18, 19, 20, 21, 22, 23, 24, 25, 26, 27, 28, 29, 30, 31, 32, 33, 34, 35] rfl rfl rfl rfl 6 0 rfl rfl rfl rfl hl.1 rfl rfl (Nat.le_of_ble_eq_true rfl) dX6_cloths_4 (fun H locs hP hD hS => ?_)
  refine lv_istore (lv' := [(4, .int x101), (0, .ref v0), (1, .int a1), (2, .int a2), (3, .int a3)]) hx hb dX6_cloths_7 hl (by decide) rfl (fun ls hl => ?_)
  refine lv_iload hx hb dX6_cloths_9 (lv_at hl 0 rfl) ?_
  refine lv_if_eq (tgt := 21) hx hb dX6_cloths_11 (by decide) (fun hc => ?_) (fun hc => ?_)
  · have hf := if_t hf hc
    refine lv_iconst (v := (0 : Int32)) hx hb dX6_cloths_21 (by decide) ?_
    refine lv_istore (lv' := [(5, .int (0 : Int32)), (4, .int x101), (0, .ref v0), (1, .int a1), (2, .int a2), (3, .int a3)]) hx hb dX6_cloths_22 hl (by decide) rfl (fun ls hl => ?_)
    refine L24 _ _ _ _ _ _ _ _ _ _ _  hf hP hD hS (lv_sub hl [2, 3, 4, 5, 0] rfl) (fun B116 H locs ls hf hP hD hS hl => ?_)
    refine lv_aload_n hx hb dX6_cloths_119 rfl (lv_at hl 0 rfl) ?_
    refine lv_ldc hx hb hown w3 dX6_cloths_120 ?_
    obtain ⟨x117, fd118, hg, hf⟩ := o2_s hf
    refine Ct.callV (ws' := wV g v0 u0 u1 u2 u3 k0 k1 k2 k3 h0 h1 h2 h3 s0 s1 s2 s3 c0 c1 c2 p0 r0 t0 t1 t2 t3 z0 f0 ea R N B116 S C P Q K X fd118 tl ik) (As := [.int (-1000004 : Int32)]) (rest := []) (st1 := [.int x117]) (c_X6_finding l g v0 u0 u1 u2 u3 k0 k1 k2 k3 h0 h1 h2 h3 s0 s1 s2 s3 c0 c1 c2 p0 r0 t0 t1 t2 t3 z0 f0 ea R N B116 S C P Q K X fd tl ik (-1000004 : Int32) hg) (cwV 1 hts gX6_cloths_X6_finding rfl rfl rfl q_X6_finding ⟨Nat.le_of_ble_eq_true rfl, Nat.le_of_ble_eq_true rfl⟩) ⟨hx, hb, hml, hown, hts⟩ hE hP hD hS hA [0, 1, 2, 3, 4, 5, 6, 7, 8, 9, 10, 11, 12, 13, 14, 15, 16, 17, 18, 19, 20, 21, 22, 23, 24, 25, 26, 27, 28, 29, 30, 31, 32, 33, 34, 35] rfl rfl rfl rfl 6 0 rfl rfl rfl rfl hl.1 rfl rfl (Nat.le_of_ble_eq_true rfl) dX6_cloths_122 (fun H locs hP hD hS => ?_)
    cases hf
    exact Ct.iret hx hb hr hlocks hAe hP hD hS dX6_cloths_125
  · have hf := if_f hf hc
    refine lv_aload_n hx hb dX6_cloths_14 rfl (lv_at hl 1 rfl) ?_
    refine lv_iload hx hb dX6_cloths_15 (lv_at hl 0 rfl) ?_
    obtain ⟨x119, fd120, hg, hf⟩ := o2_s hf
    refine Ct.callV (ws' := wV g v0 u0 u1 u2 u3 k0 k1 k2 k3 h0 h1 h2 h3 s0 s1 s2 s3 c0 c1 c2 p0 r0 t0 t1 t2 t3 z0 f0 ea R N B S C P Q K X fd120 tl ik) (As := [.int x101]) (rest := []) (st1 := [.int x119]) (c_X6_finding l g v0 u0 u1 u2 u3 k0 k1 k2 k3 h0 h1 h2 h3 s0 s1 s2 s3 c0 c1 c2 p0 r0 t0 t1 t2 t3 z0 f0 ea R N B S C P Q K X fd tl ik x101 hg) (cwV 1 hts gX6_cloths_X6_finding rfl rfl rfl q_X6_finding ⟨Nat.le_of_ble_eq_true rfl, Nat.le_of_ble_eq_true rfl⟩) ⟨hx, hb, hml, hown, hts⟩ hE hP hD hS hA [0, 1, 2, 3, 4, 5, 6, 7, 8, 9, 10, 11, 12, 13, 14, 15, 16, 17, 18, 19, 20, 21, 22, 23, 24, 25, 26, 27, 28, 29, 30, 31, 32, 33, 34, 35] rfl rfl rfl rfl 6 0 rfl rfl rfl rfl hl.1 rfl rfl (Nat.le_of_ble_eq_true rfl) dX6_cloths_17 (fun H locs hP hD hS => ?_)
    cases hf
    exact Ct.iret hx hb hr hlocks hAe hP hD hS dX6_cloths_20
