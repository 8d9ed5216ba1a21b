def fX6_lockOf (R : Rf) (fd : Nat → Int32) (a1 : Int32) (a2 : Int32) : Option (Int32 × (Nat → Int32)) := o1 (fX6_isWithin a1 (0 : Int32) (R.2.2.2.2.1 - (1 : Int32))) (fun x101 => if x101 = 0 then (o2 (fX6_finding fd (-1000001 : Int32)) (fun x102 fd103 => some (x102, fd103))) else (o1 (fX6_isWithin a2 (0 : Int32) (3 : Int32)) (fun x104 => if x104 = 0 then (o2 (fX6_finding fd (-1000001 : Int32)) (fun x107 fd108 => some (x107, fd108))) else (if a2 = (3 : Int32) then (o1 (fX1_holds R a1) (fun x106 => if x106 = 0 then (some ((0 : Int32), fd)) else (some ((1 : Int32), fd)))) else (o1 (fX1_conditionFact R a1 a2) (fun x105 => some (x105, fd)))))))
theorem q_X6_lockOf : yX6_lockOf.cls = RX6 ∧ yX6_lockOf.cls ≠ "java/lang/invoke/MethodHandle" ∧ yX6_lockOf.cls ≠ "java/lang/invoke/VarHandle" ∧ (parseMethodDescriptor yX6_lockOf.desc).map (fun d => d.parameters.length) = some 2 := by decide +kernel
theorem i_X6_lockOf_X6 : ∀ w ∈ u_ws RX6 TX6 11, w ∈ wsX6_lockOf := fun _ h => List.mem_cons_of_mem _ (List.mem_append_left _ (List.mem_append_right _ (h)))
theorem i_X6_lockOf_X1 : ∀ w ∈ u_ws RX1 TX1 9, w ∈ wsX6_lockOf := fun _ h => List.mem_cons_of_mem _ (List.mem_append_right _ (h))
set_option maxHeartbeats 4000000 in
set_option maxRecDepth 100000 in
theorem c_X6_lockOf (l : Launch) (g : gG) (v0 u0 u1 u2 u3 k0 k1 k2 k3 h0 h1 h2 h3 s0 s1 s2 s3 c0 c1 c2 p0 r0 t0 t1 t2 t3 z0 f0 : Nat) (ea : Nat → Nat) (R : Rf) (N : Rf) (B : Rf) (S : Sv) (C : Ca) (P : Nat → Int32) (Q : Tr) (K : Tk) (X : F4) (fd : Nat → Int32) (tl : Int32) (ik : Int32) (a1 : Int32) (a2 : Int32) {r : Int32} {fd' : Nat → Int32} (hf : fX6_lockOf R fd a1 a2 = some (r, fd')) : Ct l yX6_lockOf wsX6_lockOf (rmm 4 91) g (wV g v0 u0 u1 u2 u3 k0 k1 k2 k3 h0 h1 h2 h3 s0 s1 s2 s3 c0 c1 c2 p0 r0 t0 t1 t2 t3 z0 f0 ea R N B S C P Q K X fd tl ik) (wV g v0 u0 u1 u2 u3 k0 k1 k2 k3 h0 h1 h2 h3 s0 s1 s2 s3 c0 c1 c2 p0 r0 t0 t1 t2 t3 z0 f0 ea R N B S C P Q K X (fd') tl ik) [.ref v0, .int a1, .int a2] (some (.int r)) := by
  refine Ct.mk (by decide) rfl (Nat.le_of_ble_eq_true rfl) ?_
  intro p e s m args below meth c A ls hx hb hr hml hts hown hlocks hA hE hP hD hS hl hAe
  obtain ⟨Qx, hQ⟩ : ∃ Qx : State → Prop, Qx = MQ below (QcG g (wV g v0 u0 u1 u2 u3 k0 k1 k2 k3 h0 h1 h2 h3 s0 s1 s2 s3 c0 c1 c2 p0 r0 t0 t1 t2 t3 z0 f0 ea R N B S C P Q K X fd tl ik) (wV g v0 u0 u1 u2 u3 k0 k1 k2 k3 h0 h1 h2 h3 s0 s1 s2 s3 c0 c1 c2 p0 r0 t0 t1 t2 t3 z0 f0 ea R N B S C P Q K X (fd') tl ik) (some (.int r)) s.heap.size) args s 0 0 A := ⟨_, rfl⟩
  rw [← hQ]
  have hown : s.vm.findClass RX6 = some m.cls := hown
  have hl : lv_has ls 3 [(0, .ref v0), (1, .int a1), (2, .int a2)] := hl
  have w1 := hts (.fieldLink RX6 10 "RainVault" "roof" "LRainVault$Roof;") (List.mem_of_getElem? (i := 1) rfl)
  have w2 := hts (.constant RX6 73 (-1000001)) (List.mem_of_getElem? (i := 2) rfl)
  unfold fX6_lockOf at hf
  refine lv_iload_n hx hb dX6_lockOf_0 rfl (lv_at hl 1 rfl) ?_
  refine lv_iconst (v := (0 : Int32)) hx hb dX6_lockOf_1 (by decide) ?_
  refine lv_aload_n hx hb dX6_lockOf_2 rfl (lv_at hl 0 rfl) ?_
  refine va_get (D := g.1) (ci := 6) (v := .ref u0) (C := RX6) (T := TX6) (N := 11) hx hb hts i_X6_lockOf_X6 hown hE.1 hP 0 rfl rfl 0 (by decide) w1 (fun _ h9 => h9) rfl dX6_lockOf_3 ?_
  refine va_getN (D := g.1) (ci := 1) (v := .int R.2.2.2.2.1) (C := RX1) (T := TX1) (N := 9) hx hb hts i_X6_lockOf_X1 hown hE.1 hP 1 rfl rfl 4 (by decide) (va_Nw.use rfl (hE.2.1 _ (List.mem_of_getElem? (i := 4) rfl))) (fun _ h9 => h9) rfl dX6_lockOf_6 ?_
  refine lv_iconst (v := (1 : Int32)) hx hb dX6_lockOf_9 (by decide) ?_
  refine lv_isub hx hb dX6_lockOf_10 ?_
  obtain ⟨x101, hg, hf⟩ := o1_s hf
  refine Ct.callS (ws' := wV g v0 u0 u1 u2 u3 k0 k1 k2 k3 h0 h1 h2 h3 s0 s1 s2 s3 c0 c1 c2 p0 r0 t0 t1 t2 t3 z0 f0 ea R N B S C P Q K X fd tl ik) (As := [.int a1, .int (0 : Int32), .int (R.2.2.2.2.1 - (1 : Int32))]) (rest := []) (st1 := [.int x101]) (c_X6_isWithin l g a1 (0 : Int32) (R.2.2.2.2.1 - (1 : Int32)) hg) (va_cwS 3 hts gX6_lockOf_X6_isWithin rfl rfl rfl q_X6_isWithin.2 ⟨Nat.le_of_ble_eq_true rfl, Nat.le_of_ble_eq_true rfl⟩) ⟨hx, hb, hml, hown, hts⟩ hE hP hD hS hA [] rfl rfl rfl rfl rfl hl.1 rfl rfl (Nat.le_of_ble_eq_true rfl) dX6_lockOf_11 (fun H locs hP hD hS => ?_)
  refine lv_if_eq (tgt := 26) hx hb dX6_lockOf_14 (by decide) (fun hc => ?_) (fun hc => ?_)
  · have hf := if_t hf hc
    refine lv_aload_n hx hb dX6_lockOf_26 rfl (lv_at hl 0 rfl) ?_
    refine lv_ldc hx hb hown w2 dX6_lockOf_27 ?_
    obtain ⟨x102, fd103, hg, hf⟩ := o2_s hf
    refine Ct.callV0 (ws' := wV g v0 u0 u1 u2 u3 k0 k1 k2 k3 h0 h1 h2 h3 s0 s1 s2 s3 c0 c1 c2 p0 r0 t0 t1 t2 t3 z0 f0 ea R N B S C P Q K X fd103 tl ik) (As := [.int (-1000001 : Int32)]) (rest := []) (st1 := [.int x102]) (c_X6_finding l g v0 u0 u1 u2 u3 k0 k1 k2 k3 h0 h1 h2 h3 s0 s1 s2 s3 c0 c1 c2 p0 r0 t0 t1 t2 t3 z0 f0 ea R N B S C P Q K X fd tl ik (-1000001 : Int32) hg) (cwV 1 hts gX6_lockOf_X6_finding rfl rfl rfl q_X6_finding ⟨Nat.le_of_ble_eq_true rfl, Nat.le_of_ble_eq_true rfl⟩) ⟨hx, hb, hml, hown, hts⟩ hE hP hD hS hA 6 0 rfl rfl rfl rfl hl.1 rfl rfl (Nat.le_of_ble_eq_true rfl) dX6_lockOf_29 (fun H locs hP hD hS => ?_)
    obtain ⟨rfl, rfl⟩ := some_p2 hf
    rw [hQ]; exact Ct.iret hx hb hr hlocks hAe hP hD hS dX6_lockOf_32
  · have hf := if_f hf hc
    refine lv_iload_n hx hb dX6_lockOf_17 rfl (lv_at hl 2 rfl) ?_
    refine lv_iconst (v := (0 : Int32)) hx hb dX6_lockOf_18 (by decide) ?_
    refine lv_iconst (v := (3 : Int32)) hx hb dX6_lockOf_19 (by decide) ?_
    obtain ⟨x104, hg, hf⟩ := o1_s hf
    refine Ct.callS (ws' := wV g v0 u0 u1 u2 u3 k0 k1 k2 k3 h0 h1 h2 h3 s0 s1 s2 s3 c0 c1 c2 p0 r0 t0 t1 t2 t3 z0 f0 ea R N B S C P Q K X fd tl ik) (As := [.int a2, .int (0 : Int32), .int (3 : Int32)]) (rest := []) (st1 := [.int x104]) (c_X6_isWithin l g a2 (0 : Int32) (3 : Int32) hg) (va_cwS 3 hts gX6_lockOf_X6_isWithin rfl rfl rfl q_X6_isWithin.2 ⟨Nat.le_of_ble_eq_true rfl, Nat.le_of_ble_eq_true rfl⟩) ⟨hx, hb, hml, hown, hts⟩ hE hP hD hS hA [] rfl rfl rfl rfl rfl hl.1 rfl rfl (Nat.le_of_ble_eq_true rfl) dX6_lockOf_20 (fun H locs hP hD hS => ?_)
    refine lv_if_ne (tgt := 33) hx hb dX6_lockOf_23 (by decide) (fun hc => ?_) (fun hc => ?_)
    · have hf := if_f hf hc
      refine lv_iload_n hx hb dX6_lockOf_33 rfl (lv_at hl 2 rfl) ?_
      refine lv_iconst (v := (3 : Int32)) hx hb dX6_lockOf_34 (by decide) ?_
      refine lv_icmp_ne (tgt := 55) hx hb dX6_lockOf_35 (by decide) (fun hc => ?_) (fun hc => ?_)
      · have hf := if_f hf hc
        refine lv_aload_n hx hb dX6_lockOf_55 rfl (lv_at hl 0 rfl) ?_
        refine va_get (D := g.1) (ci := 6) (v := .ref u0) (C := RX6) (T := TX6) (N := 11) hx hb hts i_X6_lockOf_X6 hown hE.1 hP 0 rfl rfl 0 (by decide) w1 (fun _ h9 => h9) rfl dX6_lockOf_56 ?_
        refine lv_iload_n hx hb dX6_lockOf_59 rfl (lv_at hl 1 rfl) ?_
        refine lv_iload_n hx hb dX6_lockOf_60 rfl (lv_at hl 2 rfl) ?_
        obtain ⟨x105, hg, hf⟩ := o1_s hf
        refine Ct.callV (ws' := wV g v0 u0 u1 u2 u3 k0 k1 k2 k3 h0 h1 h2 h3 s0 s1 s2 s3 c0 c1 c2 p0 r0 t0 t1 t2 t3 z0 f0 ea R N B S C P Q K X fd tl ik) (As := [.int a1, .int a2]) (rest := []) (st1 := [.int x105]) (c_X1_conditionFact l g u0 u1 u2 u3 R a1 a2 hg) (cwV 2 hts gX6_lockOf_X1_conditionFact rfl rfl rfl q_X1_conditionFact ⟨Nat.le_of_ble_eq_true rfl, Nat.le_of_ble_eq_true rfl⟩) ⟨hx, hb, hml, hown, hts⟩ hE hP hD hS hA [1, 2, 3, 4] rfl rfl rfl rfl 1 1 rfl rfl rfl rfl hl.1 rfl rfl (Nat.le_of_ble_eq_true rfl) dX6_lockOf_61 (fun H locs hP hD hS => ?_)
        obtain ⟨rfl, rfl⟩ := some_p2 hf
        rw [hQ]; exact Ct.iret hx hb hr hlocks hAe hP hD hS dX6_lockOf_64
      · have hf := if_t hf hc
        refine lv_aload_n hx hb dX6_lockOf_38 rfl (lv_at hl 0 rfl) ?_
        refine va_get (D := g.1) (ci := 6) (v := .ref u0) (C := RX6) (T := TX6) (N := 11) hx hb hts i_X6_lockOf_X6 hown hE.1 hP 0 rfl rfl 0 (by decide) w1 (fun _ h9 => h9) rfl dX6_lockOf_39 ?_
        refine lv_iload_n hx hb dX6_lockOf_42 rfl (lv_at hl 1 rfl) ?_
        obtain ⟨x106, hg, hf⟩ := o1_s hf
        refine Ct.callV (ws' := wV g v0 u0 u1 u2 u3 k0 k1 k2 k3 h0 h1 h2 h3 s0 s1 s2 s3 c0 c1 c2 p0 r0 t0 t1 t2 t3 z0 f0 ea R N B S C P Q K X fd tl ik) (As := [.int a1]) (rest := []) (st1 := [.int x106]) (c_X1_holds l g u0 u1 u2 u3 R a1 hg) (cwV 1 hts gX6_lockOf_X1_holds rfl rfl rfl q_X1_holds ⟨Nat.le_of_ble_eq_true rfl, Nat.le_of_ble_eq_true rfl⟩) ⟨hx, hb, hml, hown, hts⟩ hE hP hD hS hA [1, 2, 3, 4] rfl rfl rfl rfl 1 1 rfl rfl rfl rfl hl.1 rfl rfl (Nat.le_of_ble_eq_true rfl) dX6_lockOf_43 (fun H locs hP hD hS => ?_)
        refine lv_if_eq (tgt := 53) hx hb dX6_lockOf_46 (by decide) (fun hc => ?_) (fun hc => ?_)
        · have hf := if_t hf hc
          refine lv_iconst (v := (0 : Int32)) hx hb dX6_lockOf_53 (by decide) ?_
          obtain ⟨rfl, rfl⟩ := some_p2 hf
          rw [hQ]; exact Ct.iret hx hb hr hlocks hAe hP hD hS dX6_lockOf_54
        · have hf := if_f hf hc
          refine lv_iconst (v := (1 : Int32)) hx hb dX6_lockOf_49 (by decide) ?_
          refine lv_goto (tgt := 54) hx hb dX6_lockOf_50 (by decide) ?_
          obtain ⟨rfl, rfl⟩ := some_p2 hf
          rw [hQ]; exact Ct.iret hx hb hr hlocks hAe hP hD hS dX6_lockOf_54
    · have hf := if_t hf hc
      refine lv_aload_n hx hb dX6_lockOf_26 rfl (lv_at hl 0 rfl) ?_
      refine lv_ldc hx hb hown w2 dX6_lockOf_27 ?_
      obtain ⟨x107, fd108, hg, hf⟩ := o2_s hf
      refine Ct.callV0 (ws' := wV g v0 u0 u1 u2 u3 k0 k1 k2 k3 h0 h1 h2 h3 s0 s1 s2 s3 c0 c1 c2 p0 r0 t0 t1 t2 t3 z0 f0 ea R N B S C P Q K X fd108 tl ik) (As := [.int (-1000001 : Int32)]) (rest := []) (st1 := [.int x107]) (c_X6_finding l g v0 u0 u1 u2 u3 k0 k1 k2 k3 h0 h1 h2 h3 s0 s1 s2 s3 c0 c1 c2 p0 r0 t0 t1 t2 t3 z0 f0 ea R N B S C P Q K X fd tl ik (-1000001 : Int32) hg) (cwV 1 hts gX6_lockOf_X6_finding rfl rfl rfl q_X6_finding ⟨Nat.le_of_ble_eq_true rfl, Nat.le_of_ble_eq_true rfl⟩) ⟨hx, hb, hml, hown, hts⟩ hE hP hD hS hA 6 0 rfl rfl rfl rfl hl.1 rfl rfl (Nat.le_of_ble_eq_true rfl) dX6_lockOf_29 (fun H locs hP hD hS => ?_)
      obtain ⟨rfl, rfl⟩ := some_p2 hf
      rw [hQ]; exact Ct.iret hx hb hr hlocks hAe hP hD hS dX6_lockOf_32
def fX6_pick (R : Rf) (fd : Nat → Int32) (a1 : Int32) : Option (Int32 × Rf × (Nat → Int32)) := o1 (fX6_isWithin a1 (0 : Int32) (R.2.2.2.2.1 - (1 : Int32))) (fun x101 => if x101 = 0 then (o2 (fX6_finding fd (-1000001 : Int32)) (fun x103 fd104 => some (x103, R, fd104))) else (o1 (fX1_removeCondition R a1) (fun R102 => some (R102.2.2.2.2.1, R102, fd))))
theorem q_X6_pick : yX6_pick.cls = RX6 ∧ yX6_pick.cls ≠ "java/lang/invoke/MethodHandle" ∧ yX6_pick.cls ≠ "java/lang/invoke/VarHandle" ∧ (parseMethodDescriptor yX6_pick.desc).map (fun d => d.parameters.length) = some 1 := by decide +kernel
theorem i_X6_pick_X6 : ∀ w ∈ u_ws RX6 TX6 11, w ∈ wsX6_pick := fun _ h => List.mem_cons_of_mem _ (List.mem_append_left _ (List.mem_append_right _ (h)))
theorem i_X6_pick_X1 : ∀ w ∈ u_ws RX1 TX1 9, w ∈ wsX6_pick := fun _ h => List.mem_cons_of_mem _ (List.mem_append_right _ (h))
set_option maxHeartbeats 4000000 in
set_option maxRecDepth 100000 in
theorem c_X6_pick (l : Launch) (g : gG) (v0 u0 u1 u2 u3 k0 k1 k2 k3 h0 h1 h2 h3 s0 s1 s2 s3 c0 c1 c2 p0 r0 t0 t1 t2 t3 z0 f0 : Nat) (ea : Nat → Nat) (R : Rf) (N : Rf) (B : Rf) (S : Sv) (C : Ca) (P : Nat → Int32) (Q : Tr) (K : Tk) (X : F4) (fd : Nat → Int32) (tl : Int32) (ik : Int32) (a1 : Int32) {r : Int32} {R' : Rf} {fd' : Nat → Int32} (hf : fX6_pick R fd a1 = some (r, R', fd')) : Ct l yX6_pick wsX6_pick (rmm 3 68) g (wV g v0 u0 u1 u2 u3 k0 k1 k2 k3 h0 h1 h2 h3 s0 s1 s2 s3 c0 c1 c2 p0 r0 t0 t1 t2 t3 z0 f0 ea R N B S C P Q K X fd tl ik) (wV g v0 u0 u1 u2 u3 k0 k1 k2 k3 h0 h1 h2 h3 s0 s1 s2 s3 c0 c1 c2 p0 r0 t0 t1 t2 t3 z0 f0 ea (R') N B S C P Q K X (fd') tl ik) [.ref v0, .int a1] (some (.int r)) := by
  refine Ct.mk (by decide) rfl (Nat.le_of_ble_eq_true rfl) ?_
  intro p e s m args below meth c A ls hx hb hr hml hts hown hlocks hA hE hP hD hS hl hAe
  obtain ⟨Qx, hQ⟩ : ∃ Qx : State → Prop, Qx = MQ below (QcG g (wV g v0 u0 u1 u2 u3 k0 k1 k2 k3 h0 h1 h2 h3 s0 s1 s2 s3 c0 c1 c2 p0 r0 t0 t1 t2 t3 z0 f0 ea R N B S C P Q K X fd tl ik) (wV g v0 u0 u1 u2 u3 k0 k1 k2 k3 h0 h1 h2 h3 s0 s1 s2 s3 c0 c1 c2 p0 r0 t0 t1 t2 t3 z0 f0 ea (R') N B S C P Q K X (fd') tl ik) (some (.int r)) s.heap.size) args s 0 0 A := ⟨_, rfl⟩
  rw [← hQ]
  have hown : s.vm.findClass RX6 = some m.cls := hown
  have hl : lv_has ls 2 [(0, .ref v0), (1, .int a1)] := hl
  have w1 := hts (.fieldLink RX6 10 "RainVault" "roof" "LRainVault$Roof;") (List.mem_of_getElem? (i := 1) rfl)
  have w2 := hts (.constant RX6 73 (-1000001)) (List.mem_of_getElem? (i := 2) rfl)
  unfold fX6_pick at hf
  refine lv_iload_n hx hb dX6_pick_0 rfl (lv_at hl 1 rfl) ?_
  refine lv_iconst (v := (0 : Int32)) hx hb dX6_pick_1 (by decide) ?_
  refine lv_aload_n hx hb dX6_pick_2 rfl (lv_at hl 0 rfl) ?_
  refine va_get (D := g.1) (ci := 6) (v := .ref u0) (C := RX6) (T := TX6) (N := 11) hx hb hts i_X6_pick_X6 hown hE.1 hP 0 rfl rfl 0 (by decide) w1 (fun _ h9 => h9) rfl dX6_pick_3 ?_
  refine va_getN (D := g.1) (ci := 1) (v := .int R.2.2.2.2.1) (C := RX1) (T := TX1) (N := 9) hx hb hts i_X6_pick_X1 hown hE.1 hP 1 rfl rfl 4 (by decide) (va_Nw.use rfl (hE.2.1 _ (List.mem_of_getElem? (i := 4) rfl))) (fun _ h9 => h9) rfl dX6_pick_6 ?_
  refine lv_iconst (v := (1 : Int32)) hx hb dX6_pick_9 (by decide) ?_
  refine lv_isub hx hb dX6_pick_10 ?_
  obtain ⟨x101, hg, hf⟩ := o1_s hf
  refine Ct.callS (ws' := wV g v0 u0 u1 u2 u3 k0 k1 k2 k3 h0 h1 h2 h3 s0 s1 s2 s3 c0 c1 c2 p0 r0 t0 t1 t2 t3 z0 f0 ea R N B S C P Q K X fd tl ik) (As := [.int a1, .int (0 : Int32), .int (R.2.2.2.2.1 - (1 : Int32))]) (rest := []) (st1 := [.int x101]) (c_X6_isWithin l g a1 (0 : Int32) (R.2.2.2.2.1 - (1 : Int32)) hg) (va_cwS 3 hts gX6_pick_X6_isWithin rfl rfl rfl q_X6_isWithin.2 ⟨Nat.le_of_ble_eq_true rfl, Nat.le_of_ble_eq_true rfl⟩) ⟨hx, hb, hml, hown, hts⟩ hE hP hD hS hA [] rfl rfl rfl rfl rfl hl.1 rfl rfl (Nat.le_of_ble_eq_true rfl) dX6_pick_11 (fun H locs hP hD hS => ?_)
  refine lv_if_ne (tgt := 24) hx hb dX6_pick_14 (by decide) (fun hc => ?_) (fun hc => ?_)
  · have hf := if_f hf hc
    refine lv_aload_n hx hb dX6_pick_24 rfl (lv_at hl 0 rfl) ?_
    refine va_get (D := g.1) (ci := 6) (v := .ref u0) (C := RX6) (T := TX6) (N := 11) hx hb hts i_X6_pick_X6 hown hE.1 hP 0 rfl rfl 0 (by decide) w1 (fun _ h9 => h9) rfl dX6_pick_25 ?_
    refine lv_iload_n hx hb dX6_pick_28 rfl (lv_at hl 1 rfl) ?_
    obtain ⟨R102, hg, hf⟩ := o1_s hf
    refine Ct.callV (ws' := wV g v0 u0 u1 u2 u3 k0 k1 k2 k3 h0 h1 h2 h3 s0 s1 s2 s3 c0 c1 c2 p0 r0 t0 t1 t2 t3 z0 f0 ea R102 N B S C P Q K X fd tl ik) (As := [.int a1]) (rest := []) (st1 := []) (c_X1_removeCondition l g u0 u1 u2 u3 R a1 hg) (cwV 1 hts gX6_pick_X1_removeCondition rfl rfl rfl q_X1_removeCondition ⟨Nat.le_of_ble_eq_true rfl, Nat.le_of_ble_eq_true rfl⟩) ⟨hx, hb, hml, hown, hts⟩ hE hP hD hS hA [1, 2, 3, 4] rfl rfl rfl rfl 1 1 rfl rfl rfl rfl hl.1 rfl rfl (Nat.le_of_ble_eq_true rfl) dX6_pick_29 (fun H locs hP hD hS => ?_)
    refine lv_aload_n hx hb dX6_pick_32 rfl (lv_at hl 0 rfl) ?_
    refine va_get (D := g.1) (ci := 6) (v := .ref u0) (C := RX6) (T := TX6) (N := 11) hx hb hts i_X6_pick_X6 hown hE.1 hP 0 rfl rfl 0 (by decide) w1 (fun _ h9 => h9) rfl dX6_pick_33 ?_
    refine va_getN (D := g.1) (ci := 1) (v := .int R102.2.2.2.2.1) (C := RX1) (T := TX1) (N := 9) hx hb hts i_X6_pick_X1 hown hE.1 hP 1 rfl rfl 4 (by decide) (va_Nw.use rfl (hE.2.1 _ (List.mem_of_getElem? (i := 4) rfl))) (fun _ h9 => h9) rfl dX6_pick_36 ?_
    obtain ⟨rfl, rfl, rfl⟩ := some_p3 hf
    rw [hQ]; exact Ct.iret hx hb hr hlocks hAe hP hD hS dX6_pick_39
  · have hf := if_t hf hc
    refine lv_aload_n hx hb dX6_pick_17 rfl (lv_at hl 0 rfl) ?_
    refine lv_ldc hx hb hown w2 dX6_pick_18 ?_
    obtain ⟨x103, fd104, hg, hf⟩ := o2_s hf
    refine Ct.callV0 (ws' := wV g v0 u0 u1 u2 u3 k0 k1 k2 k3 h0 h1 h2 h3 s0 s1 s2 s3 c0 c1 c2 p0 r0 t0 t1 t2 t3 z0 f0 ea R N B S C P Q K X fd104 tl ik) (As := [.int (-1000001 : Int32)]) (rest := []) (st1 := [.int x103]) (c_X6_finding l g v0 u0 u1 u2 u3 k0 k1 k2 k3 h0 h1 h2 h3 s0 s1 s2 s3 c0 c1 c2 p0 r0 t0 t1 t2 t3 z0 f0 ea R N B S C P Q K X fd tl ik (-1000001 : Int32) hg) (cwV 1 hts gX6_pick_X6_finding rfl rfl rfl q_X6_finding ⟨Nat.le_of_ble_eq_true rfl, Nat.le_of_ble_eq_true rfl⟩) ⟨hx, hb, hml, hown, hts⟩ hE hP hD hS hA 6 0 rfl rfl rfl rfl hl.1 rfl rfl (Nat.le_of_ble_eq_true rfl) dX6_pick_20 (fun H locs hP hD hS => ?_)
    obtain ⟨rfl, rfl, rfl⟩ := some_p3 hf
    rw [hQ]; exact Ct.iret hx hb hr hlocks hAe hP hD hS dX6_pick_23
def fX6_holding_L4 (R : Rf) (kx : Int32 → Option (Int32)) : Nat → Int32 → Int32 → Option (Int32)
  | 0, _, _ => none
  | k + 1, x1, x2 => if R.2.2.2.2.1 ≤ x2 then (kx x1) else (o1 (fX1_holds R x2) (fun x102 => if x102 = 0 then (fX6_holding_L4 R kx k x1 (x2 + (1 : Int32))) else (fX6_holding_L4 R kx k (x1 ||| ((1 : Int32) <<< (x2 &&& 31))) (x2 + (1 : Int32)))))
def fX6_holding (R : Rf) : Option (Int32) := fX6_holding_L4 R (fun x103 => some x103) fu (0 : Int32) (0 : Int32)
theorem q_X6_holding : yX6_holding.cls = RX6 ∧ yX6_holding.cls ≠ "java/lang/invoke/MethodHandle" ∧ yX6_holding.cls ≠ "java/lang/invoke/VarHandle" ∧ (parseMethodDescriptor yX6_holding.desc).map (fun d => d.parameters.length) = some 0 := by decide +kernel
theorem i_X6_holding_X6 : ∀ w ∈ u_ws RX6 TX6 11, w ∈ wsX6_holding := fun _ h => List.mem_cons_of_mem _ (List.mem_append_left _ (List.mem_append_right _ (h)))
theorem i_X6_holding_X1 : ∀ w ∈ u_ws RX1 TX1 9, w ∈ wsX6_holding := fun _ h => List.mem_cons_of_mem _ (List.mem_append_right _ (h))
set_option maxHeartbeats 4000000 in
set_option maxRecDepth 100000 in
theorem c_X6_holding (l : Launch) (g : gG) (v0 u0 u1 u2 u3 k0 k1 k2 k3 h0 h1 h2 h3 s0 s1 s2 s3 c0 c1 c2 p0 r0 t0 t1 t2 t3 z0 f0 : Nat) (ea : Nat → Nat) (R : Rf) (N : Rf) (B : Rf) (S : Sv) (C : Ca) (P : Nat → Int32) (Q : Tr) (K : Tk) (X : F4) (fd : Nat → Int32) (tl : Int32) (ik : Int32) {r : Int32} (hf : fX6_holding R = some r) : Ct l yX6_holding wsX6_holding (rmm 4 91) g (wV g v0 u0 u1 u2 u3 k0 k1 k2 k3 h0 h1 h2 h3 s0 s1 s2 s3 c0 c1 c2 p0 r0 t0 t1 t2 t3 z0 f0 ea R N B S C P Q K X fd tl ik) (wV g v0 u0 u1 u2 u3 k0 k1 k2 k3 h0 h1 h2 h3 s0 s1 s2 s3 c0 c1 c2 p0 r0 t0 t1 t2 t3 z0 f0 ea R N B S C P Q K X fd tl ik) [.ref v0] (some (.int r)) := by
  refine Ct.mk (by decide) rfl (Nat.le_of_ble_eq_true rfl) ?_
  intro p e s m args below meth c A ls hx hb hr hml hts hown hlocks hA hE hP hD hS hl hAe
  obtain ⟨Qx, hQ⟩ : ∃ Qx : State → Prop, Qx = MQ below (QcG g (wV g v0 u0 u1 u2 u3 k0 k1 k2 k3 h0 h1 h2 h3 s0 s1 s2 s3 c0 c1 c2 p0 r0 t0 t1 t2 t3 z0 f0 ea R N B S C P Q K X fd tl ik) (wV g v0 u0 u1 u2 u3 k0 k1 k2 k3 h0 h1 h2 h3 s0 s1 s2 s3 c0 c1 c2 p0 r0 t0 t1 t2 t3 z0 f0 ea R N B S C P Q K X fd tl ik) (some (.int r)) s.heap.size) args s 0 0 A := ⟨_, rfl⟩
  rw [← hQ]
  have hown : s.vm.findClass RX6 = some m.cls := hown
  have hl : lv_has ls 3 [(0, .ref v0)] := hl
  have w1 := hts (.fieldLink RX6 10 "RainVault" "roof" "LRainVault$Roof;") (List.mem_of_getElem? (i := 1) rfl)
  have L4 : ∀ (kx : Int32 → Option (Int32)) (k : Nat) (x1 : Int32) (x2 : Int32) (H : Heap) (locs : List Loc) (ls : Array Slot), fX6_holding_L4 R kx k x1 x2 = some r → va_P g.1 vwK (wV g v0 u0 u1 u2 u3 k0 k1 k2 k3 h0 h1 h2 h3 s0 s1 s2 s3 c0 c1 c2 p0 r0 t0 t1 t2 t3 z0 f0 ea R N B S C P Q K X fd tl ik) H → va_D A (wV g v0 u0 u1 u2 u3 k0 k1 k2 k3 h0 h1 h2 h3 s0 s1 s2 s3 c0 c1 c2 p0 r0 t0 t1 t2 t3 z0 f0 ea R N B S C P Q K X fd tl ik) → va_S A s.heap H locs → lv_has ls 3 [(0, .ref v0), (1, .int x1), (2, .int x2)] → (∀ (x1 : Int32) (H : Heap) (locs : List Loc) (ls : Array Slot), kx x1 = some r → va_P g.1 vwK (wV g v0 u0 u1 u2 u3 k0 k1 k2 k3 h0 h1 h2 h3 s0 s1 s2 s3 c0 c1 c2 p0 r0 t0 t1 t2 t3 z0 f0 ea R N B S C P Q K X fd tl ik) H → va_D A (wV g v0 u0 u1 u2 u3 k0 k1 k2 k3 h0 h1 h2 h3 s0 s1 s2 s3 c0 c1 c2 p0 r0 t0 t1 t2 t3 z0 f0 ea R N B S C P Q K X fd tl ik) → va_S A s.heap H locs → lv_has ls 3 [(1, .int x1)] → W p l e (rmm 4 91) s m args below meth c H locs 0 0 Qx (F0 m 38 ls [])) → W p l e (rmm 4 91) s m args below meth c H locs 0 0 Qx (F0 m 4 ls []) := by
    intro kx k
    induction k with
    | zero => intro x1 x2 H locs ls hf; exact nomatch (show (none : Option (Int32)) = some _ from hf)
    | succ k ih =>
      intro x1 x2 H locs ls hf hP hD hS hl hk
      rw [fX6_holding_L4] at hf
      refine lv_iload_n hx hb dX6_holding_4 rfl (lv_at hl 2 rfl) ?_
      refine lv_aload_n hx hb dX6_holding_5 rfl (lv_at hl 0 rfl) ?_
      refine va_get (D := g.1) (ci := 6) (v := .ref u0) (C := RX6) (T := TX6) (N := 11) hx hb hts i_X6_holding_X6 hown hE.1 hP 0 rfl rfl 0 (by decide) w1 (fun _ h9 => h9) rfl dX6_holding_6 ?_
      refine va_getN (D := g.1) (ci := 1) (v := .int R.2.2.2.2.1) (C := RX1) (T := TX1) (N := 9) hx hb hts i_X6_holding_X1 hown hE.1 hP 1 rfl rfl 4 (by decide) (va_Nw.use rfl (hE.2.1 _ (List.mem_of_getElem? (i := 4) rfl))) (fun _ h9 => h9) rfl dX6_holding_9 ?_
      refine lv_icmp_ge (tgt := 38) hx hb dX6_holding_12 (by decide) (fun hc => ?_) (fun hc => ?_)
      · have hf := if_t hf hc
        exact hk _ _ _ _  hf hP hD hS (lv_sub hl [1] rfl)
      · have hf := if_f hf hc
        refine lv_aload_n hx hb dX6_holding_15 rfl (lv_at hl 0 rfl) ?_
        refine va_get (D := g.1) (ci := 6) (v := .ref u0) (C := RX6) (T := TX6) (N := 11) hx hb hts i_X6_holding_X6 hown hE.1 hP 0 rfl rfl 0 (by decide) w1 (fun _ h9 => h9) rfl dX6_holding_16 ?_
        refine lv_iload_n hx hb dX6_holding_19 rfl (lv_at hl 2 rfl) ?_
        obtain ⟨x102, hg, hf⟩ := o1_s hf
        refine Ct.callV (ws' := wV g v0 u0 u1 u2 u3 k0 k1 k2 k3 h0 h1 h2 h3 s0 s1 s2 s3 c0 c1 c2 p0 r0 t0 t1 t2 t3 z0 f0 ea R N B S C P Q K X fd tl ik) (As := [.int x2]) (rest := []) (st1 := [.int x102]) (c_X1_holds l g u0 u1 u2 u3 R x2 hg) (cwV 1 hts gX6_holding_X1_holds rfl rfl rfl q_X1_holds ⟨Nat.le_of_ble_eq_true rfl, Nat.le_of_ble_eq_true rfl⟩) ⟨hx, hb, hml, hown, hts⟩ hE hP hD hS hA [1, 2, 3, 4] rfl rfl rfl rfl 1 1 rfl rfl rfl rfl hl.1 rfl rfl (Nat.le_of_ble_eq_true rfl) dX6_holding_20 (fun H locs hP hD hS => ?_)
        refine lv_if_eq (tgt := 32) hx hb dX6_holding_23 (by decide) (fun hc => ?_) (fun hc => ?_)
        · have hf := if_t hf hc
          refine lv_iinc (v := (x2 + (1 : Int32))) (lv' := [(2, .int (x2 + (1 : Int32))), (0, .ref v0), (1, .int x1)]) hx hb dX6_holding_32 hl (k := 2) rfl rfl (by decide) rfl (fun ls hl => ?_)
          refine lv_goto (tgt := 4) hx hb dX6_holding_35 (by decide) ?_
          exact ih _ _ _ _ _  hf hP hD hS (lv_sub hl [1, 2, 0] rfl) hk
        · have hf := if_f hf hc
          refine lv_iload_n hx hb dX6_holding_26 rfl (lv_at hl 1 rfl) ?_
          refine lv_iconst (v := (1 : Int32)) hx hb dX6_holding_27 (by decide) ?_
          refine lv_iload_n hx hb dX6_holding_28 rfl (lv_at hl 2 rfl) ?_
          refine lv_ishl hx hb dX6_holding_29 ?_
          refine lv_ior hx hb dX6_holding_30 ?_
          refine lv_istore_n (lv' := [(1, .int (x1 ||| ((1 : Int32) <<< (x2 &&& 31)))), (0, .ref v0), (2, .int x2)]) hx hb dX6_holding_31 rfl hl (by decide) rfl (fun ls hl => ?_)
          refine lv_iinc (v := (x2 + (1 : Int32))) (lv' := [(2, .int (x2 + (1 : Int32))), (1, .int (x1 ||| ((1 : Int32) <<< (x2 &&& 31)))), (0, .ref v0)]) hx hb dX6_holding_32 hl (k := 2) rfl rfl (by decide) rfl (fun ls hl => ?_)
          refine lv_goto (tgt := 4) hx hb dX6_holding_35 (by decide) ?_
          exact ih _ _ _ _ _  hf hP hD hS (lv_sub hl [2, 1, 0] rfl) hk
  unfold fX6_holding at hf
  refine lv_iconst (v := (0 : Int32)) hx hb dX6_holding_0 (by decide) ?_
  refine lv_istore_n (lv' := [(1, .int (0 : Int32)), (0, .ref v0)]) hx hb dX6_holding_1 rfl hl (by decide) rfl (fun ls hl => ?_)
  refine lv_iconst (v := (0 : Int32)) hx hb dX6_holding_2 (by decide) ?_
  refine lv_istore_n (lv' := [(2, .int (0 : Int32)), (1, .int (0 : Int32)), (0, .ref v0)]) hx hb dX6_holding_3 rfl hl (by decide) rfl (fun ls hl => ?_)
  refine L4 _ _ _ _ _ _ _  hf hP hD hS (lv_sub hl [2, 1, 0] rfl) (fun x103 H locs ls hf hP hD hS hl => ?_)
  refine lv_iload_n hx hb dX6_holding_38 rfl (lv_at hl 0 rfl) ?_
  obtain rfl := Option.some.inj hf
  rw [hQ]; exact Ct.iret hx hb hr hlocks hAe hP hD hS dX6_holding_39
def fX6_open (R : Rf) : Option (Int32) := o1 (fX1_isOpen R) (fun x101 => if x101 = 0 then (some (0 : Int32)) else (some (1 : Int32)))
theorem q_X6_open : yX6_open.cls = RX6 ∧ yX6_open.cls ≠ "java/lang/invoke/MethodHandle" ∧ yX6_open.cls ≠ "java/lang/invoke/VarHandle" ∧ (parseMethodDescriptor yX6_open.desc).map (fun d => d.parameters.length) = some 0 := by decide +kernel
theorem i_X6_open_X6 : ∀ w ∈ u_ws RX6 TX6 11, w ∈ wsX6_open := fun _ h => List.mem_cons_of_mem _ (List.mem_append_left _ (List.mem_append_right _ (h)))
set_option maxHeartbeats 4000000 in
set_option maxRecDepth 100000 in
theorem c_X6_open (l : Launch) (g : gG) (v0 u0 u1 u2 u3 k0 k1 k2 k3 h0 h1 h2 h3 s0 s1 s2 s3 c0 c1 c2 p0 r0 t0 t1 t2 t3 z0 f0 : Nat) (ea : Nat → Nat) (R : Rf) (N : Rf) (B : Rf) (S : Sv) (C : Ca) (P : Nat → Int32) (Q : Tr) (K : Tk) (X : F4) (fd : Nat → Int32) (tl : Int32) (ik : Int32) {r : Int32} (hf : fX6_open R = some r) : Ct l yX6_open wsX6_open (rmm 5 112) g (wV g v0 u0 u1 u2 u3 k0 k1 k2 k3 h0 h1 h2 h3 s0 s1 s2 s3 c0 c1 c2 p0 r0 t0 t1 t2 t3 z0 f0 ea R N B S C P Q K X fd tl ik) (wV g v0 u0 u1 u2 u3 k0 k1 k2 k3 h0 h1 h2 h3 s0 s1 s2 s3 c0 c1 c2 p0 r0 t0 t1 t2 t3 z0 f0 ea R N B S C P Q K X fd tl ik) [.ref v0] (some (.int r)) := by
  refine Ct.mk (by decide) rfl (Nat.le_of_ble_eq_true rfl) ?_
  intro p e s m args below meth c A ls hx hb hr hml hts hown hlocks hA hE hP hD hS hl hAe
  obtain ⟨Qx, hQ⟩ : ∃ Qx : State → Prop, Qx = MQ below (QcG g (wV g v0 u0 u1 u2 u3 k0 k1 k2 k3 h0 h1 h2 h3 s0 s1 s2 s3 c0 c1 c2 p0 r0 t0 t1 t2 t3 z0 f0 ea R N B S C P Q K X fd tl ik) (wV g v0 u0 u1 u2 u3 k0 k1 k2 k3 h0 h1 h2 h3 s0 s1 s2 s3 c0 c1 c2 p0 r0 t0 t1 t2 t3 z0 f0 ea R N B S C P Q K X fd tl ik) (some (.int r)) s.heap.size) args s 0 0 A := ⟨_, rfl⟩
  rw [← hQ]
  have hown : s.vm.findClass RX6 = some m.cls := hown
  have hl : lv_has ls 1 [(0, .ref v0)] := hl
  have w1 := hts (.fieldLink RX6 10 "RainVault" "roof" "LRainVault$Roof;") (List.mem_of_getElem? (i := 1) rfl)
  unfold fX6_open at hf
  refine lv_aload_n hx hb dX6_open_0 rfl (lv_at hl 0 rfl) ?_
  refine va_get (D := g.1) (ci := 6) (v := .ref u0) (C := RX6) (T := TX6) (N := 11) hx hb hts i_X6_open_X6 hown hE.1 hP 0 rfl rfl 0 (by decide) w1 (fun _ h9 => h9) rfl dX6_open_1 ?_
  obtain ⟨x101, hg, hf⟩ := o1_s hf
  refine Ct.callV (ws' := wV g v0 u0 u1 u2 u3 k0 k1 k2 k3 h0 h1 h2 h3 s0 s1 s2 s3 c0 c1 c2 p0 r0 t0 t1 t2 t3 z0 f0 ea R N B S C P Q K X fd tl ik) (As := []) (rest := []) (st1 := [.int x101]) (c_X1_isOpen l g u0 u1 u2 u3 R hg) (cwV 0 hts gX6_open_X1_isOpen rfl rfl rfl q_X1_isOpen ⟨Nat.le_of_ble_eq_true rfl, Nat.le_of_ble_eq_true rfl⟩) ⟨hx, hb, hml, hown, hts⟩ hE hP hD hS hA [1, 2, 3, 4] rfl rfl rfl rfl 1 1 rfl rfl rfl rfl hl.1 rfl rfl (Nat.le_of_ble_eq_true rfl) dX6_open_4 (fun H locs hP hD hS => ?_)
  refine lv_if_eq (tgt := 14) hx hb dX6_open_7 (by decide) (fun hc => ?_) (fun hc => ?_)
  · have hf := if_t hf hc
    refine lv_iconst (v := (0 : Int32)) hx hb dX6_open_14 (by decide) ?_
    obtain rfl := Option.some.inj hf
    rw [hQ]; exact Ct.iret hx hb hr hlocks hAe hP hD hS dX6_open_15
  · have hf := if_f hf hc
    refine lv_iconst (v := (1 : Int32)) hx hb dX6_open_10 (by decide) ?_
    refine lv_goto (tgt := 15) hx hb dX6_open_11 (by decide) ?_
    obtain rfl := Option.some.inj hf
    rw [hQ]; exact Ct.iret hx hb hr hlocks hAe hP hD hS dX6_open_15
def fX6_isTooLate (R : Rf) (a1 : Int32) : Option (Int32) := if (R.2.2.2.2.2.2.1 + a1) ≤ (9999 : Int32) then (some (0 : Int32)) else (some (1 : Int32))
theorem q_X6_isTooLate : yX6_isTooLate.cls = RX6 ∧ yX6_isTooLate.cls ≠ "java/lang/invoke/MethodHandle" ∧ yX6_isTooLate.cls ≠ "java/lang/invoke/VarHandle" ∧ (parseMethodDescriptor yX6_isTooLate.desc).map (fun d => d.parameters.length) = some 1 := by decide +kernel
theorem i_X6_isTooLate_X6 : ∀ w ∈ u_ws RX6 TX6 11, w ∈ wsX6_isTooLate := fun _ h => List.mem_cons_of_mem _ (List.mem_append_left _ (List.mem_append_right _ (h)))
theorem i_X6_isTooLate_X1 : ∀ w ∈ u_ws RX1 TX1 9, w ∈ wsX6_isTooLate := fun _ h => List.mem_cons_of_mem _ (List.mem_append_right _ (h))
set_option maxHeartbeats 4000000 in
set_option maxRecDepth 100000 in
theorem c_X6_isTooLate (l : Launch) (g : gG) (v0 u0 u1 u2 u3 k0 k1 k2 k3 h0 h1 h2 h3 s0 s1 s2 s3 c0 c1 c2 p0 r0 t0 t1 t2 t3 z0 f0 : Nat) (ea : Nat → Nat) (R : Rf) (N : Rf) (B : Rf) (S : Sv) (C : Ca) (P : Nat → Int32) (Q : Tr) (K : Tk) (X : F4) (fd : Nat → Int32) (tl : Int32) (ik : Int32) (a1 : Int32) {r : Int32} (hf : fX6_isTooLate R a1 = some r) : Ct l yX6_isTooLate wsX6_isTooLate (rmm 0 0) g (wV g v0 u0 u1 u2 u3 k0 k1 k2 k3 h0 h1 h2 h3 s0 s1 s2 s3 c0 c1 c2 p0 r0 t0 t1 t2 t3 z0 f0 ea R N B S C P Q K X fd tl ik) (wV g v0 u0 u1 u2 u3 k0 k1 k2 k3 h0 h1 h2 h3 s0 s1 s2 s3 c0 c1 c2 p0 r0 t0 t1 t2 t3 z0 f0 ea R N B S C P Q K X fd tl ik) [.ref v0, .int a1] (some (.int r)) := by
  refine Ct.mk (by decide) rfl (Nat.le_of_ble_eq_true rfl) ?_
  intro p e s m args below meth c A ls hx hb hr hml hts hown hlocks hA hE hP hD hS hl hAe
  obtain ⟨Qx, hQ⟩ : ∃ Qx : State → Prop, Qx = MQ below (QcG g (wV g v0 u0 u1 u2 u3 k0 k1 k2 k3 h0 h1 h2 h3 s0 s1 s2 s3 c0 c1 c2 p0 r0 t0 t1 t2 t3 z0 f0 ea R N B S C P Q K X fd tl ik) (wV g v0 u0 u1 u2 u3 k0 k1 k2 k3 h0 h1 h2 h3 s0 s1 s2 s3 c0 c1 c2 p0 r0 t0 t1 t2 t3 z0 f0 ea R N B S C P Q K X fd tl ik) (some (.int r)) s.heap.size) args s 0 0 A := ⟨_, rfl⟩
  rw [← hQ]
  have hown : s.vm.findClass RX6 = some m.cls := hown
  have hl : lv_has ls 2 [(0, .ref v0), (1, .int a1)] := hl
  have w1 := hts (.fieldLink RX6 10 "RainVault" "roof" "LRainVault$Roof;") (List.mem_of_getElem? (i := 1) rfl)
  unfold fX6_isTooLate at hf
  refine lv_aload_n hx hb dX6_isTooLate_0 rfl (lv_at hl 0 rfl) ?_
  refine va_get (D := g.1) (ci := 6) (v := .ref u0) (C := RX6) (T := TX6) (N := 11) hx hb hts i_X6_isTooLate_X6 hown hE.1 hP 0 rfl rfl 0 (by decide) w1 (fun _ h9 => h9) rfl dX6_isTooLate_1 ?_
  refine va_getN (D := g.1) (ci := 1) (v := .int R.2.2.2.2.2.2.1) (C := RX1) (T := TX1) (N := 9) hx hb hts i_X6_isTooLate_X1 hown hE.1 hP 1 rfl rfl 6 (by decide) (va_Nw.use rfl (hE.2.1 _ (List.mem_of_getElem? (i := 7) rfl))) (fun _ h9 => h9) rfl dX6_isTooLate_4 ?_
  refine lv_iload_n hx hb dX6_isTooLate_7 rfl (lv_at hl 1 rfl) ?_
  refine lv_iadd hx hb dX6_isTooLate_8 ?_
  refine lv_sipush (v := (9999 : Int32)) hx hb dX6_isTooLate_9 (by decide) ?_
  refine lv_icmp_le (tgt := 19) hx hb dX6_isTooLate_12 (by decide) (fun hc => ?_) (fun hc => ?_)
  · have hf := if_t hf hc
    refine lv_iconst (v := (0 : Int32)) hx hb dX6_isTooLate_19 (by decide) ?_
    obtain rfl := Option.some.inj hf
    rw [hQ]; exact Ct.zret hx hb hr (by decide) hlocks hAe hP hD hS dX6_isTooLate_20
  · have hf := if_f hf hc
    refine lv_iconst (v := (1 : Int32)) hx hb dX6_isTooLate_15 (by decide) ?_
    refine lv_goto (tgt := 20) hx hb dX6_isTooLate_16 (by decide) ?_
    obtain rfl := Option.some.inj hf
    rw [hQ]; exact Ct.zret hx hb hr (by decide) hlocks hAe hP hD hS dX6_isTooLate_20
def fX6_rain (R : Rf) (fd : Nat → Int32) (a1 : Int32) (a2 : Int32) (a3 : Int32) : Option (Int32 × Rf × (Nat → Int32)) := o1 (fX6_isRain a1 a2) (fun x101 => if x101 = 0 then (o2 (fX6_finding fd (-1000001 : Int32)) (fun x102 fd103 => some (x102, R, fd103))) else (o1 (fX6_isWithin a3 (1 : Int32) (100 : Int32)) (fun x104 => if x104 = 0 then (o2 (fX6_finding fd (-1000001 : Int32)) (fun x110 fd111 => some (x110, R, fd111))) else (o1 (fX6_isTooLate R a3) (fun x105 => if x105 = 0 then (o2 (fX1_passHours R a1 a2 a3) (fun x106 R107 => some (x106, R107, fd))) else (o2 (fX6_finding fd (-1000005 : Int32)) (fun x108 fd109 => some (x108, R, fd109))))))))
theorem q_X6_rain : yX6_rain.cls = RX6 ∧ yX6_rain.cls ≠ "java/lang/invoke/MethodHandle" ∧ yX6_rain.cls ≠ "java/lang/invoke/VarHandle" ∧ (parseMethodDescriptor yX6_rain.desc).map (fun d => d.parameters.length) = some 3 := by decide +kernel
theorem i_X6_rain_X6 : ∀ w ∈ u_ws RX6 TX6 11, w ∈ wsX6_rain := fun _ h => List.mem_cons_of_mem _ (List.mem_append_left _ (List.mem_append_right _ (h)))
set_option maxHeartbeats 4000000 in
set_option maxRecDepth 100000 in
theorem c_X6_rain (l : Launch) (g : gG) (v0 u0 u1 u2 u3 k0 k1 k2 k3 h0 h1 h2 h3 s0 s1 s2 s3 c0 c1 c2 p0 r0 t0 t1 t2 t3 z0 f0 : Nat) (ea : Nat → Nat) (R : Rf) (N : Rf) (B : Rf) (S : Sv) (C : Ca) (P : Nat → Int32) (Q : Tr) (K : Tk) (X : F4) (fd : Nat → Int32) (tl : Int32) (ik : Int32) (a1 : Int32) (a2 : Int32) (a3 : Int32) {r : Int32} {R' : Rf} {fd' : Nat → Int32} (hf : fX6_rain R fd a1 a2 a3 = some (r, R', fd')) : Ct l yX6_rain wsX6_rain (rmm 6 137) g (wV g v0 u0 u1 u2 u3 k0 k1 k2 k3 h0 h1 h2 h3 s0 s1 s2 s3 c0 c1 c2 p0 r0 t0 t1 t2 t3 z0 f0 ea R N B S C P Q K X fd tl ik) (wV g v0 u0 u1 u2 u3 k0 k1 k2 k3 h0 h1 h2 h3 s0 s1 s2 s3 c0 c1 c2 p0 r0 t0 t1 t2 t3 z0 f0 ea (R') N B S C P Q K X (fd') tl ik) [.ref v0, .int a1, .int a2, .int a3] (some (.int r)) := by
  refine Ct.mk (by decide) rfl (Nat.le_of_ble_eq_true rfl) ?_
  intro p e s m args below meth c A ls hx hb hr hml hts hown hlocks hA hE hP hD hS hl hAe
  obtain ⟨Qx, hQ⟩ : ∃ Qx : State → Prop, Qx = MQ below (QcG g (wV g v0 u0 u1 u2 u3 k0 k1 k2 k3 h0 h1 h2 h3 s0 s1 s2 s3 c0 c1 c2 p0 r0 t0 t1 t2 t3 z0 f0 ea R N B S C P Q K X fd tl ik) (wV g v0 u0 u1 u2 u3 k0 k1 k2 k3 h0 h1 h2 h3 s0 s1 s2 s3 c0 c1 c2 p0 r0 t0 t1 t2 t3 z0 f0 ea (R') N B S C P Q K X (fd') tl ik) (some (.int r)) s.heap.size) args s 0 0 A := ⟨_, rfl⟩
  rw [← hQ]
  have hown : s.vm.findClass RX6 = some m.cls := hown
  have hl : lv_has ls 4 [(0, .ref v0), (1, .int a1), (2, .int a2), (3, .int a3)] := hl
  have w1 := hts (.constant RX6 73 (-1000001)) (List.mem_of_getElem? (i := 1) rfl)
  have w2 := hts (.fieldLink RX6 10 "RainVault" "roof" "LRainVault$Roof;") (List.mem_of_getElem? (i := 3) rfl)
  have w3 := hts (.constant RX6 143 (-1000005)) (List.mem_of_getElem? (i := 2) rfl)
  unfold fX6_rain at hf
  refine lv_iload_n hx hb dX6_rain_0 rfl (lv_at hl 1 rfl) ?_
  refine lv_iload_n hx hb dX6_rain_1 rfl (lv_at hl 2 rfl) ?_
  obtain ⟨x101, hg, hf⟩ := o1_s hf
  refine Ct.callS (ws' := wV g v0 u0 u1 u2 u3 k0 k1 k2 k3 h0 h1 h2 h3 s0 s1 s2 s3 c0 c1 c2 p0 r0 t0 t1 t2 t3 z0 f0 ea R N B S C P Q K X fd tl ik) (As := [.int a1, .int a2]) (rest := []) (st1 := [.int x101]) (c_X6_isRain l g a1 a2 hg) (va_cwS 2 hts gX6_rain_X6_isRain rfl rfl rfl q_X6_isRain.2 ⟨Nat.le_of_ble_eq_true rfl, Nat.le_of_ble_eq_true rfl⟩) ⟨hx, hb, hml, hown, hts⟩ hE hP hD hS hA [] rfl rfl rfl rfl rfl hl.1 rfl rfl (Nat.le_of_ble_eq_true rfl) dX6_rain_2 (fun H locs hP hD hS => ?_)
  refine lv_if_eq (tgt := 18) hx hb dX6_rain_5 (by decide) (fun hc => ?_) (fun hc => ?_)
  · have hf := if_t hf hc
    refine lv_aload_n hx hb dX6_rain_18 rfl (lv_at hl 0 rfl) ?_
    refine lv_ldc hx hb hown w1 dX6_rain_19 ?_
    obtain ⟨x102, fd103, hg, hf⟩ := o2_s hf
    refine Ct.callV0 (ws' := wV g v0 u0 u1 u2 u3 k0 k1 k2 k3 h0 h1 h2 h3 s0 s1 s2 s3 c0 c1 c2 p0 r0 t0 t1 t2 t3 z0 f0 ea R N B S C P Q K X fd103 tl ik) (As := [.int (-1000001 : Int32)]) (rest := []) (st1 := [.int x102]) (c_X6_finding l g v0 u0 u1 u2 u3 k0 k1 k2 k3 h0 h1 h2 h3 s0 s1 s2 s3 c0 c1 c2 p0 r0 t0 t1 t2 t3 z0 f0 ea R N B S C P Q K X fd tl ik (-1000001 : Int32) hg) (cwV 1 hts gX6_rain_X6_finding rfl rfl rfl q_X6_finding ⟨Nat.le_of_ble_eq_true rfl, Nat.le_of_ble_eq_true rfl⟩) ⟨hx, hb, hml, hown, hts⟩ hE hP hD hS hA 6 0 rfl rfl rfl rfl hl.1 rfl rfl (Nat.le_of_ble_eq_true rfl) dX6_rain_21 (fun H locs hP hD hS => ?_)
    obtain ⟨rfl, rfl, rfl⟩ := some_p3 hf
    rw [hQ]; exact Ct.iret hx hb hr hlocks hAe hP hD hS dX6_rain_24
  · have hf := if_f hf hc
    refine lv_iload_n hx hb dX6_rain_8 rfl (lv_at hl 3 rfl) ?_
    refine lv_iconst (v := (1 : Int32)) hx hb dX6_rain_9 (by decide) ?_
    refine lv_bipush (v := (100 : Int32)) hx hb dX6_rain_10 (by decide) ?_
    obtain ⟨x104, hg, hf⟩ := o1_s hf
    refine Ct.callS (ws' := wV g v0 u0 u1 u2 u3 k0 k1 k2 k3 h0 h1 h2 h3 s0 s1 s2 s3 c0 c1 c2 p0 r0 t0 t1 t2 t3 z0 f0 ea R N B S C P Q K X fd tl ik) (As := [.int a3, .int (1 : Int32), .int (100 : Int32)]) (rest := []) (st1 := [.int x104]) (c_X6_isWithin l g a3 (1 : Int32) (100 : Int32) hg) (va_cwS 3 hts gX6_rain_X6_isWithin rfl rfl rfl q_X6_isWithin.2 ⟨Nat.le_of_ble_eq_true rfl, Nat.le_of_ble_eq_true rfl⟩) ⟨hx, hb, hml, hown, hts⟩ hE hP hD hS hA [] rfl rfl rfl rfl rfl hl.1 rfl rfl (Nat.le_of_ble_eq_true rfl) dX6_rain_12 (fun H locs hP hD hS => ?_)
    refine lv_if_ne (tgt := 25) hx hb dX6_rain_15 (by decide) (fun hc => ?_) (fun hc => ?_)
    · have hf := if_f hf hc
      refine lv_aload_n hx hb dX6_rain_25 rfl (lv_at hl 0 rfl) ?_
      refine lv_iload_n hx hb dX6_rain_26 rfl (lv_at hl 3 rfl) ?_
      obtain ⟨x105, hg, hf⟩ := o1_s hf
      refine Ct.callV0 (ws' := wV g v0 u0 u1 u2 u3 k0 k1 k2 k3 h0 h1 h2 h3 s0 s1 s2 s3 c0 c1 c2 p0 r0 t0 t1 t2 t3 z0 f0 ea R N B S C P Q K X fd tl ik) (As := [.int a3]) (rest := []) (st1 := [.int x105]) (c_X6_isTooLate l g v0 u0 u1 u2 u3 k0 k1 k2 k3 h0 h1 h2 h3 s0 s1 s2 s3 c0 c1 c2 p0 r0 t0 t1 t2 t3 z0 f0 ea R N B S C P Q K X fd tl ik a3 hg) (cwV 1 hts gX6_rain_X6_isTooLate rfl rfl rfl q_X6_isTooLate ⟨Nat.le_of_ble_eq_true rfl, Nat.le_of_ble_eq_true rfl⟩) ⟨hx, hb, hml, hown, hts⟩ hE hP hD hS hA 6 0 rfl rfl rfl rfl hl.1 rfl rfl (Nat.le_of_ble_eq_true rfl) dX6_rain_27 (fun H locs hP hD hS => ?_)
      refine lv_if_eq (tgt := 40) hx hb dX6_rain_30 (by decide) (fun hc => ?_) (fun hc => ?_)
      · have hf := if_t hf hc
        refine lv_aload_n hx hb dX6_rain_40 rfl (lv_at hl 0 rfl) ?_
        refine va_get (D := g.1) (ci := 6) (v := .ref u0) (C := RX6) (T := TX6) (N := 11) hx hb hts i_X6_rain_X6 hown hE.1 hP 0 rfl rfl 0 (by decide) w2 (fun _ h9 => h9) rfl dX6_rain_41 ?_
        refine lv_iload_n hx hb dX6_rain_44 rfl (lv_at hl 1 rfl) ?_
        refine lv_iload_n hx hb dX6_rain_45 rfl (lv_at hl 2 rfl) ?_
        refine lv_iload_n hx hb dX6_rain_46 rfl (lv_at hl 3 rfl) ?_
        obtain ⟨x106, R107, hg, hf⟩ := o2_s hf
        refine Ct.callV (ws' := wV g v0 u0 u1 u2 u3 k0 k1 k2 k3 h0 h1 h2 h3 s0 s1 s2 s3 c0 c1 c2 p0 r0 t0 t1 t2 t3 z0 f0 ea R107 N B S C P Q K X fd tl ik) (As := [.int a1, .int a2, .int a3]) (rest := []) (st1 := [.int x106]) (c_X1_passHours l g u0 u1 u2 u3 R a1 a2 a3 hg) (cwV 3 hts gX6_rain_X1_passHours rfl rfl rfl q_X1_passHours ⟨Nat.le_of_ble_eq_true rfl, Nat.le_of_ble_eq_true rfl⟩) ⟨hx, hb, hml, hown, hts⟩ hE hP hD hS hA [1, 2, 3, 4] rfl rfl rfl rfl 1 1 rfl rfl rfl rfl hl.1 rfl rfl (Nat.le_of_ble_eq_true rfl) dX6_rain_47 (fun H locs hP hD hS => ?_)
        obtain ⟨rfl, rfl, rfl⟩ := some_p3 hf
        rw [hQ]; exact Ct.iret hx hb hr hlocks hAe hP hD hS dX6_rain_50
      · have hf := if_f hf hc
        refine lv_aload_n hx hb dX6_rain_33 rfl (lv_at hl 0 rfl) ?_
        refine lv_ldc hx hb hown w3 dX6_rain_34 ?_
        obtain ⟨x108, fd109, hg, hf⟩ := o2_s hf
        refine Ct.callV0 (ws' := wV g v0 u0 u1 u2 u3 k0 k1 k2 k3 h0 h1 h2 h3 s0 s1 s2 s3 c0 c1 c2 p0 r0 t0 t1 t2 t3 z0 f0 ea R N B S C P Q K X fd109 tl ik) (As := [.int (-1000005 : Int32)]) (rest := []) (st1 := [.int x108]) (c_X6_finding l g v0 u0 u1 u2 u3 k0 k1 k2 k3 h0 h1 h2 h3 s0 s1 s2 s3 c0 c1 c2 p0 r0 t0 t1 t2 t3 z0 f0 ea R N B S C P Q K X fd tl ik (-1000005 : Int32) hg) (cwV 1 hts gX6_rain_X6_finding rfl rfl rfl q_X6_finding ⟨Nat.le_of_ble_eq_true rfl, Nat.le_of_ble_eq_true rfl⟩) ⟨hx, hb, hml, hown, hts⟩ hE hP hD hS hA 6 0 rfl rfl rfl rfl hl.1 rfl rfl (Nat.le_of_ble_eq_true rfl) dX6_rain_36 (fun H locs hP hD hS => ?_)
        obtain ⟨rfl, rfl, rfl⟩ := some_p3 hf
        rw [hQ]; exact Ct.iret hx hb hr hlocks hAe hP hD hS dX6_rain_39
    · have hf := if_t hf hc
      refine lv_aload_n hx hb dX6_rain_18 rfl (lv_at hl 0 rfl) ?_
      refine lv_ldc hx hb hown w1 dX6_rain_19 ?_
      obtain ⟨x110, fd111, hg, hf⟩ := o2_s hf
      refine Ct.callV0 (ws' := wV g v0 u0 u1 u2 u3 k0 k1 k2 k3 h0 h1 h2 h3 s0 s1 s2 s3 c0 c1 c2 p0 r0 t0 t1 t2 t3 z0 f0 ea R N B S C P Q K X fd111 tl ik) (As := [.int (-1000001 : Int32)]) (rest := []) (st1 := [.int x110]) (c_X6_finding l g v0 u0 u1 u2 u3 k0 k1 k2 k3 h0 h1 h2 h3 s0 s1 s2 s3 c0 c1 c2 p0 r0 t0 t1 t2 t3 z0 f0 ea R N B S C P Q K X fd tl ik (-1000001 : Int32) hg) (cwV 1 hts gX6_rain_X6_finding rfl rfl rfl q_X6_finding ⟨Nat.le_of_ble_eq_true rfl, Nat.le_of_ble_eq_true rfl⟩) ⟨hx, hb, hml, hown, hts⟩ hE hP hD hS hA 6 0 rfl rfl rfl rfl hl.1 rfl rfl (Nat.le_of_ble_eq_true rfl) dX6_rain_21 (fun H locs hP hD hS => ?_)
      obtain ⟨rfl, rfl, rfl⟩ := some_p3 hf
      rw [hQ]; exact Ct.iret hx hb hr hlocks hAe hP hD hS dX6_rain_24
def fX6_weather_L36 (x1 : Int32) (kx : Rf → Int32 → Option (Int32 × Rf × (Nat → Int32))) : Nat → Rf → Int32 → Int32 → Option (Int32 × Rf × (Nat → Int32))
  | 0, _, _, _ => none
  | k + 1, R, x2, x3 => if x1 ≤ x3 then (kx R x2) else (o1 (fX1_passDrawnHour R) (fun R105 => o1 (fX1_isOpen R105) (fun x106 => if x106 = 0 then (fX6_weather_L36 x1 kx k R105 x2 (x3 + (1 : Int32))) else (fX6_weather_L36 x1 kx k R105 (x2 + (1 : Int32)) (x3 + (1 : Int32))))))
def fX6_weather (R : Rf) (fd : Nat → Int32) (a1 : Int32) : Option (Int32 × Rf × (Nat → Int32)) := o1 (fX6_isWithin a1 (1 : Int32) (100 : Int32)) (fun x101 => if x101 = 0 then (o2 (fX6_finding fd (-1000001 : Int32)) (fun x111 fd112 => some (x111, R, fd112))) else (o1 (fX6_isTooLate R a1) (fun x102 => if x102 = 0 then (fX6_weather_L36 a1 (fun R107 x108 => some (x108, R107, fd)) fu R (0 : Int32) (0 : Int32)) else (o2 (fX6_finding fd (-1000005 : Int32)) (fun x109 fd110 => some (x109, R, fd110))))))
theorem q_X6_weather : yX6_weather.cls = RX6 ∧ yX6_weather.cls ≠ "java/lang/invoke/MethodHandle" ∧ yX6_weather.cls ≠ "java/lang/invoke/VarHandle" ∧ (parseMethodDescriptor yX6_weather.desc).map (fun d => d.parameters.length) = some 1 := by decide +kernel
theorem i_X6_weather_X6 : ∀ w ∈ u_ws RX6 TX6 11, w ∈ wsX6_weather := fun _ h => List.mem_cons_of_mem _ (List.mem_append_left _ (List.mem_append_right _ (h)))
set_option maxHeartbeats 4000000 in
set_option maxRecDepth 100000 in
theorem c_X6_weather (l : Launch) (g : gG) (v0 u0 u1 u2 u3 k0 k1 k2 k3 h0 h1 h2 h3 s0 s1 s2 s3 c0 c1 c2 p0 r0 t0 t1 t2 t3 z0 f0 : Nat) (ea : Nat → Nat) (R : Rf) (N : Rf) (B : Rf) (S : Sv) (C : Ca) (P : Nat → Int32) (Q : Tr) (K : Tk) (X : F4) (fd : Nat → Int32) (tl : Int32) (ik : Int32) (a1 : Int32) {r : Int32} {R' : Rf} {fd' : Nat → Int32} (hf : fX6_weather R fd a1 = some (r, R', fd')) : Ct l yX6_weather wsX6_weather (rmm 5 115) g (wV g v0 u0 u1 u2 u3 k0 k1 k2 k3 h0 h1 h2 h3 s0 s1 s2 s3 c0 c1 c2 p0 r0 t0 t1 t2 t3 z0 f0 ea R N B S C P Q K X fd tl ik) (wV g v0 u0 u1 u2 u3 k0 k1 k2 k3 h0 h1 h2 h3 s0 s1 s2 s3 c0 c1 c2 p0 r0 t0 t1 t2 t3 z0 f0 ea (R') N B S C P Q K X (fd') tl ik) [.ref v0, .int a1] (some (.int r)) := by
  refine Ct.mk (by decide) rfl (Nat.le_of_ble_eq_true rfl) ?_
  intro p e s m args below meth c A ls hx hb hr hml hts hown hlocks hA hE hP hD hS hl hAe
  obtain ⟨Qx, hQ⟩ : ∃ Qx : State → Prop, Qx = MQ below (QcG g (wV g v0 u0 u1 u2 u3 k0 k1 k2 k3 h0 h1 h2 h3 s0 s1 s2 s3 c0 c1 c2 p0 r0 t0 t1 t2 t3 z0 f0 ea R N B S C P Q K X fd tl ik) (wV g v0 u0 u1 u2 u3 k0 k1 k2 k3 h0 h1 h2 h3 s0 s1 s2 s3 c0 c1 c2 p0 r0 t0 t1 t2 t3 z0 f0 ea (R') N B S C P Q K X (fd') tl ik) (some (.int r)) s.heap.size) args s 0 0 A := ⟨_, rfl⟩
  rw [← hQ]
  have hown : s.vm.findClass RX6 = some m.cls := hown
  have hl : lv_has ls 4 [(0, .ref v0), (1, .int a1)] := hl
  have w1 := hts (.fieldLink RX6 10 "RainVault" "roof" "LRainVault$Roof;") (List.mem_of_getElem? (i := 3) rfl)
  have w2 := hts (.constant RX6 143 (-1000005)) (List.mem_of_getElem? (i := 2) rfl)
  have w3 := hts (.constant RX6 73 (-1000001)) (List.mem_of_getElem? (i := 1) rfl)
  have L36 : ∀ (fd : Nat → Int32) (x1 : Int32) (kx : Rf → Int32 → Option (Int32 × Rf × (Nat → Int32))) (k : Nat) (R : Rf) (x2 : Int32) (x3 : Int32) (H : Heap) (locs : List Loc) (ls : Array Slot), fX6_weather_L36 x1 kx k R x2 x3 = some (r, R', fd') → va_P g.1 vwK (wV g v0 u0 u1 u2 u3 k0 k1 k2 k3 h0 h1 h2 h3 s0 s1 s2 s3 c0 c1 c2 p0 r0 t0 t1 t2 t3 z0 f0 ea R N B S C P Q K X fd tl ik) H → va_D A (wV g v0 u0 u1 u2 u3 k0 k1 k2 k3 h0 h1 h2 h3 s0 s1 s2 s3 c0 c1 c2 p0 r0 t0 t1 t2 t3 z0 f0 ea R N B S C P Q K X fd tl ik) → va_S A s.heap H locs → lv_has ls 4 [(0, .ref v0), (1, .int x1), (2, .int x2), (3, .int x3)] → (∀ (R : Rf) (x2 : Int32) (H : Heap) (locs : List Loc) (ls : Array Slot), kx R x2 = some (r, R', fd') → va_P g.1 vwK (wV g v0 u0 u1 u2 u3 k0 k1 k2 k3 h0 h1 h2 h3 s0 s1 s2 s3 c0 c1 c2 p0 r0 t0 t1 t2 t3 z0 f0 ea R N B S C P Q K X fd tl ik) H → va_D A (wV g v0 u0 u1 u2 u3 k0 k1 k2 k3 h0 h1 h2 h3 s0 s1 s2 s3 c0 c1 c2 p0 r0 t0 t1 t2 t3 z0 f0 ea R N B S C P Q K X fd tl ik) → va_S A s.heap H locs → lv_has ls 4 [(2, .int x2)] → W p l e (rmm 5 115) s m args below meth c H locs 0 0 Qx (F0 m 67 ls [])) → W p l e (rmm 5 115) s m args below meth c H locs 0 0 Qx (F0 m 36 ls []) := by
    intro fd x1 kx k
    induction k with
    | zero => intro R x2 x3 H locs ls hf; exact nomatch (show (none : Option (Int32 × Rf × (Nat → Int32))) = some _ from hf)
    | succ k ih =>
      intro R x2 x3 H locs ls hf hP hD hS hl hk
      rw [fX6_weather_L36] at hf
      refine lv_iload_n hx hb dX6_weather_36 rfl (lv_at hl 3 rfl) ?_
      refine lv_iload_n hx hb dX6_weather_37 rfl (lv_at hl 1 rfl) ?_
      refine lv_icmp_ge (tgt := 67) hx hb dX6_weather_38 (by decide) (fun hc => ?_) (fun hc => ?_)
      · have hf := if_t hf hc
        exact hk _ _ _ _ _  hf hP hD hS (lv_sub hl [2] rfl)
      · have hf := if_f hf hc
        refine lv_aload_n hx hb dX6_weather_41 rfl (lv_at hl 0 rfl) ?_
        refine va_get (D := g.1) (ci := 6) (v := .ref u0) (C := RX6) (T := TX6) (N := 11) hx hb hts i_X6_weather_X6 hown hE.1 hP 0 rfl rfl 0 (by decide) w1 (fun _ h9 => h9) rfl dX6_weather_42 ?_
        obtain ⟨R105, hg, hf⟩ := o1_s hf
        refine Ct.callV (ws' := wV g v0 u0 u1 u2 u3 k0 k1 k2 k3 h0 h1 h2 h3 s0 s1 s2 s3 c0 c1 c2 p0 r0 t0 t1 t2 t3 z0 f0 ea R105 N B S C P Q K X fd tl ik) (As := []) (rest := []) (st1 := []) (c_X1_passDrawnHour l g u0 u1 u2 u3 R hg) (cwV 0 hts gX6_weather_X1_passDrawnHour rfl rfl rfl q_X1_passDrawnHour ⟨Nat.le_of_ble_eq_true rfl, Nat.le_of_ble_eq_true rfl⟩) ⟨hx, hb, hml, hown, hts⟩ hE hP hD hS hA [1, 2, 3, 4] rfl rfl rfl rfl 1 1 rfl rfl rfl rfl hl.1 rfl rfl (Nat.le_of_ble_eq_true rfl) dX6_weather_45 (fun H locs hP hD hS => ?_)
        refine lv_aload_n hx hb dX6_weather_48 rfl (lv_at hl 0 rfl) ?_
        refine va_get (D := g.1) (ci := 6) (v := .ref u0) (C := RX6) (T := TX6) (N := 11) hx hb hts i_X6_weather_X6 hown hE.1 hP 0 rfl rfl 0 (by decide) w1 (fun _ h9 => h9) rfl dX6_weather_49 ?_
        obtain ⟨x106, hg, hf⟩ := o1_s hf
        refine Ct.callV (ws' := wV g v0 u0 u1 u2 u3 k0 k1 k2 k3 h0 h1 h2 h3 s0 s1 s2 s3 c0 c1 c2 p0 r0 t0 t1 t2 t3 z0 f0 ea R105 N B S C P Q K X fd tl ik) (As := []) (rest := []) (st1 := [.int x106]) (c_X1_isOpen l g u0 u1 u2 u3 R105 hg) (cwV 0 hts gX6_weather_X1_isOpen rfl rfl rfl q_X1_isOpen ⟨Nat.le_of_ble_eq_true rfl, Nat.le_of_ble_eq_true rfl⟩) ⟨hx, hb, hml, hown, hts⟩ hE hP hD hS hA [1, 2, 3, 4] rfl rfl rfl rfl 1 1 rfl rfl rfl rfl hl.1 rfl rfl (Nat.le_of_ble_eq_true rfl) dX6_weather_52 (fun H locs hP hD hS => ?_)
        refine lv_if_eq (tgt := 61) hx hb dX6_weather_55 (by decide) (fun hc => ?_) (fun hc => ?_)
        · have hf := if_t hf hc
          refine lv_iinc (v := (x3 + (1 : Int32))) (lv' := [(3, .int (x3 + (1 : Int32))), (0, .ref v0), (1, .int x1), (2, .int x2)]) hx hb dX6_weather_61 hl (k := 3) rfl rfl (by decide) rfl (fun ls hl => ?_)
          refine lv_goto (tgt := 36) hx hb dX6_weather_64 (by decide) ?_
          exact ih _ _ _ _ _ _  hf hP hD hS (lv_sub hl [1, 2, 3, 0] rfl) hk
        · have hf := if_f hf hc
          refine lv_iinc (v := (x2 + (1 : Int32))) (lv' := [(2, .int (x2 + (1 : Int32))), (0, .ref v0), (1, .int x1), (3, .int x3)]) hx hb dX6_weather_58 hl (k := 2) rfl rfl (by decide) rfl (fun ls hl => ?_)
          refine lv_iinc (v := (x3 + (1 : Int32))) (lv' := [(3, .int (x3 + (1 : Int32))), (2, .int (x2 + (1 : Int32))), (0, .ref v0), (1, .int x1)]) hx hb dX6_weather_61 hl (k := 3) rfl rfl (by decide) rfl (fun ls hl => ?_)
          refine lv_goto (tgt := 36) hx hb dX6_weather_64 (by decide) ?_
          exact ih _ _ _ _ _ _  hf hP hD hS (lv_sub hl [2, 3, 1, 0] rfl) hk
  unfold fX6_weather at hf
  refine lv_iload_n hx hb dX6_weather_0 rfl (lv_at hl 1 rfl) ?_
  refine lv_iconst (v := (1 : Int32)) hx hb dX6_weather_1 (by decide) ?_
  refine lv_bipush (v := (100 : Int32)) hx hb dX6_weather_2 (by decide) ?_
  obtain ⟨x101, hg, hf⟩ := o1_s hf
  refine Ct.callS (ws' := wV g v0 u0 u1 u2 u3 k0 k1 k2 k3 h0 h1 h2 h3 s0 s1 s2 s3 c0 c1 c2 p0 r0 t0 t1 t2 t3 z0 f0 ea R N B S C P Q K X fd tl ik) (As := [.int a1, .int (1 : Int32), .int (100 : Int32)]) (rest := []) (st1 := [.int x101]) (c_X6_isWithin l g a1 (1 : Int32) (100 : Int32) hg) (va_cwS 3 hts gX6_weather_X6_isWithin rfl rfl rfl q_X6_isWithin.2 ⟨Nat.le_of_ble_eq_true rfl, Nat.le_of_ble_eq_true rfl⟩) ⟨hx, hb, hml, hown, hts⟩ hE hP hD hS hA [] rfl rfl rfl rfl rfl hl.1 rfl rfl (Nat.le_of_ble_eq_true rfl) dX6_weather_4 (fun H locs hP hD hS => ?_)
  refine lv_if_ne (tgt := 17) hx hb dX6_weather_7 (by decide) (fun hc => ?_) (fun hc => ?_)
  · have hf := if_f hf hc
    refine lv_aload_n hx hb dX6_weather_17 rfl (lv_at hl 0 rfl) ?_
    refine lv_iload_n hx hb dX6_weather_18 rfl (lv_at hl 1 rfl) ?_
    obtain ⟨x102, hg, hf⟩ := o1_s hf
    refine Ct.callV0 (ws' := wV g v0 u0 u1 u2 u3 k0 k1 k2 k3 h0 h1 h2 h3 s0 s1 s2 s3 c0 c1 c2 p0 r0 t0 t1 t2 t3 z0 f0 ea R N B S C P Q K X fd tl ik) (As := [.int a1]) (rest := []) (st1 := [.int x102]) (c_X6_isTooLate l g v0 u0 u1 u2 u3 k0 k1 k2 k3 h0 h1 h2 h3 s0 s1 s2 s3 c0 c1 c2 p0 r0 t0 t1 t2 t3 z0 f0 ea R N B S C P Q K X fd tl ik a1 hg) (cwV 1 hts gX6_weather_X6_isTooLate rfl rfl rfl q_X6_isTooLate ⟨Nat.le_of_ble_eq_true rfl, Nat.le_of_ble_eq_true rfl⟩) ⟨hx, hb, hml, hown, hts⟩ hE hP hD hS hA 6 0 rfl rfl rfl rfl hl.1 rfl rfl (Nat.le_of_ble_eq_true rfl) dX6_weather_19 (fun H locs hP hD hS => ?_)
    refine lv_if_eq (tgt := 32) hx hb dX6_weather_22 (by decide) (fun hc => ?_) (fun hc => ?_)
    · have hf := if_t hf hc
      refine lv_iconst (v := (0 : Int32)) hx hb dX6_weather_32 (by decide) ?_
      refine lv_istore_n (lv' := [(2, .int (0 : Int32)), (0, .ref v0), (1, .int a1)]) hx hb dX6_weather_33 rfl hl (by decide) rfl (fun ls hl => ?_)
      refine lv_iconst (v := (0 : Int32)) hx hb dX6_weather_34 (by decide) ?_
      refine lv_istore_n (lv' := [(3, .int (0 : Int32)), (2, .int (0 : Int32)), (0, .ref v0), (1, .int a1)]) hx hb dX6_weather_35 rfl hl (by decide) rfl (fun ls hl => ?_)
      refine L36 _ _ _ _ _ _ _ _ _ _  hf hP hD hS (lv_sub hl [2, 3, 1, 0] rfl) (fun R107 x108 H locs ls hf hP hD hS hl => ?_)
      refine lv_iload_n hx hb dX6_weather_67 rfl (lv_at hl 0 rfl) ?_
      obtain ⟨rfl, rfl, rfl⟩ := some_p3 hf
      rw [hQ]; exact Ct.iret hx hb hr hlocks hAe hP hD hS dX6_weather_68
    · have hf := if_f hf hc
      refine lv_aload_n hx hb dX6_weather_25 rfl (lv_at hl 0 rfl) ?_
      refine lv_ldc hx hb hown w2 dX6_weather_26 ?_
      obtain ⟨x109, fd110, hg, hf⟩ := o2_s hf
      refine Ct.callV0 (ws' := wV g v0 u0 u1 u2 u3 k0 k1 k2 k3 h0 h1 h2 h3 s0 s1 s2 s3 c0 c1 c2 p0 r0 t0 t1 t2 t3 z0 f0 ea R N B S C P Q K X fd110 tl ik) (As := [.int (-1000005 : Int32)]) (rest := []) (st1 := [.int x109]) (c_X6_finding l g v0 u0 u1 u2 u3 k0 k1 k2 k3 h0 h1 h2 h3 s0 s1 s2 s3 c0 c1 c2 p0 r0 t0 t1 t2 t3 z0 f0 ea R N B S C P Q K X fd tl ik (-1000005 : Int32) hg) (cwV 1 hts gX6_weather_X6_finding rfl rfl rfl q_X6_finding ⟨Nat.le_of_ble_eq_true rfl, Nat.le_of_ble_eq_true rfl⟩) ⟨hx, hb, hml, hown, hts⟩ hE hP hD hS hA 6 0 rfl rfl rfl rfl hl.1 rfl rfl (Nat.le_of_ble_eq_true rfl) dX6_weather_28 (fun H locs hP hD hS => ?_)
      obtain ⟨rfl, rfl, rfl⟩ := some_p3 hf
      rw [hQ]; exact Ct.iret hx hb hr hlocks hAe hP hD hS dX6_weather_31
  · have hf := if_t hf hc
    refine lv_aload_n hx hb dX6_weather_10 rfl (lv_at hl 0 rfl) ?_
    refine lv_ldc hx hb hown w3 dX6_weather_11 ?_
    obtain ⟨x111, fd112, hg, hf⟩ := o2_s hf
    refine Ct.callV0 (ws' := wV g v0 u0 u1 u2 u3 k0 k1 k2 k3 h0 h1 h2 h3 s0 s1 s2 s3 c0 c1 c2 p0 r0 t0 t1 t2 t3 z0 f0 ea R N B S C P Q K X fd112 tl ik) (As := [.int (-1000001 : Int32)]) (rest := []) (st1 := [.int x111]) (c_X6_finding l g v0 u0 u1 u2 u3 k0 k1 k2 k3 h0 h1 h2 h3 s0 s1 s2 s3 c0 c1 c2 p0 r0 t0 t1 t2 t3 z0 f0 ea R N B S C P Q K X fd tl ik (-1000001 : Int32) hg) (cwV 1 hts gX6_weather_X6_finding rfl rfl rfl q_X6_finding ⟨Nat.le_of_ble_eq_true rfl, Nat.le_of_ble_eq_true rfl⟩) ⟨hx, hb, hml, hown, hts⟩ hE hP hD hS hA 6 0 rfl rfl rfl rfl hl.1 rfl rfl (Nat.le_of_ble_eq_true rfl) dX6_weather_13 (fun H locs hP hD hS => ?_)
    obtain ⟨rfl, rfl, rfl⟩ := some_p3 hf
    rw [hQ]; exact Ct.iret hx hb hr hlocks hAe hP hD hS dX6_weather_16
def fX6_ahead_J33 (R : Rf) (B : Rf) (fd : Nat → Int32) (x1 : Int32) (x2 : Int32) (x3 : Int32) (x4 : Int32) (y0 : Int32) : Option (Int32 × Rf × (Nat → Int32)) := o1 (fX6_isRain x1 x2) (fun x102 => if x102 = 0 then (o2 (fX6_finding fd (-1000001 : Int32)) (fun x103 fd104 => some (x103, B, fd104))) else (o1 (fX6_isWithin x3 (0 : Int32) (100 : Int32)) (fun x105 => if x105 = 0 then (o2 (fX6_finding fd (-1000001 : Int32)) (fun x106 fd107 => some (x106, B, fd107))) else (if y0 = 0 then (o2 (fX6_finding fd (-1000001 : Int32)) (fun x117 fd118 => some (x117, B, fd118))) else (o1 (fX6_isTooLate R x3) (fun x108 => if x108 = 0 then (o1 (fX1_become B R) (fun R109 => o2 (fX1_passHours R109 x1 x2 x3) (fun x110 R111 => if x4 = (0 : Int32) then (o1 (fX1_isOpen R111) (fun x112 => if x112 = 0 then (some ((0 : Int32), R111, fd)) else (some ((1 : Int32), R111, fd)))) else (if x4 = (1 : Int32) then (some (x110, R111, fd)) else (if x4 = (2 : Int32) then (o1 (fX1_levelsTogether R111) (fun x113 => some (x113, R111, fd))) else (if x4 = (3 : Int32) then (some ((R111.2.2.2.2.2.2.2.1 - R.2.2.2.2.2.2.2.1), R111, fd)) else (o1 (fX1_get R111 (x4 - (4 : Int32)) (2 : Int32)) (fun x114 => some (x114, R111, fd))))))))) else (o2 (fX6_finding fd (-1000005 : Int32)) (fun x115 fd116 => some (x115, B, fd116)))))))))
def fX6_ahead_J28 (R : Rf) (B : Rf) (fd : Nat → Int32) (x1 : Int32) (x2 : Int32) (x3 : Int32) (x4 : Int32) : Option (Int32 × Rf × (Nat → Int32)) := fX6_ahead_J33 R B fd x1 x2 x3 x4 (1 : Int32)
def fX6_ahead (R : Rf) (B : Rf) (fd : Nat → Int32) (a1 : Int32) (a2 : Int32) (a3 : Int32) (a4 : Int32) : Option (Int32 × Rf × (Nat → Int32)) := o1 (fX6_isWithin a4 (0 : Int32) (3 : Int32)) (fun x101 => if x101 = 0 then (o1 (fX6_isWithin a4 (4 : Int32) ((3 : Int32) + R.2.2.2.1)) (fun x119 => if x119 = 0 then (fX6_ahead_J33 R B fd a1 a2 a3 a4 (0 : Int32)) else (fX6_ahead_J28 R B fd a1 a2 a3 a4))) else (fX6_ahead_J28 R B fd a1 a2 a3 a4))
theorem q_X6_ahead : yX6_ahead.cls = RX6 ∧ yX6_ahead.cls ≠ "java/lang/invoke/MethodHandle" ∧ yX6_ahead.cls ≠ "java/lang/invoke/VarHandle" ∧ (parseMethodDescriptor yX6_ahead.desc).map (fun d => d.parameters.length) = some 4 := by decide +kernel
theorem i_X6_ahead_X6 : ∀ w ∈ u_ws RX6 TX6 11, w ∈ wsX6_ahead := fun _ h => List.mem_cons_of_mem _ (List.mem_append_left _ (List.mem_append_right _ (h)))
theorem i_X6_ahead_X1 : ∀ w ∈ u_ws RX1 TX1 9, w ∈ wsX6_ahead := fun _ h => List.mem_cons_of_mem _ (List.mem_append_right _ (h))
set_option maxHeartbeats 4000000 in
set_option maxRecDepth 100000 in
theorem c_X6_ahead (l : Launch) (g : gG) (v0 u0 u1 u2 u3 k0 k1 k2 k3 h0 h1 h2 h3 s0 s1 s2 s3 c0 c1 c2 p0 r0 t0 t1 t2 t3 z0 f0 : Nat) (ea : Nat → Nat) (R : Rf) (N : Rf) (B : Rf) (S : Sv) (C : Ca) (P : Nat → Int32) (Q : Tr) (K : Tk) (X : F4) (fd : Nat → Int32) (tl : Int32) (ik : Int32) (a1 : Int32) (a2 : Int32) (a3 : Int32) (a4 : Int32) {r : Int32} {B' : Rf} {fd' : Nat → Int32} (hf : fX6_ahead R B fd a1 a2 a3 a4 = some (r, B', fd')) : Ct l yX6_ahead wsX6_ahead (rmm 6 137) g (wV g v0 u0 u1 u2 u3 k0 k1 k2 k3 h0 h1 h2 h3 s0 s1 s2 s3 c0 c1 c2 p0 r0 t0 t1 t2 t3 z0 f0 ea R N B S C P Q K X fd tl ik) (wV g v0 u0 u1 u2 u3 k0 k1 k2 k3 h0 h1 h2 h3 s0 s1 s2 s3 c0 c1 c2 p0 r0 t0 t1 t2 t3 z0 f0 ea R N (B') S C P Q K X (fd') tl ik) [.ref v0, .int a1, .int a2, .int a3, .int a4] (some (.int r)) := by
  refine Ct.mk (by decide) rfl (Nat.le_of_ble_eq_true rfl) ?_
  intro p e s m args below meth c A ls hx hb hr hml hts hown hlocks hA hE hP hD hS hl hAe
  obtain ⟨Qx, hQ⟩ : ∃ Qx : State → Prop, Qx = MQ below (QcG g (wV g v0 u0 u1 u2 u3 k0 k1 k2 k3 h0 h1 h2 h3 s0 s1 s2 s3 c0 c1 c2 p0 r0 t0 t1 t2 t3 z0 f0 ea R N B S C P Q K X fd tl ik) (wV g v0 u0 u1 u2 u3 k0 k1 k2 k3 h0 h1 h2 h3 s0 s1 s2 s3 c0 c1 c2 p0 r0 t0 t1 t2 t3 z0 f0 ea R N (B') S C P Q K X (fd') tl ik) (some (.int r)) s.heap.size) args s 0 0 A := ⟨_, rfl⟩
  rw [← hQ]
  have hown : s.vm.findClass RX6 = some m.cls := hown
  have hl : lv_has ls 7 [(0, .ref v0), (1, .int a1), (2, .int a2), (3, .int a3), (4, .int a4)] := hl
  have w1 := hts (.constant RX6 73 (-1000001)) (List.mem_of_getElem? (i := 2) rfl)
  have w2 := hts (.fieldLink RX6 19 "RainVault" "trial" "LRainVault$Roof;") (List.mem_of_getElem? (i := 4) rfl)
  have w3 := hts (.fieldLink RX6 10 "RainVault" "roof" "LRainVault$Roof;") (List.mem_of_getElem? (i := 1) rfl)
  have w4 := hts (.constant RX6 143 (-1000005)) (List.mem_of_getElem? (i := 3) rfl)
  have J33 : ∀ (B : Rf) (fd : Nat → Int32) (x1 : Int32) (x2 : Int32) (x3 : Int32) (x4 : Int32) (y0 : Int32) (H : Heap) (locs : List Loc) (ls : Array Slot), fX6_ahead_J33 R B fd x1 x2 x3 x4 y0 = some (r, B', fd') → va_P g.1 vwK (wV g v0 u0 u1 u2 u3 k0 k1 k2 k3 h0 h1 h2 h3 s0 s1 s2 s3 c0 c1 c2 p0 r0 t0 t1 t2 t3 z0 f0 ea R N B S C P Q K X fd tl ik) H → va_D A (wV g v0 u0 u1 u2 u3 k0 k1 k2 k3 h0 h1 h2 h3 s0 s1 s2 s3 c0 c1 c2 p0 r0 t0 t1 t2 t3 z0 f0 ea R N B S C P Q K X fd tl ik) → va_S A s.heap H locs → lv_has ls 7 [(0, .ref v0), (1, .int x1), (2, .int x2), (3, .int x3), (4, .int x4)] → W p l e (rmm 6 137) s m args below meth c H locs 0 0 Qx (F0 m 33 ls [.int y0]) := by
    intro B fd x1 x2 x3 x4 y0 H locs ls hf hP hD hS hl
    unfold fX6_ahead_J33 at hf
    refine lv_istore (lv' := [(5, .int y0), (0, .ref v0), (1, .int x1), (2, .int x2), (3, .int x3), (4, .int x4)]) hx hb dX6_ahead_33 hl (by decide) rfl (fun ls hl => ?_)
    refine lv_iload_n hx hb dX6_ahead_35 rfl (lv_at hl 2 rfl) ?_
    refine lv_iload_n hx hb dX6_ahead_36 rfl (lv_at hl 3 rfl) ?_
    obtain ⟨x102, hg, hf⟩ := o1_s hf
    refine Ct.callS (ws' := wV g v0 u0 u1 u2 u3 k0 k1 k2 k3 h0 h1 h2 h3 s0 s1 s2 s3 c0 c1 c2 p0 r0 t0 t1 t2 t3 z0 f0 ea R N B S C P Q K X fd tl ik) (As := [.int x1, .int x2]) (rest := []) (st1 := [.int x102]) (c_X6_isRain l g x1 x2 hg) (va_cwS 2 hts gX6_ahead_X6_isRain rfl rfl rfl q_X6_isRain.2 ⟨Nat.le_of_ble_eq_true rfl, Nat.le_of_ble_eq_true rfl⟩) ⟨hx, hb, hml, hown, hts⟩ hE hP hD hS hA [] rfl rfl rfl rfl rfl hl.1 rfl rfl (Nat.le_of_ble_eq_true rfl) dX6_ahead_37 (fun H locs hP hD hS => ?_)
    refine lv_if_eq (tgt := 58) hx hb dX6_ahead_40 (by decide) (fun hc => ?_) (fun hc => ?_)
    · have hf := if_t hf hc
      refine lv_aload_n hx hb dX6_ahead_58 rfl (lv_at hl 1 rfl) ?_
      refine lv_ldc hx hb hown w1 dX6_ahead_59 ?_
      obtain ⟨x103, fd104, hg, hf⟩ := o2_s hf
      refine Ct.callV0 (ws' := wV g v0 u0 u1 u2 u3 k0 k1 k2 k3 h0 h1 h2 h3 s0 s1 s2 s3 c0 c1 c2 p0 r0 t0 t1 t2 t3 z0 f0 ea R N B S C P Q K X fd104 tl ik) (As := [.int (-1000001 : Int32)]) (rest := []) (st1 := [.int x103]) (c_X6_finding l g v0 u0 u1 u2 u3 k0 k1 k2 k3 h0 h1 h2 h3 s0 s1 s2 s3 c0 c1 c2 p0 r0 t0 t1 t2 t3 z0 f0 ea R N B S C P Q K X fd tl ik (-1000001 : Int32) hg) (cwV 1 hts gX6_ahead_X6_finding rfl rfl rfl q_X6_finding ⟨Nat.le_of_ble_eq_true rfl, Nat.le_of_ble_eq_true rfl⟩) ⟨hx, hb, hml, hown, hts⟩ hE hP hD hS hA 6 0 rfl rfl rfl rfl hl.1 rfl rfl (Nat.le_of_ble_eq_true rfl) dX6_ahead_61 (fun H locs hP hD hS => ?_)
      obtain ⟨rfl, rfl, rfl⟩ := some_p3 hf
      rw [hQ]; exact Ct.iret hx hb hr hlocks hAe hP hD hS dX6_ahead_64
    · have hf := if_f hf hc
      refine lv_iload_n hx hb dX6_ahead_43 rfl (lv_at hl 4 rfl) ?_
      refine lv_iconst (v := (0 : Int32)) hx hb dX6_ahead_44 (by decide) ?_
      refine lv_bipush (v := (100 : Int32)) hx hb dX6_ahead_45 (by decide) ?_
      obtain ⟨x105, hg, hf⟩ := o1_s hf
      refine Ct.callS (ws' := wV g v0 u0 u1 u2 u3 k0 k1 k2 k3 h0 h1 h2 h3 s0 s1 s2 s3 c0 c1 c2 p0 r0 t0 t1 t2 t3 z0 f0 ea R N B S C P Q K X fd tl ik) (As := [.int x3, .int (0 : Int32), .int (100 : Int32)]) (rest := []) (st1 := [.int x105]) (c_X6_isWithin l g x3 (0 : Int32) (100 : Int32) hg) (va_cwS 3 hts gX6_ahead_X6_isWithin rfl rfl rfl q_X6_isWithin.2 ⟨Nat.le_of_ble_eq_true rfl, Nat.le_of_ble_eq_true rfl⟩) ⟨hx, hb, hml, hown, hts⟩ hE hP hD hS hA [] rfl rfl rfl rfl rfl hl.1 rfl rfl (Nat.le_of_ble_eq_true rfl) dX6_ahead_47 (fun H locs hP hD hS => ?_)
      refine lv_if_eq (tgt := 58) hx hb dX6_ahead_50 (by decide) (fun hc => ?_) (fun hc => ?_)
      · have hf := if_t hf hc
        refine lv_aload_n hx hb dX6_ahead_58 rfl (lv_at hl 1 rfl) ?_
        refine lv_ldc hx hb hown w1 dX6_ahead_59 ?_
        obtain ⟨x106, fd107, hg, hf⟩ := o2_s hf
        refine Ct.callV0 (ws' := wV g v0 u0 u1 u2 u3 k0 k1 k2 k3 h0 h1 h2 h3 s0 s1 s2 s3 c0 c1 c2 p0 r0 t0 t1 t2 t3 z0 f0 ea R N B S C P Q K X fd107 tl ik) (As := [.int (-1000001 : Int32)]) (rest := []) (st1 := [.int x106]) (c_X6_finding l g v0 u0 u1 u2 u3 k0 k1 k2 k3 h0 h1 h2 h3 s0 s1 s2 s3 c0 c1 c2 p0 r0 t0 t1 t2 t3 z0 f0 ea R N B S C P Q K X fd tl ik (-1000001 : Int32) hg) (cwV 1 hts gX6_ahead_X6_finding rfl rfl rfl q_X6_finding ⟨Nat.le_of_ble_eq_true rfl, Nat.le_of_ble_eq_true rfl⟩) ⟨hx, hb, hml, hown, hts⟩ hE hP hD hS hA 6 0 rfl rfl rfl rfl hl.1 rfl rfl (Nat.le_of_ble_eq_true rfl) dX6_ahead_61 (fun H locs hP hD hS => ?_)
        obtain ⟨rfl, rfl, rfl⟩ := some_p3 hf
        rw [hQ]; exact Ct.iret hx hb hr hlocks hAe hP hD hS dX6_ahead_64
      · have hf := if_f hf hc
        refine lv_iload hx hb dX6_ahead_53 (lv_at hl 0 rfl) ?_
        refine lv_if_ne (tgt := 65) hx hb dX6_ahead_55 (by decide) (fun hc => ?_) (fun hc => ?_)
        · have hf := if_f hf hc
          refine lv_aload_n hx hb dX6_ahead_65 rfl (lv_at hl 1 rfl) ?_
          refine lv_iload_n hx hb dX6_ahead_66 rfl (lv_at hl 4 rfl) ?_
          obtain ⟨x108, hg, hf⟩ := o1_s hf
          refine Ct.callV0 (ws' := wV g v0 u0 u1 u2 u3 k0 k1 k2 k3 h0 h1 h2 h3 s0 s1 s2 s3 c0 c1 c2 p0 r0 t0 t1 t2 t3 z0 f0 ea R N B S C P Q K X fd tl ik) (As := [.int x3]) (rest := []) (st1 := [.int x108]) (c_X6_isTooLate l g v0 u0 u1 u2 u3 k0 k1 k2 k3 h0 h1 h2 h3 s0 s1 s2 s3 c0 c1 c2 p0 r0 t0 t1 t2 t3 z0 f0 ea R N B S C P Q K X fd tl ik x3 hg) (cwV 1 hts gX6_ahead_X6_isTooLate rfl rfl rfl q_X6_isTooLate ⟨Nat.le_of_ble_eq_true rfl, Nat.le_of_ble_eq_true rfl⟩) ⟨hx, hb, hml, hown, hts⟩ hE hP hD hS hA 6 0 rfl rfl rfl rfl hl.1 rfl rfl (Nat.le_of_ble_eq_true rfl) dX6_ahead_67 (fun H locs hP hD hS => ?_)
          refine lv_if_eq (tgt := 80) hx hb dX6_ahead_70 (by decide) (fun hc => ?_) (fun hc => ?_)
          · have hf := if_t hf hc
            refine lv_aload_n hx hb dX6_ahead_80 rfl (lv_at hl 1 rfl) ?_
            refine va_get (D := g.1) (ci := 6) (v := .ref h0) (C := RX6) (T := TX6) (N := 11) hx hb hts i_X6_ahead_X6 hown hE.1 hP 0 rfl rfl 2 (by decide) w2 (fun _ h9 => h9) rfl dX6_ahead_81 ?_
            refine lv_aload_n hx hb dX6_ahead_84 rfl (lv_at hl 1 rfl) ?_
            refine va_get (D := g.1) (ci := 6) (v := .ref u0) (C := RX6) (T := TX6) (N := 11) hx hb hts i_X6_ahead_X6 hown hE.1 hP 0 rfl rfl 0 (by decide) w3 (fun _ h9 => h9) rfl dX6_ahead_85 ?_
            obtain ⟨R109, hg, hf⟩ := o1_s hf
            refine Ct.callV (ws' := wV g v0 u0 u1 u2 u3 k0 k1 k2 k3 h0 h1 h2 h3 s0 s1 s2 s3 c0 c1 c2 p0 r0 t0 t1 t2 t3 z0 f0 ea R N R109 S C P Q K X fd tl ik) (As := [.ref u0]) (rest := []) (st1 := []) (c_X1_become l g h0 h1 h2 h3 u0 u1 u2 u3 B R hg) (cwV 1 hts gX6_ahead_X1_become rfl rfl rfl q_X1_become ⟨Nat.le_of_ble_eq_true rfl, Nat.le_of_ble_eq_true rfl⟩) ⟨hx, hb, hml, hown, hts⟩ hE hP hD hS hA [9, 10, 11, 12, 1, 2, 3, 4] rfl rfl rfl rfl 1 9 rfl rfl rfl rfl hl.1 rfl rfl (Nat.le_of_ble_eq_true rfl) dX6_ahead_88 (fun H locs hP hD hS => ?_)
            refine lv_aload_n hx hb dX6_ahead_91 rfl (lv_at hl 1 rfl) ?_
            refine va_get (D := g.1) (ci := 6) (v := .ref h0) (C := RX6) (T := TX6) (N := 11) hx hb hts i_X6_ahead_X6 hown hE.1 hP 0 rfl rfl 2 (by decide) w2 (fun _ h9 => h9) rfl dX6_ahead_92 ?_
            refine lv_iload_n hx hb dX6_ahead_95 rfl (lv_at hl 2 rfl) ?_
            refine lv_iload_n hx hb dX6_ahead_96 rfl (lv_at hl 3 rfl) ?_
            refine lv_iload_n hx hb dX6_ahead_97 rfl (lv_at hl 4 rfl) ?_
            obtain ⟨x110, R111, hg, hf⟩ := o2_s hf
            refine Ct.callV (ws' := wV g v0 u0 u1 u2 u3 k0 k1 k2 k3 h0 h1 h2 h3 s0 s1 s2 s3 c0 c1 c2 p0 r0 t0 t1 t2 t3 z0 f0 ea R N R111 S C P Q K X fd tl ik) (As := [.int x1, .int x2, .int x3]) (rest := []) (st1 := [.int x110]) (c_X1_passHours l g h0 h1 h2 h3 R109 x1 x2 x3 hg) (cwV 3 hts gX6_ahead_X1_passHours rfl rfl rfl q_X1_passHours ⟨Nat.le_of_ble_eq_true rfl, Nat.le_of_ble_eq_true rfl⟩) ⟨hx, hb, hml, hown, hts⟩ hE hP hD hS hA [9, 10, 11, 12] rfl rfl rfl rfl 1 9 rfl rfl rfl rfl hl.1 rfl rfl (Nat.le_of_ble_eq_true rfl) dX6_ahead_98 (fun H locs hP hD hS => ?_)
            refine lv_istore (lv' := [(6, .int x110), (5, .int y0), (0, .ref v0), (1, .int x1), (2, .int x2), (3, .int x3), (4, .int x4)]) hx hb dX6_ahead_101 hl (by decide) rfl (fun ls hl => ?_)
            refine lv_iload hx hb dX6_ahead_103 (lv_at hl 6 rfl) ?_
            by_cases hc0 : x4 = (0 : Int32)
            · have hf := if_t hf hc0
              refine lv_tableIn (off := 31) (tgt := 136) hx hb dX6_ahead_105 (ts_in _ hc0 (by decide)) (ts_hi _ hc0 (by decide)) (ts_of _ hc0 (by decide)) (by decide) ?_
              refine lv_aload_n hx hb dX6_ahead_136 rfl (lv_at hl 2 rfl) ?_
              refine va_get (D := g.1) (ci := 6) (v := .ref h0) (C := RX6) (T := TX6) (N := 11) hx hb hts i_X6_ahead_X6 hown hE.1 hP 0 rfl rfl 2 (by decide) w2 (fun _ h9 => h9) rfl dX6_ahead_137 ?_
              obtain ⟨x112, hg, hf⟩ := o1_s hf
              refine Ct.callV (ws' := wV g v0 u0 u1 u2 u3 k0 k1 k2 k3 h0 h1 h2 h3 s0 s1 s2 s3 c0 c1 c2 p0 r0 t0 t1 t2 t3 z0 f0 ea R N R111 S C P Q K X fd tl ik) (As := []) (rest := []) (st1 := [.int x112]) (c_X1_isOpen l g h0 h1 h2 h3 R111 hg) (cwV 0 hts gX6_ahead_X1_isOpen rfl rfl rfl q_X1_isOpen ⟨Nat.le_of_ble_eq_true rfl, Nat.le_of_ble_eq_true rfl⟩) ⟨hx, hb, hml, hown, hts⟩ hE hP hD hS hA [9, 10, 11, 12] rfl rfl rfl rfl 1 9 rfl rfl rfl rfl hl.1 rfl rfl (Nat.le_of_ble_eq_true rfl) dX6_ahead_140 (fun H locs hP hD hS => ?_)
              refine lv_if_eq (tgt := 150) hx hb dX6_ahead_143 (by decide) (fun hc => ?_) (fun hc => ?_)
              · have hf := if_t hf hc
                refine lv_iconst (v := (0 : Int32)) hx hb dX6_ahead_150 (by decide) ?_
                obtain ⟨rfl, rfl, rfl⟩ := some_p3 hf
                rw [hQ]; exact Ct.iret hx hb hr hlocks hAe hP hD hS dX6_ahead_151
              · have hf := if_f hf hc
                refine lv_iconst (v := (1 : Int32)) hx hb dX6_ahead_146 (by decide) ?_
                refine lv_goto (tgt := 151) hx hb dX6_ahead_147 (by decide) ?_
                obtain ⟨rfl, rfl, rfl⟩ := some_p3 hf
                rw [hQ]; exact Ct.iret hx hb hr hlocks hAe hP hD hS dX6_ahead_151
            · have hf := if_f hf hc0
              by_cases hc1 : x4 = (1 : Int32)
              · have hf := if_t hf hc1
                refine lv_tableIn (off := 47) (tgt := 152) hx hb dX6_ahead_105 (ts_in _ hc1 (by decide)) (ts_hi _ hc1 (by decide)) (ts_of _ hc1 (by decide)) (by decide) ?_
                refine lv_iload hx hb dX6_ahead_152 (lv_at hl 0 rfl) ?_
                obtain ⟨rfl, rfl, rfl⟩ := some_p3 hf
                rw [hQ]; exact Ct.iret hx hb hr hlocks hAe hP hD hS dX6_ahead_154
              · have hf := if_f hf hc1
                by_cases hc2 : x4 = (2 : Int32)
                · have hf := if_t hf hc2
                  refine lv_tableIn (off := 50) (tgt := 155) hx hb dX6_ahead_105 (ts_in _ hc2 (by decide)) (ts_hi _ hc2 (by decide)) (ts_of _ hc2 (by decide)) (by decide) ?_
                  refine lv_aload_n hx hb dX6_ahead_155 rfl (lv_at hl 2 rfl) ?_
                  refine va_get (D := g.1) (ci := 6) (v := .ref h0) (C := RX6) (T := TX6) (N := 11) hx hb hts i_X6_ahead_X6 hown hE.1 hP 0 rfl rfl 2 (by decide) w2 (fun _ h9 => h9) rfl dX6_ahead_156 ?_
                  obtain ⟨x113, hg, hf⟩ := o1_s hf
                  refine Ct.callV (ws' := wV g v0 u0 u1 u2 u3 k0 k1 k2 k3 h0 h1 h2 h3 s0 s1 s2 s3 c0 c1 c2 p0 r0 t0 t1 t2 t3 z0 f0 ea R N R111 S C P Q K X fd tl ik) (As := []) (rest := []) (st1 := [.int x113]) (c_X1_levelsTogether l g h0 h1 h2 h3 R111 hg) (cwV 0 hts gX6_ahead_X1_levelsTogether rfl rfl rfl q_X1_levelsTogether ⟨Nat.le_of_ble_eq_true rfl, Nat.le_of_ble_eq_true rfl⟩) ⟨hx, hb, hml, hown, hts⟩ hE hP hD hS hA [9, 10, 11, 12] rfl rfl rfl rfl 1 9 rfl rfl rfl rfl hl.1 rfl rfl (Nat.le_of_ble_eq_true rfl) dX6_ahead_159 (fun H locs hP hD hS => ?_)
                  obtain ⟨rfl, rfl, rfl⟩ := some_p3 hf
                  rw [hQ]; exact Ct.iret hx hb hr hlocks hAe hP hD hS dX6_ahead_162
                · have hf := if_f hf hc2
                  by_cases hc3 : x4 = (3 : Int32)
                  · have hf := if_t hf hc3
                    refine lv_tableIn (off := 58) (tgt := 163) hx hb dX6_ahead_105 (ts_in _ hc3 (by decide)) (ts_hi _ hc3 (by decide)) (ts_of _ hc3 (by decide)) (by decide) ?_
                    refine lv_aload_n hx hb dX6_ahead_163 rfl (lv_at hl 2 rfl) ?_
                    refine va_get (D := g.1) (ci := 6) (v := .ref h0) (C := RX6) (T := TX6) (N := 11) hx hb hts i_X6_ahead_X6 hown hE.1 hP 0 rfl rfl 2 (by decide) w2 (fun _ h9 => h9) rfl dX6_ahead_164 ?_
                    refine va_getN (D := g.1) (ci := 1) (v := .int R111.2.2.2.2.2.2.2.1) (C := RX1) (T := TX1) (N := 9) hx hb hts i_X6_ahead_X1 hown hE.1 hP 9 rfl rfl 7 (by decide) (va_Nw.use rfl (hE.2.1 _ (List.mem_of_getElem? (i := 8) rfl))) (fun _ h9 => h9) rfl dX6_ahead_167 ?_
                    refine lv_aload_n hx hb dX6_ahead_170 rfl (lv_at hl 2 rfl) ?_
                    refine va_get (D := g.1) (ci := 6) (v := .ref u0) (C := RX6) (T := TX6) (N := 11) hx hb hts i_X6_ahead_X6 hown hE.1 hP 0 rfl rfl 0 (by decide) w3 (fun _ h9 => h9) rfl dX6_ahead_171 ?_
                    refine va_getN (D := g.1) (ci := 1) (v := .int R.2.2.2.2.2.2.2.1) (C := RX1) (T := TX1) (N := 9) hx hb hts i_X6_ahead_X1 hown hE.1 hP 1 rfl rfl 7 (by decide) (va_Nw.use rfl (hE.2.1 _ (List.mem_of_getElem? (i := 8) rfl))) (fun _ h9 => h9) rfl dX6_ahead_174 ?_
                    refine lv_isub hx hb dX6_ahead_177 ?_
                    obtain ⟨rfl, rfl, rfl⟩ := some_p3 hf
                    rw [hQ]; exact Ct.iret hx hb hr hlocks hAe hP hD hS dX6_ahead_178
                  · have hf := if_f hf hc3
                    have hn0 := lv_neT (a := 0) hc0 (by decide)
                    have hn1 := lv_neT (a := 1) hc1 (by decide)
                    have hn2 := lv_neT (a := 2) hc2 (by decide)
                    have hn3 := lv_neT (a := 3) hc3 (by decide)
                    refine lv_tableOut (tgt := 179) hx hb dX6_ahead_105 (by omega) (by decide) ?_
                    refine lv_aload_n hx hb dX6_ahead_179 rfl (lv_at hl 2 rfl) ?_
                    refine va_get (D := g.1) (ci := 6) (v := .ref h0) (C := RX6) (T := TX6) (N := 11) hx hb hts i_X6_ahead_X6 hown hE.1 hP 0 rfl rfl 2 (by decide) w2 (fun _ h9 => h9) rfl dX6_ahead_180 ?_
                    refine lv_iload hx hb dX6_ahead_183 (lv_at hl 6 rfl) ?_
                    refine lv_iconst (v := (4 : Int32)) hx hb dX6_ahead_185 (by decide) ?_
                    refine lv_isub hx hb dX6_ahead_186 ?_
                    refine lv_iconst (v := (2 : Int32)) hx hb dX6_ahead_187 (by decide) ?_
                    obtain ⟨x114, hg, hf⟩ := o1_s hf
                    refine Ct.callV (ws' := wV g v0 u0 u1 u2 u3 k0 k1 k2 k3 h0 h1 h2 h3 s0 s1 s2 s3 c0 c1 c2 p0 r0 t0 t1 t2 t3 z0 f0 ea R N R111 S C P Q K X fd tl ik) (As := [.int (x4 - (4 : Int32)), .int (2 : Int32)]) (rest := []) (st1 := [.int x114]) (c_X1_get l g h0 h1 h2 h3 R111 (x4 - (4 : Int32)) (2 : Int32) hg) (cwV 2 hts gX6_ahead_X1_get rfl rfl rfl q_X1_get ⟨Nat.le_of_ble_eq_true rfl, Nat.le_of_ble_eq_true rfl⟩) ⟨hx, hb, hml, hown, hts⟩ hE hP hD hS hA [9, 10, 11, 12] rfl rfl rfl rfl 1 9 rfl rfl rfl rfl hl.1 rfl rfl (Nat.le_of_ble_eq_true rfl) dX6_ahead_188 (fun H locs hP hD hS => ?_)
                    obtain ⟨rfl, rfl, rfl⟩ := some_p3 hf
                    rw [hQ]; exact Ct.iret hx hb hr hlocks hAe hP hD hS dX6_ahead_191
          · have hf := if_f hf hc
            refine lv_aload_n hx hb dX6_ahead_73 rfl (lv_at hl 1 rfl) ?_
            refine lv_ldc hx hb hown w4 dX6_ahead_74 ?_
            obtain ⟨x115, fd116, hg, hf⟩ := o2_s hf
            refine Ct.callV0 (ws' := wV g v0 u0 u1 u2 u3 k0 k1 k2 k3 h0 h1 h2 h3 s0 s1 s2 s3 c0 c1 c2 p0 r0 t0 t1 t2 t3 z0 f0 ea R N B S C P Q K X fd116 tl ik) (As := [.int (-1000005 : Int32)]) (rest := []) (st1 := [.int x115]) (c_X6_finding l g v0 u0 u1 u2 u3 k0 k1 k2 k3 h0 h1 h2 h3 s0 s1 s2 s3 c0 c1 c2 p0 r0 t0 t1 t2 t3 z0 f0 ea R N B S C P Q K X fd tl ik (-1000005 : Int32) hg) (cwV 1 hts gX6_ahead_X6_finding rfl rfl rfl q_X6_finding ⟨Nat.le_of_ble_eq_true rfl, Nat.le_of_ble_eq_true rfl⟩) ⟨hx, hb, hml, hown, hts⟩ hE hP hD hS hA 6 0 rfl rfl rfl rfl hl.1 rfl rfl (Nat.le_of_ble_eq_true rfl) dX6_ahead_76 (fun H locs hP hD hS => ?_)
            obtain ⟨rfl, rfl, rfl⟩ := some_p3 hf
            rw [hQ]; exact Ct.iret hx hb hr hlocks hAe hP hD hS dX6_ahead_79
        · have hf := if_t hf hc
          refine lv_aload_n hx hb dX6_ahead_58 rfl (lv_at hl 1 rfl) ?_
          refine lv_ldc hx hb hown w1 dX6_ahead_59 ?_
          obtain ⟨x117, fd118, hg, hf⟩ := o2_s hf
          refine Ct.callV0 (ws' := wV g v0 u0 u1 u2 u3 k0 k1 k2 k3 h0 h1 h2 h3 s0 s1 s2 s3 c0 c1 c2 p0 r0 t0 t1 t2 t3 z0 f0 ea R N B S C P Q K X fd118 tl ik) (As := [.int (-1000001 : Int32)]) (rest := []) (st1 := [.int x117]) (c_X6_finding l g v0 u0 u1 u2 u3 k0 k1 k2 k3 h0 h1 h2 h3 s0 s1 s2 s3 c0 c1 c2 p0 r0 t0 t1 t2 t3 z0 f0 ea R N B S C P Q K X fd tl ik (-1000001 : Int32) hg) (cwV 1 hts gX6_ahead_X6_finding rfl rfl rfl q_X6_finding ⟨Nat.le_of_ble_eq_true rfl, Nat.le_of_ble_eq_true rfl⟩) ⟨hx, hb, hml, hown, hts⟩ hE hP hD hS hA 6 0 rfl rfl rfl rfl hl.1 rfl rfl (Nat.le_of_ble_eq_true rfl) dX6_ahead_61 (fun H locs hP hD hS => ?_)
          obtain ⟨rfl, rfl, rfl⟩ := some_p3 hf
          rw [hQ]; exact Ct.iret hx hb hr hlocks hAe hP hD hS dX6_ahead_64
  have J28 : ∀ (B : Rf) (fd : Nat → Int32) (x1 : Int32) (x2 : Int32) (x3 : Int32) (x4 : Int32) (H : Heap) (locs : List Loc) (ls : Array Slot), fX6_ahead_J28 R B fd x1 x2 x3 x4 = some (r, B', fd') → va_P g.1 vwK (wV g v0 u0 u1 u2 u3 k0 k1 k2 k3 h0 h1 h2 h3 s0 s1 s2 s3 c0 c1 c2 p0 r0 t0 t1 t2 t3 z0 f0 ea R N B S C P Q K X fd tl ik) H → va_D A (wV g v0 u0 u1 u2 u3 k0 k1 k2 k3 h0 h1 h2 h3 s0 s1 s2 s3 c0 c1 c2 p0 r0 t0 t1 t2 t3 z0 f0 ea R N B S C P Q K X fd tl ik) → va_S A s.heap H locs → lv_has ls 7 [(0, .ref v0), (1, .int x1), (2, .int x2), (3, .int x3), (4, .int x4)] → W p l e (rmm 6 137) s m args below meth c H locs 0 0 Qx (F0 m 28 ls []) := by
    intro B fd x1 x2 x3 x4 H locs ls hf hP hD hS hl
    unfold fX6_ahead_J28 at hf
    refine lv_iconst (v := (1 : Int32)) hx hb dX6_ahead_28 (by decide) ?_
    refine lv_goto (tgt := 33) hx hb dX6_ahead_29 (by decide) ?_
    exact J33 _ _ _ _ _ _ _ _ _ _  hf hP hD hS (lv_sub hl [0, 1, 2, 3, 4] rfl)
  unfold fX6_ahead at hf
  refine lv_iload hx hb dX6_ahead_0 (lv_at hl 4 rfl) ?_
  refine lv_iconst (v := (0 : Int32)) hx hb dX6_ahead_2 (by decide) ?_
  refine lv_iconst (v := (3 : Int32)) hx hb dX6_ahead_3 (by decide) ?_
  obtain ⟨x101, hg, hf⟩ := o1_s hf
  refine Ct.callS (ws' := wV g v0 u0 u1 u2 u3 k0 k1 k2 k3 h0 h1 h2 h3 s0 s1 s2 s3 c0 c1 c2 p0 r0 t0 t1 t2 t3 z0 f0 ea R N B S C P Q K X fd tl ik) (As := [.int a4, .int (0 : Int32), .int (3 : Int32)]) (rest := []) (st1 := [.int x101]) (c_X6_isWithin l g a4 (0 : Int32) (3 : Int32) hg) (va_cwS 3 hts gX6_ahead_X6_isWithin rfl rfl rfl q_X6_isWithin.2 ⟨Nat.le_of_ble_eq_true rfl, Nat.le_of_ble_eq_true rfl⟩) ⟨hx, hb, hml, hown, hts⟩ hE hP hD hS hA [] rfl rfl rfl rfl rfl hl.1 rfl rfl (Nat.le_of_ble_eq_true rfl) dX6_ahead_4 (fun H locs hP hD hS => ?_)
  refine lv_if_ne (tgt := 28) hx hb dX6_ahead_7 (by decide) (fun hc => ?_) (fun hc => ?_)
  · have hf := if_f hf hc
    exact J28 _ _ _ _ _ _ _ _ _  hf hP hD hS (lv_sub hl [0, 1, 2, 3, 4] rfl)
  · have hf := if_t hf hc
    refine lv_iload hx hb dX6_ahead_10 (lv_at hl 4 rfl) ?_
    refine lv_iconst (v := (4 : Int32)) hx hb dX6_ahead_12 (by decide) ?_
    refine lv_iconst (v := (3 : Int32)) hx hb dX6_ahead_13 (by decide) ?_
    refine lv_aload_n hx hb dX6_ahead_14 rfl (lv_at hl 0 rfl) ?_
    refine va_get (D := g.1) (ci := 6) (v := .ref u0) (C := RX6) (T := TX6) (N := 11) hx hb hts i_X6_ahead_X6 hown hE.1 hP 0 rfl rfl 0 (by decide) w3 (fun _ h9 => h9) rfl dX6_ahead_15 ?_
    refine va_getN (D := g.1) (ci := 1) (v := .int R.2.2.2.1) (C := RX1) (T := TX1) (N := 9) hx hb hts i_X6_ahead_X1 hown hE.1 hP 1 rfl rfl 3 (by decide) (va_Nw.use rfl (hE.2.1 _ (List.mem_of_getElem? (i := 1) rfl))) (fun _ h9 => h9) rfl dX6_ahead_18 ?_
    refine lv_iadd hx hb dX6_ahead_21 ?_
    obtain ⟨x119, hg, hf⟩ := o1_s hf
    refine Ct.callS (ws' := wV g v0 u0 u1 u2 u3 k0 k1 k2 k3 h0 h1 h2 h3 s0 s1 s2 s3 c0 c1 c2 p0 r0 t0 t1 t2 t3 z0 f0 ea R N B S C P Q K X fd tl ik) (As := [.int a4, .int (4 : Int32), .int ((3 : Int32) + R.2.2.2.1)]) (rest := []) (st1 := [.int x119]) (c_X6_isWithin l g a4 (4 : Int32) ((3 : Int32) + R.2.2.2.1) hg) (va_cwS 3 hts gX6_ahead_X6_isWithin rfl rfl rfl q_X6_isWithin.2 ⟨Nat.le_of_ble_eq_true rfl, Nat.le_of_ble_eq_true rfl⟩) ⟨hx, hb, hml, hown, hts⟩ hE hP hD hS hA [] rfl rfl rfl rfl rfl hl.1 rfl rfl (Nat.le_of_ble_eq_true rfl) dX6_ahead_22 (fun H locs hP hD hS => ?_)
    refine lv_if_eq (tgt := 32) hx hb dX6_ahead_25 (by decide) (fun hc => ?_) (fun hc => ?_)
    · have hf := if_t hf hc
      refine lv_iconst (v := (0 : Int32)) hx hb dX6_ahead_32 (by decide) ?_
      exact J33 _ _ _ _ _ _ _ _ _ _  hf hP hD hS (lv_sub hl [0, 1, 2, 3, 4] rfl)
    · have hf := if_f hf hc
      exact J28 _ _ _ _ _ _ _ _ _  hf hP hD hS (lv_sub hl [0, 1, 2, 3, 4] rfl)
