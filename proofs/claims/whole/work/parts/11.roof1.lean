def fX1_shown (R : Rf) (a1 : Int32) : Option (Int32) := o1 (fX1_get R a1 (2 : Int32)) (fun x101 => o1 (fX1_isOf R a1 (4 : Int32)) (fun x102 => if x102 = 0 then (o1 (fX1_isOf R a1 (3 : Int32)) (fun x103 => if x103 = 0 then (some x101) else (if (3 : Int32) ≤ x101 then (some x101) else (some (0 : Int32))))) else (o1 (fX1_get R a1 (1 : Int32)) (fun x104 => some (x104 - x101)))))
theorem q_X1_shown : yX1_shown.cls = RX1 ∧ yX1_shown.cls ≠ "java/lang/invoke/MethodHandle" ∧ yX1_shown.cls ≠ "java/lang/invoke/VarHandle" ∧ (parseMethodDescriptor yX1_shown.desc).map (fun d => d.parameters.length) = some 1 := by decide +kernel
set_option maxHeartbeats 4000000 in
set_option maxRecDepth 100000 in
theorem c_X1_shown (l : Launch) (g : gG) (h0 h1 h2 h3 : Nat) (R : Rf) (a1 : Int32) {r : Int32} (hf : fX1_shown R a1 = some r) : Ct l yX1_shown wsX1_shown (rmm 2 46) g (wRf g h0 h1 h2 h3 R) (wRf g h0 h1 h2 h3 R) [.ref h0, .int a1] (some (.int r)) := by
  refine Ct.mk (by decide) rfl (Nat.le_of_ble_eq_true rfl) ?_
  intro p e s m args below meth c A ls hx hb hr hml hts hown hlocks hA hE hP hD hS hl hAe
  obtain ⟨Qx, hQ⟩ : ∃ Qx : State → Prop, Qx = MQ below (QcG g (wRf g h0 h1 h2 h3 R) (wRf g h0 h1 h2 h3 R) (some (.int r)) s.heap.size) args s 0 0 A := ⟨_, rfl⟩
  rw [← hQ]
  have hown : s.vm.findClass RX1 = some m.cls := hown
  have hl : lv_has ls 3 [(0, .ref h0), (1, .int a1)] := hl
  unfold fX1_shown at hf
  refine lv_aload_n hx hb dX1_shown_0 rfl (lv_at hl 0 rfl) ?_
  refine lv_iload_n hx hb dX1_shown_1 rfl (lv_at hl 1 rfl) ?_
  refine lv_iconst (v := (2 : Int32)) hx hb dX1_shown_2 (by decide) ?_
  obtain ⟨x101, hg, hf⟩ := o1_s hf
  refine Ct.callV0 (ws' := wRf g h0 h1 h2 h3 R) (As := [.int a1, .int (2 : Int32)]) (rest := []) (st1 := [.int x101]) (c_X1_get l g h0 h1 h2 h3 R a1 (2 : Int32) hg) (cwV 2 hts gX1_shown_X1_get rfl rfl rfl q_X1_get ⟨Nat.le_of_ble_eq_true rfl, Nat.le_of_ble_eq_true rfl⟩) ⟨hx, hb, hml, hown, hts⟩ hE hP hD hS hA 1 0 rfl rfl rfl rfl hl.1 rfl rfl (Nat.le_of_ble_eq_true rfl) dX1_shown_3 (fun H locs hP hD hS => ?_)
  refine lv_istore_n (lv' := [(2, .int x101), (0, .ref h0), (1, .int a1)]) hx hb dX1_shown_6 rfl hl (by decide) rfl (fun ls hl => ?_)
  refine lv_aload_n hx hb dX1_shown_7 rfl (lv_at hl 1 rfl) ?_
  refine lv_iload_n hx hb dX1_shown_8 rfl (lv_at hl 2 rfl) ?_
  refine lv_iconst (v := (4 : Int32)) hx hb dX1_shown_9 (by decide) ?_
  obtain ⟨x102, hg, hf⟩ := o1_s hf
  refine Ct.callV0 (ws' := wRf g h0 h1 h2 h3 R) (As := [.int a1, .int (4 : Int32)]) (rest := []) (st1 := [.int x102]) (c_X1_isOf l g h0 h1 h2 h3 R a1 (4 : Int32) hg) (cwV 2 hts gX1_shown_X1_isOf rfl rfl rfl q_X1_isOf ⟨Nat.le_of_ble_eq_true rfl, Nat.le_of_ble_eq_true rfl⟩) ⟨hx, hb, hml, hown, hts⟩ hE hP hD hS hA 1 0 rfl rfl rfl rfl hl.1 rfl rfl (Nat.le_of_ble_eq_true rfl) dX1_shown_10 (fun H locs hP hD hS => ?_)
  refine lv_if_eq (tgt := 25) hx hb dX1_shown_13 (by decide) (fun hc => ?_) (fun hc => ?_)
  · have hf := if_t hf hc
    refine lv_aload_n hx hb dX1_shown_25 rfl (lv_at hl 1 rfl) ?_
    refine lv_iload_n hx hb dX1_shown_26 rfl (lv_at hl 2 rfl) ?_
    refine lv_iconst (v := (3 : Int32)) hx hb dX1_shown_27 (by decide) ?_
    obtain ⟨x103, hg, hf⟩ := o1_s hf
    refine Ct.callV0 (ws' := wRf g h0 h1 h2 h3 R) (As := [.int a1, .int (3 : Int32)]) (rest := []) (st1 := [.int x103]) (c_X1_isOf l g h0 h1 h2 h3 R a1 (3 : Int32) hg) (cwV 2 hts gX1_shown_X1_isOf rfl rfl rfl q_X1_isOf ⟨Nat.le_of_ble_eq_true rfl, Nat.le_of_ble_eq_true rfl⟩) ⟨hx, hb, hml, hown, hts⟩ hE hP hD hS hA 1 0 rfl rfl rfl rfl hl.1 rfl rfl (Nat.le_of_ble_eq_true rfl) dX1_shown_28 (fun H locs hP hD hS => ?_)
    refine lv_if_eq (tgt := 43) hx hb dX1_shown_31 (by decide) (fun hc => ?_) (fun hc => ?_)
    · have hf := if_t hf hc
      refine lv_iload_n hx hb dX1_shown_43 rfl (lv_at hl 0 rfl) ?_
      obtain rfl := Option.some.inj hf
      rw [hQ]; exact Ct.iret hx hb hr hlocks hAe hP hD hS dX1_shown_44
    · have hf := if_f hf hc
      refine lv_iload_n hx hb dX1_shown_34 rfl (lv_at hl 0 rfl) ?_
      refine lv_iconst (v := (3 : Int32)) hx hb dX1_shown_35 (by decide) ?_
      refine lv_icmp_ge (tgt := 43) hx hb dX1_shown_36 (by decide) (fun hc => ?_) (fun hc => ?_)
      · have hf := if_t hf hc
        refine lv_iload_n hx hb dX1_shown_43 rfl (lv_at hl 0 rfl) ?_
        obtain rfl := Option.some.inj hf
        rw [hQ]; exact Ct.iret hx hb hr hlocks hAe hP hD hS dX1_shown_44
      · have hf := if_f hf hc
        refine lv_iconst (v := (0 : Int32)) hx hb dX1_shown_39 (by decide) ?_
        refine lv_goto (tgt := 44) hx hb dX1_shown_40 (by decide) ?_
        obtain rfl := Option.some.inj hf
        rw [hQ]; exact Ct.iret hx hb hr hlocks hAe hP hD hS dX1_shown_44
  · have hf := if_f hf hc
    refine lv_aload_n hx hb dX1_shown_16 rfl (lv_at hl 1 rfl) ?_
    refine lv_iload_n hx hb dX1_shown_17 rfl (lv_at hl 2 rfl) ?_
    refine lv_iconst (v := (1 : Int32)) hx hb dX1_shown_18 (by decide) ?_
    obtain ⟨x104, hg, hf⟩ := o1_s hf
    refine Ct.callV0 (ws' := wRf g h0 h1 h2 h3 R) (As := [.int a1, .int (1 : Int32)]) (rest := []) (st1 := [.int x104]) (c_X1_get l g h0 h1 h2 h3 R a1 (1 : Int32) hg) (cwV 2 hts gX1_shown_X1_get rfl rfl rfl q_X1_get ⟨Nat.le_of_ble_eq_true rfl, Nat.le_of_ble_eq_true rfl⟩) ⟨hx, hb, hml, hown, hts⟩ hE hP hD hS hA 1 0 rfl rfl rfl rfl hl.1 rfl rfl (Nat.le_of_ble_eq_true rfl) dX1_shown_19 (fun H locs hP hD hS => ?_)
    refine lv_iload_n hx hb dX1_shown_22 rfl (lv_at hl 0 rfl) ?_
    refine lv_isub hx hb dX1_shown_23 ?_
    obtain rfl := Option.some.inj hf
    rw [hQ]; exact Ct.iret hx hb hr hlocks hAe hP hD hS dX1_shown_24
def fX1_holds (R : Rf) (a1 : Int32) : Option (Int32) := o1 (fX1_conditionFact R a1 (1 : Int32)) (fun x101 => o1 (fX1_conditionFact R a1 (2 : Int32)) (fun x102 => o1 (fX1_hasCistern R x101) (fun x103 => if x103 = 0 then (some (0 : Int32)) else (o1 (fX1_conditionFact R a1 (0 : Int32)) (fun x104 => if x104 = (0 : Int32) then (o1 (fX1_hasCistern R x102) (fun x105 => if x105 = 0 then (some (0 : Int32)) else (o1 (fX1_shown R x101) (fun x106 => o1 (fX1_shown R x102) (fun x107 => if x106 ≤ x107 then (some (0 : Int32)) else (some (1 : Int32))))))) else (if x104 = (1 : Int32) then (o1 (fX1_hasCistern R x102) (fun x108 => if x108 = 0 then (some (0 : Int32)) else (o1 (fX1_shown R x101) (fun x109 => o1 (fX1_shown R x102) (fun x110 => if x109 = x110 then (some (1 : Int32)) else (some (0 : Int32))))))) else (if x104 = (2 : Int32) then (o1 (fX1_shown R x101) (fun x111 => if x111 = 0 then (some (1 : Int32)) else (some (0 : Int32)))) else (if x104 = (3 : Int32) then (o1 (fX1_shown R x101) (fun x112 => o1 (fX1_get R x101 (1 : Int32)) (fun x113 => if x112 = x113 then (some (1 : Int32)) else (some (0 : Int32))))) else (o1 (fX1_shown R x101) (fun x114 => if x102 ≤ x114 then (some (0 : Int32)) else (some (1 : Int32))))))))))))
theorem q_X1_holds : yX1_holds.cls = RX1 ∧ yX1_holds.cls ≠ "java/lang/invoke/MethodHandle" ∧ yX1_holds.cls ≠ "java/lang/invoke/VarHandle" ∧ (parseMethodDescriptor yX1_holds.desc).map (fun d => d.parameters.length) = some 1 := by decide +kernel
set_option maxHeartbeats 4000000 in
set_option maxRecDepth 100000 in
theorem c_X1_holds (l : Launch) (g : gG) (h0 h1 h2 h3 : Nat) (R : Rf) (a1 : Int32) {r : Int32} (hf : fX1_holds R a1 = some r) : Ct l yX1_holds wsX1_holds (rmm 3 68) g (wRf g h0 h1 h2 h3 R) (wRf g h0 h1 h2 h3 R) [.ref h0, .int a1] (some (.int r)) := by
  refine Ct.mk (by decide) rfl (Nat.le_of_ble_eq_true rfl) ?_
  intro p e s m args below meth c A ls hx hb hr hml hts hown hlocks hA hE hP hD hS hl hAe
  obtain ⟨Qx, hQ⟩ : ∃ Qx : State → Prop, Qx = MQ below (QcG g (wRf g h0 h1 h2 h3 R) (wRf g h0 h1 h2 h3 R) (some (.int r)) s.heap.size) args s 0 0 A := ⟨_, rfl⟩
  rw [← hQ]
  have hown : s.vm.findClass RX1 = some m.cls := hown
  have hl : lv_has ls 4 [(0, .ref h0), (1, .int a1)] := hl
  unfold fX1_holds at hf
  refine lv_aload_n hx hb dX1_holds_0 rfl (lv_at hl 0 rfl) ?_
  refine lv_iload_n hx hb dX1_holds_1 rfl (lv_at hl 1 rfl) ?_
  refine lv_iconst (v := (1 : Int32)) hx hb dX1_holds_2 (by decide) ?_
  obtain ⟨x101, hg, hf⟩ := o1_s hf
  refine Ct.callV0 (ws' := wRf g h0 h1 h2 h3 R) (As := [.int a1, .int (1 : Int32)]) (rest := []) (st1 := [.int x101]) (c_X1_conditionFact l g h0 h1 h2 h3 R a1 (1 : Int32) hg) (cwV 2 hts gX1_holds_X1_conditionFact rfl rfl rfl q_X1_conditionFact ⟨Nat.le_of_ble_eq_true rfl, Nat.le_of_ble_eq_true rfl⟩) ⟨hx, hb, hml, hown, hts⟩ hE hP hD hS hA 1 0 rfl rfl rfl rfl hl.1 rfl rfl (Nat.le_of_ble_eq_true rfl) dX1_holds_3 (fun H locs hP hD hS => ?_)
  refine lv_istore_n (lv' := [(2, .int x101), (0, .ref h0), (1, .int a1)]) hx hb dX1_holds_6 rfl hl (by decide) rfl (fun ls hl => ?_)
  refine lv_aload_n hx hb dX1_holds_7 rfl (lv_at hl 1 rfl) ?_
  refine lv_iload_n hx hb dX1_holds_8 rfl (lv_at hl 2 rfl) ?_
  refine lv_iconst (v := (2 : Int32)) hx hb dX1_holds_9 (by decide) ?_
  obtain ⟨x102, hg, hf⟩ := o1_s hf
  refine Ct.callV0 (ws' := wRf g h0 h1 h2 h3 R) (As := [.int a1, .int (2 : Int32)]) (rest := []) (st1 := [.int x102]) (c_X1_conditionFact l g h0 h1 h2 h3 R a1 (2 : Int32) hg) (cwV 2 hts gX1_holds_X1_conditionFact rfl rfl rfl q_X1_conditionFact ⟨Nat.le_of_ble_eq_true rfl, Nat.le_of_ble_eq_true rfl⟩) ⟨hx, hb, hml, hown, hts⟩ hE hP hD hS hA 1 0 rfl rfl rfl rfl hl.1 rfl rfl (Nat.le_of_ble_eq_true rfl) dX1_holds_10 (fun H locs hP hD hS => ?_)
  refine lv_istore_n (lv' := [(3, .int x102), (2, .int x101), (0, .ref h0), (1, .int a1)]) hx hb dX1_holds_13 rfl hl (by decide) rfl (fun ls hl => ?_)
  refine lv_aload_n hx hb dX1_holds_14 rfl (lv_at hl 2 rfl) ?_
  refine lv_iload_n hx hb dX1_holds_15 rfl (lv_at hl 1 rfl) ?_
  obtain ⟨x103, hg, hf⟩ := o1_s hf
  refine Ct.callV0 (ws' := wRf g h0 h1 h2 h3 R) (As := [.int x101]) (rest := []) (st1 := [.int x103]) (c_X1_hasCistern l g h0 h1 h2 h3 R x101 hg) (cwV 1 hts gX1_holds_X1_hasCistern rfl rfl rfl q_X1_hasCistern ⟨Nat.le_of_ble_eq_true rfl, Nat.le_of_ble_eq_true rfl⟩) ⟨hx, hb, hml, hown, hts⟩ hE hP hD hS hA 1 0 rfl rfl rfl rfl hl.1 rfl rfl (Nat.le_of_ble_eq_true rfl) dX1_holds_16 (fun H locs hP hD hS => ?_)
  refine lv_if_ne (tgt := 24) hx hb dX1_holds_19 (by decide) (fun hc => ?_) (fun hc => ?_)
  · have hf := if_f hf hc
    refine lv_aload_n hx hb dX1_holds_24 rfl (lv_at hl 2 rfl) ?_
    refine lv_iload_n hx hb dX1_holds_25 rfl (lv_at hl 3 rfl) ?_
    refine lv_iconst (v := (0 : Int32)) hx hb dX1_holds_26 (by decide) ?_
    obtain ⟨x104, hg, hf⟩ := o1_s hf
    refine Ct.callV0 (ws' := wRf g h0 h1 h2 h3 R) (As := [.int a1, .int (0 : Int32)]) (rest := []) (st1 := [.int x104]) (c_X1_conditionFact l g h0 h1 h2 h3 R a1 (0 : Int32) hg) (cwV 2 hts gX1_holds_X1_conditionFact rfl rfl rfl q_X1_conditionFact ⟨Nat.le_of_ble_eq_true rfl, Nat.le_of_ble_eq_true rfl⟩) ⟨hx, hb, hml, hown, hts⟩ hE hP hD hS hA 1 0 rfl rfl rfl rfl hl.1 rfl rfl (Nat.le_of_ble_eq_true rfl) dX1_holds_27 (fun H locs hP hD hS => ?_)
    by_cases hc0 : x104 = (0 : Int32)
    · have hf := if_t hf hc0
      refine lv_tableIn (off := 30) (tgt := 60) hx hb dX1_holds_30 (ts_in _ hc0 (by decide)) (ts_hi _ hc0 (by decide)) (ts_of _ hc0 (by decide)) (by decide) ?_
      refine lv_aload_n hx hb dX1_holds_60 rfl (lv_at hl 2 rfl) ?_
      refine lv_iload_n hx hb dX1_holds_61 rfl (lv_at hl 0 rfl) ?_
      obtain ⟨x105, hg, hf⟩ := o1_s hf
      refine Ct.callV0 (ws' := wRf g h0 h1 h2 h3 R) (As := [.int x102]) (rest := []) (st1 := [.int x105]) (c_X1_hasCistern l g h0 h1 h2 h3 R x102 hg) (cwV 1 hts gX1_holds_X1_hasCistern rfl rfl rfl q_X1_hasCistern ⟨Nat.le_of_ble_eq_true rfl, Nat.le_of_ble_eq_true rfl⟩) ⟨hx, hb, hml, hown, hts⟩ hE hP hD hS hA 1 0 rfl rfl rfl rfl hl.1 rfl rfl (Nat.le_of_ble_eq_true rfl) dX1_holds_62 (fun H locs hP hD hS => ?_)
      refine lv_if_eq (tgt := 85) hx hb dX1_holds_65 (by decide) (fun hc => ?_) (fun hc => ?_)
      · have hf := if_t hf hc
        refine lv_iconst (v := (0 : Int32)) hx hb dX1_holds_85 (by decide) ?_
        obtain rfl := Option.some.inj hf
        rw [hQ]; exact Ct.zret hx hb hr (by decide) hlocks hAe hP hD hS dX1_holds_86
      · have hf := if_f hf hc
        refine lv_aload_n hx hb dX1_holds_68 rfl (lv_at hl 2 rfl) ?_
        refine lv_iload_n hx hb dX1_holds_69 rfl (lv_at hl 1 rfl) ?_
        obtain ⟨x106, hg, hf⟩ := o1_s hf
        refine Ct.callV0 (ws' := wRf g h0 h1 h2 h3 R) (As := [.int x101]) (rest := []) (st1 := [.int x106]) (c_X1_shown l g h0 h1 h2 h3 R x101 hg) (cwV 1 hts gX1_holds_X1_shown rfl rfl rfl q_X1_shown ⟨Nat.le_of_ble_eq_true rfl, Nat.le_of_ble_eq_true rfl⟩) ⟨hx, hb, hml, hown, hts⟩ hE hP hD hS hA 1 0 rfl rfl rfl rfl hl.1 rfl rfl (Nat.le_of_ble_eq_true rfl) dX1_holds_70 (fun H locs hP hD hS => ?_)
        refine lv_aload_n hx hb dX1_holds_73 rfl (lv_at hl 2 rfl) ?_
        refine lv_iload_n hx hb dX1_holds_74 rfl (lv_at hl 0 rfl) ?_
        obtain ⟨x107, hg, hf⟩ := o1_s hf
        refine Ct.callV0 (ws' := wRf g h0 h1 h2 h3 R) (As := [.int x102]) (rest := [.int x106]) (st1 := [.int x107, .int x106]) (c_X1_shown l g h0 h1 h2 h3 R x102 hg) (cwV 1 hts gX1_holds_X1_shown rfl rfl rfl q_X1_shown ⟨Nat.le_of_ble_eq_true rfl, Nat.le_of_ble_eq_true rfl⟩) ⟨hx, hb, hml, hown, hts⟩ hE hP hD hS hA 1 0 rfl rfl rfl rfl hl.1 rfl rfl (Nat.le_of_ble_eq_true rfl) dX1_holds_75 (fun H locs hP hD hS => ?_)
        refine lv_icmp_le (tgt := 85) hx hb dX1_holds_78 (by decide) (fun hc => ?_) (fun hc => ?_)
        · have hf := if_t hf hc
          refine lv_iconst (v := (0 : Int32)) hx hb dX1_holds_85 (by decide) ?_
          obtain rfl := Option.some.inj hf
          rw [hQ]; exact Ct.zret hx hb hr (by decide) hlocks hAe hP hD hS dX1_holds_86
        · have hf := if_f hf hc
          refine lv_iconst (v := (1 : Int32)) hx hb dX1_holds_81 (by decide) ?_
          refine lv_goto (tgt := 86) hx hb dX1_holds_82 (by decide) ?_
          obtain rfl := Option.some.inj hf
          rw [hQ]; exact Ct.zret hx hb hr (by decide) hlocks hAe hP hD hS dX1_holds_86
    · have hf := if_f hf hc0
      by_cases hc1 : x104 = (1 : Int32)
      · have hf := if_t hf hc1
        refine lv_tableIn (off := 57) (tgt := 87) hx hb dX1_holds_30 (ts_in _ hc1 (by decide)) (ts_hi _ hc1 (by decide)) (ts_of _ hc1 (by decide)) (by decide) ?_
        refine lv_aload_n hx hb dX1_holds_87 rfl (lv_at hl 2 rfl) ?_
        refine lv_iload_n hx hb dX1_holds_88 rfl (lv_at hl 0 rfl) ?_
        obtain ⟨x108, hg, hf⟩ := o1_s hf
        refine Ct.callV0 (ws' := wRf g h0 h1 h2 h3 R) (As := [.int x102]) (rest := []) (st1 := [.int x108]) (c_X1_hasCistern l g h0 h1 h2 h3 R x102 hg) (cwV 1 hts gX1_holds_X1_hasCistern rfl rfl rfl q_X1_hasCistern ⟨Nat.le_of_ble_eq_true rfl, Nat.le_of_ble_eq_true rfl⟩) ⟨hx, hb, hml, hown, hts⟩ hE hP hD hS hA 1 0 rfl rfl rfl rfl hl.1 rfl rfl (Nat.le_of_ble_eq_true rfl) dX1_holds_89 (fun H locs hP hD hS => ?_)
        refine lv_if_eq (tgt := 112) hx hb dX1_holds_92 (by decide) (fun hc => ?_) (fun hc => ?_)
        · have hf := if_t hf hc
          refine lv_iconst (v := (0 : Int32)) hx hb dX1_holds_112 (by decide) ?_
          obtain rfl := Option.some.inj hf
          rw [hQ]; exact Ct.zret hx hb hr (by decide) hlocks hAe hP hD hS dX1_holds_113
        · have hf := if_f hf hc
          refine lv_aload_n hx hb dX1_holds_95 rfl (lv_at hl 2 rfl) ?_
          refine lv_iload_n hx hb dX1_holds_96 rfl (lv_at hl 1 rfl) ?_
          obtain ⟨x109, hg, hf⟩ := o1_s hf
          refine Ct.callV0 (ws' := wRf g h0 h1 h2 h3 R) (As := [.int x101]) (rest := []) (st1 := [.int x109]) (c_X1_shown l g h0 h1 h2 h3 R x101 hg) (cwV 1 hts gX1_holds_X1_shown rfl rfl rfl q_X1_shown ⟨Nat.le_of_ble_eq_true rfl, Nat.le_of_ble_eq_true rfl⟩) ⟨hx, hb, hml, hown, hts⟩ hE hP hD hS hA 1 0 rfl rfl rfl rfl hl.1 rfl rfl (Nat.le_of_ble_eq_true rfl) dX1_holds_97 (fun H locs hP hD hS => ?_)
          refine lv_aload_n hx hb dX1_holds_100 rfl (lv_at hl 2 rfl) ?_
          refine lv_iload_n hx hb dX1_holds_101 rfl (lv_at hl 0 rfl) ?_
          obtain ⟨x110, hg, hf⟩ := o1_s hf
          refine Ct.callV0 (ws' := wRf g h0 h1 h2 h3 R) (As := [.int x102]) (rest := [.int x109]) (st1 := [.int x110, .int x109]) (c_X1_shown l g h0 h1 h2 h3 R x102 hg) (cwV 1 hts gX1_holds_X1_shown rfl rfl rfl q_X1_shown ⟨Nat.le_of_ble_eq_true rfl, Nat.le_of_ble_eq_true rfl⟩) ⟨hx, hb, hml, hown, hts⟩ hE hP hD hS hA 1 0 rfl rfl rfl rfl hl.1 rfl rfl (Nat.le_of_ble_eq_true rfl) dX1_holds_102 (fun H locs hP hD hS => ?_)
          refine lv_icmp_ne (tgt := 112) hx hb dX1_holds_105 (by decide) (fun hc => ?_) (fun hc => ?_)
          · have hf := if_f hf hc
            refine lv_iconst (v := (0 : Int32)) hx hb dX1_holds_112 (by decide) ?_
            obtain rfl := Option.some.inj hf
            rw [hQ]; exact Ct.zret hx hb hr (by decide) hlocks hAe hP hD hS dX1_holds_113
          · have hf := if_t hf hc
            refine lv_iconst (v := (1 : Int32)) hx hb dX1_holds_108 (by decide) ?_
            refine lv_goto (tgt := 113) hx hb dX1_holds_109 (by decide) ?_
            obtain rfl := Option.some.inj hf
            rw [hQ]; exact Ct.zret hx hb hr (by decide) hlocks hAe hP hD hS dX1_holds_113
      · have hf := if_f hf hc1
        by_cases hc2 : x104 = (2 : Int32)
        · have hf := if_t hf hc2
          refine lv_tableIn (off := 84) (tgt := 114) hx hb dX1_holds_30 (ts_in _ hc2 (by decide)) (ts_hi _ hc2 (by decide)) (ts_of _ hc2 (by decide)) (by decide) ?_
          refine lv_aload_n hx hb dX1_holds_114 rfl (lv_at hl 2 rfl) ?_
          refine lv_iload_n hx hb dX1_holds_115 rfl (lv_at hl 1 rfl) ?_
          obtain ⟨x111, hg, hf⟩ := o1_s hf
          refine Ct.callV0 (ws' := wRf g h0 h1 h2 h3 R) (As := [.int x101]) (rest := []) (st1 := [.int x111]) (c_X1_shown l g h0 h1 h2 h3 R x101 hg) (cwV 1 hts gX1_holds_X1_shown rfl rfl rfl q_X1_shown ⟨Nat.le_of_ble_eq_true rfl, Nat.le_of_ble_eq_true rfl⟩) ⟨hx, hb, hml, hown, hts⟩ hE hP hD hS hA 1 0 rfl rfl rfl rfl hl.1 rfl rfl (Nat.le_of_ble_eq_true rfl) dX1_holds_116 (fun H locs hP hD hS => ?_)
          refine lv_if_ne (tgt := 126) hx hb dX1_holds_119 (by decide) (fun hc => ?_) (fun hc => ?_)
          · have hf := if_f hf hc
            refine lv_iconst (v := (0 : Int32)) hx hb dX1_holds_126 (by decide) ?_
            obtain rfl := Option.some.inj hf
            rw [hQ]; exact Ct.zret hx hb hr (by decide) hlocks hAe hP hD hS dX1_holds_127
          · have hf := if_t hf hc
            refine lv_iconst (v := (1 : Int32)) hx hb dX1_holds_122 (by decide) ?_
            refine lv_goto (tgt := 127) hx hb dX1_holds_123 (by decide) ?_
            obtain rfl := Option.some.inj hf
            rw [hQ]; exact Ct.zret hx hb hr (by decide) hlocks hAe hP hD hS dX1_holds_127
        · have hf := if_f hf hc2
          by_cases hc3 : x104 = (3 : Int32)
          · have hf := if_t hf hc3
            refine lv_tableIn (off := 98) (tgt := 128) hx hb dX1_holds_30 (ts_in _ hc3 (by decide)) (ts_hi _ hc3 (by decide)) (ts_of _ hc3 (by decide)) (by decide) ?_
            refine lv_aload_n hx hb dX1_holds_128 rfl (lv_at hl 2 rfl) ?_
            refine lv_iload_n hx hb dX1_holds_129 rfl (lv_at hl 1 rfl) ?_
            obtain ⟨x112, hg, hf⟩ := o1_s hf
            refine Ct.callV0 (ws' := wRf g h0 h1 h2 h3 R) (As := [.int x101]) (rest := []) (st1 := [.int x112]) (c_X1_shown l g h0 h1 h2 h3 R x101 hg) (cwV 1 hts gX1_holds_X1_shown rfl rfl rfl q_X1_shown ⟨Nat.le_of_ble_eq_true rfl, Nat.le_of_ble_eq_true rfl⟩) ⟨hx, hb, hml, hown, hts⟩ hE hP hD hS hA 1 0 rfl rfl rfl rfl hl.1 rfl rfl (Nat.le_of_ble_eq_true rfl) dX1_holds_130 (fun H locs hP hD hS => ?_)
            refine lv_aload_n hx hb dX1_holds_133 rfl (lv_at hl 2 rfl) ?_
            refine lv_iload_n hx hb dX1_holds_134 rfl (lv_at hl 1 rfl) ?_
            refine lv_iconst (v := (1 : Int32)) hx hb dX1_holds_135 (by decide) ?_
            obtain ⟨x113, hg, hf⟩ := o1_s hf
            refine Ct.callV0 (ws' := wRf g h0 h1 h2 h3 R) (As := [.int x101, .int (1 : Int32)]) (rest := [.int x112]) (st1 := [.int x113, .int x112]) (c_X1_get l g h0 h1 h2 h3 R x101 (1 : Int32) hg) (cwV 2 hts gX1_holds_X1_get rfl rfl rfl q_X1_get ⟨Nat.le_of_ble_eq_true rfl, Nat.le_of_ble_eq_true rfl⟩) ⟨hx, hb, hml, hown, hts⟩ hE hP hD hS hA 1 0 rfl rfl rfl rfl hl.1 rfl rfl (Nat.le_of_ble_eq_true rfl) dX1_holds_136 (fun H locs hP hD hS => ?_)
            refine lv_icmp_ne (tgt := 146) hx hb dX1_holds_139 (by decide) (fun hc => ?_) (fun hc => ?_)
            · have hf := if_f hf hc
              refine lv_iconst (v := (0 : Int32)) hx hb dX1_holds_146 (by decide) ?_
              obtain rfl := Option.some.inj hf
              rw [hQ]; exact Ct.zret hx hb hr (by decide) hlocks hAe hP hD hS dX1_holds_147
            · have hf := if_t hf hc
              refine lv_iconst (v := (1 : Int32)) hx hb dX1_holds_142 (by decide) ?_
              refine lv_goto (tgt := 147) hx hb dX1_holds_143 (by decide) ?_
              obtain rfl := Option.some.inj hf
              rw [hQ]; exact Ct.zret hx hb hr (by decide) hlocks hAe hP hD hS dX1_holds_147
          · have hf := if_f hf hc3
            have hn0 := lv_neT (a := 0) hc0 (by decide)
            have hn1 := lv_neT (a := 1) hc1 (by decide)
            have hn2 := lv_neT (a := 2) hc2 (by decide)
            have hn3 := lv_neT (a := 3) hc3 (by decide)
            refine lv_tableOut (tgt := 148) hx hb dX1_holds_30 (by omega) (by decide) ?_
            refine lv_aload_n hx hb dX1_holds_148 rfl (lv_at hl 2 rfl) ?_
            refine lv_iload_n hx hb dX1_holds_149 rfl (lv_at hl 1 rfl) ?_
            obtain ⟨x114, hg, hf⟩ := o1_s hf
            refine Ct.callV0 (ws' := wRf g h0 h1 h2 h3 R) (As := [.int x101]) (rest := []) (st1 := [.int x114]) (c_X1_shown l g h0 h1 h2 h3 R x101 hg) (cwV 1 hts gX1_holds_X1_shown rfl rfl rfl q_X1_shown ⟨Nat.le_of_ble_eq_true rfl, Nat.le_of_ble_eq_true rfl⟩) ⟨hx, hb, hml, hown, hts⟩ hE hP hD hS hA 1 0 rfl rfl rfl rfl hl.1 rfl rfl (Nat.le_of_ble_eq_true rfl) dX1_holds_150 (fun H locs hP hD hS => ?_)
            refine lv_iload_n hx hb dX1_holds_153 rfl (lv_at hl 0 rfl) ?_
            refine lv_icmp_ge (tgt := 161) hx hb dX1_holds_154 (by decide) (fun hc => ?_) (fun hc => ?_)
            · have hf := if_t hf hc
              refine lv_iconst (v := (0 : Int32)) hx hb dX1_holds_161 (by decide) ?_
              obtain rfl := Option.some.inj hf
              rw [hQ]; exact Ct.zret hx hb hr (by decide) hlocks hAe hP hD hS dX1_holds_162
            · have hf := if_f hf hc
              refine lv_iconst (v := (1 : Int32)) hx hb dX1_holds_157 (by decide) ?_
              refine lv_goto (tgt := 162) hx hb dX1_holds_158 (by decide) ?_
              obtain rfl := Option.some.inj hf
              rw [hQ]; exact Ct.zret hx hb hr (by decide) hlocks hAe hP hD hS dX1_holds_162
  · have hf := if_t hf hc
    refine lv_iconst (v := (0 : Int32)) hx hb dX1_holds_22 (by decide) ?_
    obtain rfl := Option.some.inj hf
    rw [hQ]; exact Ct.zret hx hb hr (by decide) hlocks hAe hP hD hS dX1_holds_23
def fX1_isOpen_L2 (R : Rf) (kx : Option (Int32)) : Nat → Int32 → Option (Int32)
  | 0, _ => none
  | k + 1, x1 => if R.2.2.2.2.1 ≤ x1 then (kx) else (o1 (fX1_holds R x1) (fun x102 => if x102 = 0 then (some (0 : Int32)) else (fX1_isOpen_L2 R kx k (x1 + (1 : Int32)))))
def fX1_isOpen (R : Rf) : Option (Int32) := fX1_isOpen_L2 R (some (1 : Int32)) fu (0 : Int32)
theorem q_X1_isOpen : yX1_isOpen.cls = RX1 ∧ yX1_isOpen.cls ≠ "java/lang/invoke/MethodHandle" ∧ yX1_isOpen.cls ≠ "java/lang/invoke/VarHandle" ∧ (parseMethodDescriptor yX1_isOpen.desc).map (fun d => d.parameters.length) = some 0 := by decide +kernel
theorem i_X1_isOpen_X1 : ∀ w ∈ u_ws RX1 TX1 9, w ∈ wsX1_isOpen := fun _ h => List.mem_cons_of_mem _ (List.mem_append_right _ (h))
set_option maxHeartbeats 4000000 in
set_option maxRecDepth 100000 in
theorem c_X1_isOpen (l : Launch) (g : gG) (h0 h1 h2 h3 : Nat) (R : Rf) {r : Int32} (hf : fX1_isOpen R = some r) : Ct l yX1_isOpen wsX1_isOpen (rmm 4 91) g (wRf g h0 h1 h2 h3 R) (wRf g h0 h1 h2 h3 R) [.ref h0] (some (.int r)) := by
  refine Ct.mk (by decide) rfl (Nat.le_of_ble_eq_true rfl) ?_
  intro p e s m args below meth c A ls hx hb hr hml hts hown hlocks hA hE hP hD hS hl hAe
  obtain ⟨Qx, hQ⟩ : ∃ Qx : State → Prop, Qx = MQ below (QcG g (wRf g h0 h1 h2 h3 R) (wRf g h0 h1 h2 h3 R) (some (.int r)) s.heap.size) args s 0 0 A := ⟨_, rfl⟩
  rw [← hQ]
  have hown : s.vm.findClass RX1 = some m.cls := hown
  have hl : lv_has ls 2 [(0, .ref h0)] := hl
  have w1 := hts (.fieldLink RX1 25 "RainVault$Roof" "conditions" "I") (List.mem_of_getElem? (i := 1) rfl)
  have L2 : ∀ (kx : Option (Int32)) (k : Nat) (x1 : Int32) (H : Heap) (locs : List Loc) (ls : Array Slot), fX1_isOpen_L2 R kx k x1 = some r → va_P g.1 vwK (wRf g h0 h1 h2 h3 R) H → va_D A (wRf g h0 h1 h2 h3 R) → va_S A s.heap H locs → lv_has ls 2 [(0, .ref h0), (1, .int x1)] → (∀ (H : Heap) (locs : List Loc) (ls : Array Slot), kx = some r → va_P g.1 vwK (wRf g h0 h1 h2 h3 R) H → va_D A (wRf g h0 h1 h2 h3 R) → va_S A s.heap H locs → lv_has ls 2 [] → W p l e (rmm 4 91) s m args below meth c H locs 0 0 Qx (F0 m 26 ls [])) → W p l e (rmm 4 91) s m args below meth c H locs 0 0 Qx (F0 m 2 ls []) := by
    intro kx k
    induction k with
    | zero => intro x1 H locs ls hf; exact nomatch (show (none : Option (Int32)) = some _ from hf)
    | succ k ih =>
      intro x1 H locs ls hf hP hD hS hl hk
      rw [fX1_isOpen_L2] at hf
      refine lv_iload_n hx hb dX1_isOpen_2 rfl (lv_at hl 1 rfl) ?_
      refine lv_aload_n hx hb dX1_isOpen_3 rfl (lv_at hl 0 rfl) ?_
      refine va_get (D := g.1) (ci := 1) (v := .int R.2.2.2.2.1) (C := RX1) (T := TX1) (N := 9) hx hb hts i_X1_isOpen_X1 hown hE.1 hP 0 rfl rfl 4 (by decide) w1 (fun _ h9 => h9) rfl dX1_isOpen_4 ?_
      refine lv_icmp_ge (tgt := 26) hx hb dX1_isOpen_7 (by decide) (fun hc => ?_) (fun hc => ?_)
      · have hf := if_t hf hc
        exact hk _ _ _  hf hP hD hS (lv_sub hl [] rfl)
      · have hf := if_f hf hc
        refine lv_aload_n hx hb dX1_isOpen_10 rfl (lv_at hl 0 rfl) ?_
        refine lv_iload_n hx hb dX1_isOpen_11 rfl (lv_at hl 1 rfl) ?_
        obtain ⟨x102, hg, hf⟩ := o1_s hf
        refine Ct.callV0 (ws' := wRf g h0 h1 h2 h3 R) (As := [.int x1]) (rest := []) (st1 := [.int x102]) (c_X1_holds l g h0 h1 h2 h3 R x1 hg) (cwV 1 hts gX1_isOpen_X1_holds rfl rfl rfl q_X1_holds ⟨Nat.le_of_ble_eq_true rfl, Nat.le_of_ble_eq_true rfl⟩) ⟨hx, hb, hml, hown, hts⟩ hE hP hD hS hA 1 0 rfl rfl rfl rfl hl.1 rfl rfl (Nat.le_of_ble_eq_true rfl) dX1_isOpen_12 (fun H locs hP hD hS => ?_)
        refine lv_if_ne (tgt := 20) hx hb dX1_isOpen_15 (by decide) (fun hc => ?_) (fun hc => ?_)
        · have hf := if_f hf hc
          refine lv_iinc (v := (x1 + (1 : Int32))) (lv' := [(1, .int (x1 + (1 : Int32))), (0, .ref h0)]) hx hb dX1_isOpen_20 hl (k := 1) rfl rfl (by decide) rfl (fun ls hl => ?_)
          refine lv_goto (tgt := 2) hx hb dX1_isOpen_23 (by decide) ?_
          exact ih _ _ _ _  hf hP hD hS (lv_sub hl [1, 0] rfl) hk
        · have hf := if_t hf hc
          refine lv_iconst (v := (0 : Int32)) hx hb dX1_isOpen_18 (by decide) ?_
          obtain rfl := Option.some.inj hf
          rw [hQ]; exact Ct.zret hx hb hr (by decide) hlocks hAe hP hD hS dX1_isOpen_19
  unfold fX1_isOpen at hf
  refine lv_iconst (v := (0 : Int32)) hx hb dX1_isOpen_0 (by decide) ?_
  refine lv_istore_n (lv' := [(1, .int (0 : Int32)), (0, .ref h0)]) hx hb dX1_isOpen_1 rfl hl (by decide) rfl (fun ls hl => ?_)
  refine L2 _ _ _ _ _ _  hf hP hD hS (lv_sub hl [1, 0] rfl) (fun H locs ls hf hP hD hS hl => ?_)
  refine lv_iconst (v := (1 : Int32)) hx hb dX1_isOpen_26 (by decide) ?_
  obtain rfl := Option.some.inj hf
  rw [hQ]; exact Ct.zret hx hb hr (by decide) hlocks hAe hP hD hS dX1_isOpen_27
def fX0_nextWay_L33 (x1 : Int32) (x3 : Int32) (kx : Ca → Option (Int32 × Ca)) : Nat → Ca → Int32 → Option (Int32 × Ca)
  | 0, _, _ => none
  | k + 1, C, x4 => if x1 ≤ x4 then (kx C) else (o1 (fX6_put 4 C.2 x4 x3) (fun f104 => fX0_nextWay_L33 x1 x3 kx k (C.1, f104) (x4 + (1 : Int32))))
def fX0_nextWay_L4 (R : Rf) (x1 : Int32) (kx : Ca → Option (Int32 × Ca)) : Nat → Ca → Int32 → Option (Int32 × Ca)
  | 0, _, _ => none
  | k + 1, C, x2 => if x2 < 0 then (kx C) else (o1 (fX6_at 4 C.2 x2) (fun x106 => o1 (fX1_hasCistern R (x106 + (1 : Int32))) (fun x107 => if x107 = 0 then (fX0_nextWay_L4 R x1 kx k C (x2 + (-1 : Int32))) else (fX0_nextWay_L33 x1 (x106 + (1 : Int32)) (fun C108 => some ((1 : Int32), C108)) fu C x2))))
def fX0_nextWay (C : Ca) (R : Rf) (a1 : Int32) : Option (Int32 × Ca) := fX0_nextWay_L4 R a1 (fun C109 => some ((0 : Int32), C109)) fu C (a1 - (1 : Int32))
theorem q_X0_nextWay : yX0_nextWay.cls = RX0 ∧ yX0_nextWay.cls ≠ "java/lang/invoke/MethodHandle" ∧ yX0_nextWay.cls ≠ "java/lang/invoke/VarHandle" ∧ (parseMethodDescriptor yX0_nextWay.desc).map (fun d => d.parameters.length) = some 1 := by decide +kernel
theorem i_X0_nextWay_X0 : ∀ w ∈ u_ws RX0 TX0 3, w ∈ wsX0_nextWay := fun _ h => List.mem_cons_of_mem _ (List.mem_append_left _ (List.mem_append_right _ (h)))
set_option maxHeartbeats 4000000 in
set_option maxRecDepth 100000 in
theorem c_X0_nextWay (l : Launch) (g : gG) (c0 c1 c2 h0 h1 h2 h3 : Nat) (C : Ca) (R : Rf) (a1 : Int32) {r : Int32} {C' : Ca} (hf : fX0_nextWay C R a1 = some (r, C')) : Ct l yX0_nextWay wsX0_nextWay (rmm 1 22) g (wCa g c0 c1 c2 h0 h1 h2 h3 C R) (wCa g c0 c1 c2 h0 h1 h2 h3 (C') R) [.ref c0, .int a1] (some (.int r)) := by
  refine Ct.mk (by decide) rfl (Nat.le_of_ble_eq_true rfl) ?_
  intro p e s m args below meth c A ls hx hb hr hml hts hown hlocks hA hE hP hD hS hl hAe
  obtain ⟨Qx, hQ⟩ : ∃ Qx : State → Prop, Qx = MQ below (QcG g (wCa g c0 c1 c2 h0 h1 h2 h3 C R) (wCa g c0 c1 c2 h0 h1 h2 h3 (C') R) (some (.int r)) s.heap.size) args s 0 0 A := ⟨_, rfl⟩
  rw [← hQ]
  have hown : s.vm.findClass RX0 = some m.cls := hown
  have hl : lv_has ls 5 [(0, .ref c0), (1, .int a1)] := hl
  have w1 := hts (.fieldLink RX0 15 "RainVault$Carrier" "way" "[I") (List.mem_of_getElem? (i := 1) rfl)
  have w2 := hts (.initialized RX6) (List.mem_of_getElem? (i := 4) rfl)
  have w3 := hts (.static yX6_at) (List.mem_of_getElem? (i := 3) rfl)
  have w4 := hts (.fieldLink RX0 18 "RainVault$Carrier" "trial" "LRainVault$Roof;") (List.mem_of_getElem? (i := 2) rfl)
  have w5 := hts (.static yX6_put) (List.mem_of_getElem? (i := 12) rfl)
  have L33 : ∀ (x1 : Int32) (x3 : Int32) (kx : Ca → Option (Int32 × Ca)) (k : Nat) (C : Ca) (x4 : Int32) (H : Heap) (locs : List Loc) (ls : Array Slot), fX0_nextWay_L33 x1 x3 kx k C x4 = some (r, C') → va_P g.1 vwK (wCa g c0 c1 c2 h0 h1 h2 h3 C R) H → va_D A (wCa g c0 c1 c2 h0 h1 h2 h3 C R) → va_S A s.heap H locs → lv_has ls 5 [(0, .ref c0), (1, .int x1), (3, .int x3), (4, .int x4)] → (∀ (C : Ca) (H : Heap) (locs : List Loc) (ls : Array Slot), kx C = some (r, C') → va_P g.1 vwK (wCa g c0 c1 c2 h0 h1 h2 h3 C R) H → va_D A (wCa g c0 c1 c2 h0 h1 h2 h3 C R) → va_S A s.heap H locs → lv_has ls 5 [] → W p l e (rmm 1 22) s m args below meth c H locs 0 0 Qx (F0 m 55 ls [])) → W p l e (rmm 1 22) s m args below meth c H locs 0 0 Qx (F0 m 33 ls []) := by
    intro x1 x3 kx k
    induction k with
    | zero => intro C x4 H locs ls hf; exact nomatch (show (none : Option (Int32 × Ca)) = some _ from hf)
    | succ k ih =>
      intro C x4 H locs ls hf hP hD hS hl hk
      rw [fX0_nextWay_L33] at hf
      refine lv_iload hx hb dX0_nextWay_33 (lv_at hl 3 rfl) ?_
      refine lv_iload_n hx hb dX0_nextWay_35 rfl (lv_at hl 1 rfl) ?_
      refine lv_icmp_ge (tgt := 55) hx hb dX0_nextWay_36 (by decide) (fun hc => ?_) (fun hc => ?_)
      · have hf := if_t hf hc
        exact hk _ _ _ _  hf hP hD hS (lv_sub hl [] rfl)
      · have hf := if_f hf hc
        refine lv_aload_n hx hb dX0_nextWay_39 rfl (lv_at hl 0 rfl) ?_
        refine va_get (D := g.1) (ci := 0) (v := .ref c2) (C := RX0) (T := TX0) (N := 3) hx hb hts i_X0_nextWay_X0 hown hE.1 hP 0 rfl rfl 2 (by decide) w1 (fun _ h9 => h9) rfl dX0_nextWay_40 ?_
        refine lv_iload hx hb dX0_nextWay_43 (lv_at hl 3 rfl) ?_
        refine lv_iload_n hx hb dX0_nextWay_45 rfl (lv_at hl 2 rfl) ?_
        obtain ⟨f104, hg, hf⟩ := o1_s hf
        refine Ct.callSN (ws' := wCa g c0 c1 c2 h0 h1 h2 h3 (C.1, f104) R) (As := [.ref c2, .int x4, .int x3]) (rest := []) (st1 := []) (c_X6_put l g c2 4 C.2 x4 x3 hg) (⟨va_cnB 3 hts gX0_nextWay_X6_put_n49 rfl rfl rfl (hE.2.1 _ (List.mem_of_getElem? (i := 36) rfl)) w2 q_X6_put.2 ⟨Nat.le_of_ble_eq_true rfl, Nat.le_of_ble_eq_true rfl⟩, w5, trivial⟩) ⟨hx, hb, hml, hown, hts⟩ hE hP hD hS hA [2] rfl rfl rfl rfl rfl hl.1 rfl rfl (Nat.le_of_ble_eq_true rfl) dX0_nextWay_46 (fun H locs hP hD hS => ?_)
        refine lv_iinc (v := (x4 + (1 : Int32))) (lv' := [(4, .int (x4 + (1 : Int32))), (0, .ref c0), (1, .int x1), (3, .int x3)]) hx hb dX0_nextWay_49 hl (k := 3) rfl rfl (by decide) rfl (fun ls hl => ?_)
        refine lv_goto (tgt := 33) hx hb dX0_nextWay_52 (by decide) ?_
        exact ih _ _ _ _ _  hf hP hD hS (lv_sub hl [1, 2, 3, 0] rfl) hk
  have L4 : ∀ (x1 : Int32) (kx : Ca → Option (Int32 × Ca)) (k : Nat) (C : Ca) (x2 : Int32) (H : Heap) (locs : List Loc) (ls : Array Slot), fX0_nextWay_L4 R x1 kx k C x2 = some (r, C') → va_P g.1 vwK (wCa g c0 c1 c2 h0 h1 h2 h3 C R) H → va_D A (wCa g c0 c1 c2 h0 h1 h2 h3 C R) → va_S A s.heap H locs → lv_has ls 5 [(0, .ref c0), (1, .int x1), (2, .int x2)] → (∀ (C : Ca) (H : Heap) (locs : List Loc) (ls : Array Slot), kx C = some (r, C') → va_P g.1 vwK (wCa g c0 c1 c2 h0 h1 h2 h3 C R) H → va_D A (wCa g c0 c1 c2 h0 h1 h2 h3 C R) → va_S A s.heap H locs → lv_has ls 5 [] → W p l e (rmm 1 22) s m args below meth c H locs 0 0 Qx (F0 m 63 ls [])) → W p l e (rmm 1 22) s m args below meth c H locs 0 0 Qx (F0 m 4 ls []) := by
    intro x1 kx k
    induction k with
    | zero => intro C x2 H locs ls hf; exact nomatch (show (none : Option (Int32 × Ca)) = some _ from hf)
    | succ k ih =>
      intro C x2 H locs ls hf hP hD hS hl hk
      rw [fX0_nextWay_L4] at hf
      refine lv_iload_n hx hb dX0_nextWay_4 rfl (lv_at hl 2 rfl) ?_
      refine lv_if_lt (tgt := 63) hx hb dX0_nextWay_5 (by decide) (fun hc => ?_) (fun hc => ?_)
      · have hf := if_t hf hc
        exact hk _ _ _ _  hf hP hD hS (lv_sub hl [] rfl)
      · have hf := if_f hf hc
        refine lv_aload_n hx hb dX0_nextWay_8 rfl (lv_at hl 0 rfl) ?_
        refine va_get (D := g.1) (ci := 0) (v := .ref c2) (C := RX0) (T := TX0) (N := 3) hx hb hts i_X0_nextWay_X0 hown hE.1 hP 0 rfl rfl 2 (by decide) w1 (fun _ h9 => h9) rfl dX0_nextWay_9 ?_
        refine lv_iload_n hx hb dX0_nextWay_12 rfl (lv_at hl 2 rfl) ?_
        obtain ⟨x106, hg, hf⟩ := o1_s hf
        refine Ct.callSN (ws' := wCa g c0 c1 c2 h0 h1 h2 h3 C R) (As := [.ref c2, .int x2]) (rest := []) (st1 := [.int x106]) (c_X6_at l g c2 4 C.2 x2 hg) (⟨va_cnB 2 hts gX0_nextWay_X6_at_n42 rfl rfl rfl (hE.2.1 _ (List.mem_of_getElem? (i := 35) rfl)) w2 q_X6_at.2 ⟨Nat.le_of_ble_eq_true rfl, Nat.le_of_ble_eq_true rfl⟩, w3, trivial⟩) ⟨hx, hb, hml, hown, hts⟩ hE hP hD hS hA [2] rfl rfl rfl rfl rfl hl.1 rfl rfl (Nat.le_of_ble_eq_true rfl) dX0_nextWay_13 (fun H locs hP hD hS => ?_)
        refine lv_iconst (v := (1 : Int32)) hx hb dX0_nextWay_16 (by decide) ?_
        refine lv_iadd hx hb dX0_nextWay_17 ?_
        refine lv_istore_n (lv' := [(3, .int (x106 + (1 : Int32))), (0, .ref c0), (1, .int x1), (2, .int x2)]) hx hb dX0_nextWay_18 rfl hl (by decide) rfl (fun ls hl => ?_)
        refine lv_aload_n hx hb dX0_nextWay_19 rfl (lv_at hl 1 rfl) ?_
        refine va_get (D := g.1) (ci := 0) (v := .ref h0) (C := RX0) (T := TX0) (N := 3) hx hb hts i_X0_nextWay_X0 hown hE.1 hP 0 rfl rfl 0 (by decide) w4 (fun _ h9 => h9) rfl dX0_nextWay_20 ?_
        refine lv_iload_n hx hb dX0_nextWay_23 rfl (lv_at hl 0 rfl) ?_
        obtain ⟨x107, hg, hf⟩ := o1_s hf
        refine Ct.callV (ws' := wCa g c0 c1 c2 h0 h1 h2 h3 C R) (As := [.int (x106 + (1 : Int32))]) (rest := []) (st1 := [.int x107]) (c_X1_hasCistern l g h0 h1 h2 h3 R (x106 + (1 : Int32)) hg) (cwV 1 hts gX0_nextWay_X1_hasCistern rfl rfl rfl q_X1_hasCistern ⟨Nat.le_of_ble_eq_true rfl, Nat.le_of_ble_eq_true rfl⟩) ⟨hx, hb, hml, hown, hts⟩ hE hP hD hS hA [3, 4, 5, 6] rfl rfl rfl rfl 1 3 rfl rfl rfl rfl hl.1 rfl rfl (Nat.le_of_ble_eq_true rfl) dX0_nextWay_24 (fun H locs hP hD hS => ?_)
        refine lv_if_eq (tgt := 57) hx hb dX0_nextWay_27 (by decide) (fun hc => ?_) (fun hc => ?_)
        · have hf := if_t hf hc
          refine lv_iinc (v := (x2 + (-1 : Int32))) (lv' := [(2, .int (x2 + (-1 : Int32))), (3, .int (x106 + (1 : Int32))), (0, .ref c0), (1, .int x1)]) hx hb dX0_nextWay_57 hl (k := 3) rfl rfl (by decide) rfl (fun ls hl => ?_)
          refine lv_goto (tgt := 4) hx hb dX0_nextWay_60 (by decide) ?_
          exact ih _ _ _ _ _  hf hP hD hS (lv_sub hl [2, 3, 0] rfl) hk
        · have hf := if_f hf hc
          refine lv_iload_n hx hb dX0_nextWay_30 rfl (lv_at hl 3 rfl) ?_
          refine lv_istore (lv' := [(4, .int x2), (3, .int (x106 + (1 : Int32))), (0, .ref c0), (1, .int x1), (2, .int x2)]) hx hb dX0_nextWay_31 hl (by decide) rfl (fun ls hl => ?_)
          refine L33 _ _ _ _ _ _ _ _ _  hf hP hD hS (lv_sub hl [2, 3, 1, 0] rfl) (fun C108 H locs ls hf hP hD hS hl => ?_)
          refine lv_iconst (v := (1 : Int32)) hx hb dX0_nextWay_55 (by decide) ?_
          obtain ⟨rfl, rfl⟩ := some_p2 hf
          rw [hQ]; exact Ct.zret hx hb hr (by decide) hlocks hAe hP hD hS dX0_nextWay_56
  unfold fX0_nextWay at hf
  refine lv_iload_n hx hb dX0_nextWay_0 rfl (lv_at hl 1 rfl) ?_
  refine lv_iconst (v := (1 : Int32)) hx hb dX0_nextWay_1 (by decide) ?_
  refine lv_isub hx hb dX0_nextWay_2 ?_
  refine lv_istore_n (lv' := [(2, .int (a1 - (1 : Int32))), (0, .ref c0), (1, .int a1)]) hx hb dX0_nextWay_3 rfl hl (by decide) rfl (fun ls hl => ?_)
  refine L4 _ _ _ _ _ _ _ _  hf hP hD hS (lv_sub hl [1, 2, 0] rfl) (fun C109 H locs ls hf hP hD hS hl => ?_)
  refine lv_iconst (v := (0 : Int32)) hx hb dX0_nextWay_63 (by decide) ?_
  obtain ⟨rfl, rfl⟩ := some_p2 hf
  rw [hQ]; exact Ct.zret hx hb hr (by decide) hlocks hAe hP hD hS dX0_nextWay_64
def fX0_fewest_L27 (x1 : Int32) (kx : Ca → Rf → Option (Int32 × Ca × Rf)) : Nat → Ca → Rf → Int32 → Int32 → Option (Int32 × Ca × Rf)
  | 0, _, _, _, _ => none
  | k + 1, C, R, x2, x3 => if (1000 : Int32) ≤ x3 then (kx C R) else (if x2 = 0 then (kx C R) else (o2 (fX0_carryOnTrial C R x1) (fun x110 R111 => if x110 = 0 then (o2 (fX0_nextWay C R111 x1) (fun x112 C113 => fX0_fewest_L27 x1 kx k C113 R111 x112 (x3 + (1 : Int32)))) else (o1 (fX1_isOpen R111) (fun x114 => if x114 = 0 then (o2 (fX0_nextWay C R111 x1) (fun x115 C116 => fX0_fewest_L27 x1 kx k C116 R111 x115 (x3 + (1 : Int32)))) else (some (x1, C, R111)))))))
def fX0_fewest_L14 (kx : Ca → Rf → Option (Int32 × Ca × Rf)) : Nat → Ca → Rf → Int32 → Option (Int32 × Ca × Rf)
  | 0, _, _, _ => none
  | k + 1, C, R, x1 => if (4 : Int32) < x1 then (kx C R) else (o1 (fX0_beginWays C) (fun C119 => fX0_fewest_L27 x1 (fun C120 R121 => fX0_fewest_L14 kx k C120 R121 (x1 + (1 : Int32))) fu C119 R (1 : Int32) (0 : Int32)))
def fX0_fewest (C : Ca) (R : Rf) : Option (Int32 × Ca × Rf) := o1 (fX1_keepLevels R 8 C.1 (0 : Int32)) (fun f101 => fX0_fewest_L14 (fun C122 R123 => some ((-1 : Int32), C122, R123)) fu (f101, C.2) R (0 : Int32))
theorem q_X0_fewest : yX0_fewest.cls = RX0 ∧ yX0_fewest.cls ≠ "java/lang/invoke/MethodHandle" ∧ yX0_fewest.cls ≠ "java/lang/invoke/VarHandle" ∧ (parseMethodDescriptor yX0_fewest.desc).map (fun d => d.parameters.length) = some 0 := by decide +kernel
theorem i_X0_fewest_X0 : ∀ w ∈ u_ws RX0 TX0 3, w ∈ wsX0_fewest := fun _ h => List.mem_cons_of_mem _ (List.mem_append_left _ (List.mem_append_right _ (h)))
set_option maxHeartbeats 4000000 in
set_option maxRecDepth 100000 in
theorem c_X0_fewest (l : Launch) (g : gG) (c0 c1 c2 h0 h1 h2 h3 : Nat) (C : Ca) (R : Rf) {r : Int32} {C' : Ca} {R' : Rf} (hf : fX0_fewest C R = some (r, C', R')) : Ct l yX0_fewest wsX0_fewest (rmm 5 112) g (wCa g c0 c1 c2 h0 h1 h2 h3 C R) (wCa g c0 c1 c2 h0 h1 h2 h3 (C') (R')) [.ref c0] (some (.int r)) := by
  refine Ct.mk (by decide) rfl (Nat.le_of_ble_eq_true rfl) ?_
  intro p e s m args below meth c A ls hx hb hr hml hts hown hlocks hA hE hP hD hS hl hAe
  obtain ⟨Qx, hQ⟩ : ∃ Qx : State → Prop, Qx = MQ below (QcG g (wCa g c0 c1 c2 h0 h1 h2 h3 C R) (wCa g c0 c1 c2 h0 h1 h2 h3 (C') (R')) (some (.int r)) s.heap.size) args s 0 0 A := ⟨_, rfl⟩
  rw [← hQ]
  have hown : s.vm.findClass RX0 = some m.cls := hown
  have hl : lv_has ls 4 [(0, .ref c0)] := hl
  have w1 := hts (.fieldLink RX0 18 "RainVault$Carrier" "trial" "LRainVault$Roof;") (List.mem_of_getElem? (i := 1) rfl)
  have w2 := hts (.fieldLink RX0 9 "RainVault$Carrier" "levels" "[I") (List.mem_of_getElem? (i := 2) rfl)
  have L27 : ∀ (x1 : Int32) (kx : Ca → Rf → Option (Int32 × Ca × Rf)) (k : Nat) (C : Ca) (R : Rf) (x2 : Int32) (x3 : Int32) (H : Heap) (locs : List Loc) (ls : Array Slot), fX0_fewest_L27 x1 kx k C R x2 x3 = some (r, C', R') → va_P g.1 vwK (wCa g c0 c1 c2 h0 h1 h2 h3 C R) H → va_D A (wCa g c0 c1 c2 h0 h1 h2 h3 C R) → va_S A s.heap H locs → lv_has ls 4 [(0, .ref c0), (1, .int x1), (2, .int x2), (3, .int x3)] → (∀ (C : Ca) (R : Rf) (H : Heap) (locs : List Loc) (ls : Array Slot), kx C R = some (r, C', R') → va_P g.1 vwK (wCa g c0 c1 c2 h0 h1 h2 h3 C R) H → va_D A (wCa g c0 c1 c2 h0 h1 h2 h3 C R) → va_S A s.heap H locs → lv_has ls 4 [(0, .ref c0), (1, .int x1)] → W p l e (rmm 5 112) s m args below meth c H locs 0 0 Qx (F0 m 70 ls [])) → W p l e (rmm 5 112) s m args below meth c H locs 0 0 Qx (F0 m 27 ls []) := by
    intro x1 kx k
    induction k with
    | zero => intro C R x2 x3 H locs ls hf; exact nomatch (show (none : Option (Int32 × Ca × Rf)) = some _ from hf)
    | succ k ih =>
      intro C R x2 x3 H locs ls hf hP hD hS hl hk
      rw [fX0_fewest_L27] at hf
      refine lv_iload_n hx hb dX0_fewest_27 rfl (lv_at hl 3 rfl) ?_
      refine lv_sipush (v := (1000 : Int32)) hx hb dX0_fewest_28 (by decide) ?_
      refine lv_icmp_ge (tgt := 70) hx hb dX0_fewest_31 (by decide) (fun hc => ?_) (fun hc => ?_)
      · have hf := if_t hf hc
        exact hk _ _ _ _ _  hf hP hD hS (lv_sub hl [0, 1] rfl)
      · have hf := if_f hf hc
        refine lv_iload_n hx hb dX0_fewest_34 rfl (lv_at hl 2 rfl) ?_
        refine lv_if_eq (tgt := 70) hx hb dX0_fewest_35 (by decide) (fun hc => ?_) (fun hc => ?_)
        · have hf := if_t hf hc
          exact hk _ _ _ _ _  hf hP hD hS (lv_sub hl [0, 1] rfl)
        · have hf := if_f hf hc
          refine lv_aload_n hx hb dX0_fewest_38 rfl (lv_at hl 0 rfl) ?_
          refine lv_iload_n hx hb dX0_fewest_39 rfl (lv_at hl 1 rfl) ?_
          obtain ⟨x110, R111, hg, hf⟩ := o2_s hf
          refine Ct.callV0 (ws' := wCa g c0 c1 c2 h0 h1 h2 h3 C R111) (As := [.int x1]) (rest := []) (st1 := [.int x110]) (c_X0_carryOnTrial l g c0 c1 c2 h0 h1 h2 h3 C R x1 hg) (cwV 1 hts gX0_fewest_X0_carryOnTrial rfl rfl rfl q_X0_carryOnTrial ⟨Nat.le_of_ble_eq_true rfl, Nat.le_of_ble_eq_true rfl⟩) ⟨hx, hb, hml, hown, hts⟩ hE hP hD hS hA 0 0 rfl rfl rfl rfl hl.1 rfl rfl (Nat.le_of_ble_eq_true rfl) dX0_fewest_40 (fun H locs hP hD hS => ?_)
          refine lv_if_eq (tgt := 58) hx hb dX0_fewest_43 (by decide) (fun hc => ?_) (fun hc => ?_)
          · have hf := if_t hf hc
            refine lv_aload_n hx hb dX0_fewest_58 rfl (lv_at hl 0 rfl) ?_
            refine lv_iload_n hx hb dX0_fewest_59 rfl (lv_at hl 1 rfl) ?_
            obtain ⟨x112, C113, hg, hf⟩ := o2_s hf
            refine Ct.callV0 (ws' := wCa g c0 c1 c2 h0 h1 h2 h3 C113 R111) (As := [.int x1]) (rest := []) (st1 := [.int x112]) (c_X0_nextWay l g c0 c1 c2 h0 h1 h2 h3 C R111 x1 hg) (cwV 1 hts gX0_fewest_X0_nextWay rfl rfl rfl q_X0_nextWay ⟨Nat.le_of_ble_eq_true rfl, Nat.le_of_ble_eq_true rfl⟩) ⟨hx, hb, hml, hown, hts⟩ hE hP hD hS hA 0 0 rfl rfl rfl rfl hl.1 rfl rfl (Nat.le_of_ble_eq_true rfl) dX0_fewest_60 (fun H locs hP hD hS => ?_)
            refine lv_istore_n (lv' := [(2, .int x112), (0, .ref c0), (1, .int x1), (3, .int x3)]) hx hb dX0_fewest_63 rfl hl (by decide) rfl (fun ls hl => ?_)
            refine lv_iinc (v := (x3 + (1 : Int32))) (lv' := [(3, .int (x3 + (1 : Int32))), (2, .int x112), (0, .ref c0), (1, .int x1)]) hx hb dX0_fewest_64 hl (k := 3) rfl rfl (by decide) rfl (fun ls hl => ?_)
            refine lv_goto (tgt := 27) hx hb dX0_fewest_67 (by decide) ?_
            exact ih _ _ _ _ _ _ _  hf hP hD hS (lv_sub hl [2, 3, 1, 0] rfl) hk
          · have hf := if_f hf hc
            refine lv_aload_n hx hb dX0_fewest_46 rfl (lv_at hl 0 rfl) ?_
            refine va_get (D := g.1) (ci := 0) (v := .ref h0) (C := RX0) (T := TX0) (N := 3) hx hb hts i_X0_fewest_X0 hown hE.1 hP 0 rfl rfl 0 (by decide) w1 (fun _ h9 => h9) rfl dX0_fewest_47 ?_
            obtain ⟨x114, hg, hf⟩ := o1_s hf
            refine Ct.callV (ws' := wCa g c0 c1 c2 h0 h1 h2 h3 C R111) (As := []) (rest := []) (st1 := [.int x114]) (c_X1_isOpen l g h0 h1 h2 h3 R111 hg) (cwV 0 hts gX0_fewest_X1_isOpen rfl rfl rfl q_X1_isOpen ⟨Nat.le_of_ble_eq_true rfl, Nat.le_of_ble_eq_true rfl⟩) ⟨hx, hb, hml, hown, hts⟩ hE hP hD hS hA [3, 4, 5, 6] rfl rfl rfl rfl 1 3 rfl rfl rfl rfl hl.1 rfl rfl (Nat.le_of_ble_eq_true rfl) dX0_fewest_50 (fun H locs hP hD hS => ?_)
            refine lv_if_eq (tgt := 58) hx hb dX0_fewest_53 (by decide) (fun hc => ?_) (fun hc => ?_)
            · have hf := if_t hf hc
              refine lv_aload_n hx hb dX0_fewest_58 rfl (lv_at hl 0 rfl) ?_
              refine lv_iload_n hx hb dX0_fewest_59 rfl (lv_at hl 1 rfl) ?_
              obtain ⟨x115, C116, hg, hf⟩ := o2_s hf
              refine Ct.callV0 (ws' := wCa g c0 c1 c2 h0 h1 h2 h3 C116 R111) (As := [.int x1]) (rest := []) (st1 := [.int x115]) (c_X0_nextWay l g c0 c1 c2 h0 h1 h2 h3 C R111 x1 hg) (cwV 1 hts gX0_fewest_X0_nextWay rfl rfl rfl q_X0_nextWay ⟨Nat.le_of_ble_eq_true rfl, Nat.le_of_ble_eq_true rfl⟩) ⟨hx, hb, hml, hown, hts⟩ hE hP hD hS hA 0 0 rfl rfl rfl rfl hl.1 rfl rfl (Nat.le_of_ble_eq_true rfl) dX0_fewest_60 (fun H locs hP hD hS => ?_)
              refine lv_istore_n (lv' := [(2, .int x115), (0, .ref c0), (1, .int x1), (3, .int x3)]) hx hb dX0_fewest_63 rfl hl (by decide) rfl (fun ls hl => ?_)
              refine lv_iinc (v := (x3 + (1 : Int32))) (lv' := [(3, .int (x3 + (1 : Int32))), (2, .int x115), (0, .ref c0), (1, .int x1)]) hx hb dX0_fewest_64 hl (k := 3) rfl rfl (by decide) rfl (fun ls hl => ?_)
              refine lv_goto (tgt := 27) hx hb dX0_fewest_67 (by decide) ?_
              exact ih _ _ _ _ _ _ _  hf hP hD hS (lv_sub hl [2, 3, 1, 0] rfl) hk
            · have hf := if_f hf hc
              refine lv_iload_n hx hb dX0_fewest_56 rfl (lv_at hl 1 rfl) ?_
              obtain ⟨rfl, rfl, rfl⟩ := some_p3 hf
              rw [hQ]; exact Ct.iret hx hb hr hlocks hAe hP hD hS dX0_fewest_57
  have L14 : ∀ (kx : Ca → Rf → Option (Int32 × Ca × Rf)) (k : Nat) (C : Ca) (R : Rf) (x1 : Int32) (H : Heap) (locs : List Loc) (ls : Array Slot), fX0_fewest_L14 kx k C R x1 = some (r, C', R') → va_P g.1 vwK (wCa g c0 c1 c2 h0 h1 h2 h3 C R) H → va_D A (wCa g c0 c1 c2 h0 h1 h2 h3 C R) → va_S A s.heap H locs → lv_has ls 4 [(0, .ref c0), (1, .int x1)] → (∀ (C : Ca) (R : Rf) (H : Heap) (locs : List Loc) (ls : Array Slot), kx C R = some (r, C', R') → va_P g.1 vwK (wCa g c0 c1 c2 h0 h1 h2 h3 C R) H → va_D A (wCa g c0 c1 c2 h0 h1 h2 h3 C R) → va_S A s.heap H locs → lv_has ls 4 [] → W p l e (rmm 5 112) s m args below meth c H locs 0 0 Qx (F0 m 76 ls [])) → W p l e (rmm 5 112) s m args below meth c H locs 0 0 Qx (F0 m 14 ls []) := by
    intro kx k
    induction k with
    | zero => intro C R x1 H locs ls hf; exact nomatch (show (none : Option (Int32 × Ca × Rf)) = some _ from hf)
    | succ k ih =>
      intro C R x1 H locs ls hf hP hD hS hl hk
      rw [fX0_fewest_L14] at hf
      refine lv_iload_n hx hb dX0_fewest_14 rfl (lv_at hl 1 rfl) ?_
      refine lv_iconst (v := (4 : Int32)) hx hb dX0_fewest_15 (by decide) ?_
      refine lv_icmp_gt (tgt := 76) hx hb dX0_fewest_16 (by decide) (fun hc => ?_) (fun hc => ?_)
      · have hf := if_t hf hc
        exact hk _ _ _ _ _  hf hP hD hS (lv_sub hl [] rfl)
      · have hf := if_f hf hc
        refine lv_iconst (v := (1 : Int32)) hx hb dX0_fewest_19 (by decide) ?_
        refine lv_istore_n (lv' := [(2, .int (1 : Int32)), (0, .ref c0), (1, .int x1)]) hx hb dX0_fewest_20 rfl hl (by decide) rfl (fun ls hl => ?_)
        refine lv_aload_n hx hb dX0_fewest_21 rfl (lv_at hl 1 rfl) ?_
        obtain ⟨C119, hg, hf⟩ := o1_s hf
        refine Ct.callV0 (ws' := wCa g c0 c1 c2 h0 h1 h2 h3 C119 R) (As := []) (rest := []) (st1 := []) (c_X0_beginWays l g c0 c1 c2 h0 h1 h2 h3 C R hg) (cwV 0 hts gX0_fewest_X0_beginWays rfl rfl rfl q_X0_beginWays ⟨Nat.le_of_ble_eq_true rfl, Nat.le_of_ble_eq_true rfl⟩) ⟨hx, hb, hml, hown, hts⟩ hE hP hD hS hA 0 0 rfl rfl rfl rfl hl.1 rfl rfl (Nat.le_of_ble_eq_true rfl) dX0_fewest_22 (fun H locs hP hD hS => ?_)
        refine lv_iconst (v := (0 : Int32)) hx hb dX0_fewest_25 (by decide) ?_
        refine lv_istore_n (lv' := [(3, .int (0 : Int32)), (2, .int (1 : Int32)), (0, .ref c0), (1, .int x1)]) hx hb dX0_fewest_26 rfl hl (by decide) rfl (fun ls hl => ?_)
        refine L27 _ _ _ _ _ _ _ _ _ _  hf hP hD hS (lv_sub hl [2, 3, 1, 0] rfl) (fun C120 R121 H locs ls hf hP hD hS hl => ?_)
        refine lv_iinc (v := (x1 + (1 : Int32))) (lv' := [(1, .int (x1 + (1 : Int32))), (0, .ref c0)]) hx hb dX0_fewest_70 hl (k := 1) rfl rfl (by decide) rfl (fun ls hl => ?_)
        refine lv_goto (tgt := 14) hx hb dX0_fewest_73 (by decide) ?_
        exact ih _ _ _ _ _ _  hf hP hD hS (lv_sub hl [1, 0] rfl) hk
  unfold fX0_fewest at hf
  refine lv_aload_n hx hb dX0_fewest_0 rfl (lv_at hl 0 rfl) ?_
  refine va_get (D := g.1) (ci := 0) (v := .ref h0) (C := RX0) (T := TX0) (N := 3) hx hb hts i_X0_fewest_X0 hown hE.1 hP 0 rfl rfl 0 (by decide) w1 (fun _ h9 => h9) rfl dX0_fewest_1 ?_
  refine lv_aload_n hx hb dX0_fewest_4 rfl (lv_at hl 0 rfl) ?_
  refine va_get (D := g.1) (ci := 0) (v := .ref c1) (C := RX0) (T := TX0) (N := 3) hx hb hts i_X0_fewest_X0 hown hE.1 hP 0 rfl rfl 1 (by decide) w2 (fun _ h9 => h9) rfl dX0_fewest_5 ?_
  refine lv_iconst (v := (0 : Int32)) hx hb dX0_fewest_8 (by decide) ?_
  obtain ⟨f101, hg, hf⟩ := o1_s hf
  refine Ct.callV (ws' := wCa g c0 c1 c2 h0 h1 h2 h3 (f101, C.2) R) (As := [.ref c1, .int (0 : Int32)]) (rest := []) (st1 := []) (c_X1_keepLevels l g h0 h1 h2 h3 c1 R 8 C.1 (0 : Int32) hg) (cwV 2 hts gX0_fewest_X1_keepLevels rfl rfl rfl q_X1_keepLevels ⟨Nat.le_of_ble_eq_true rfl, Nat.le_of_ble_eq_true rfl⟩) ⟨hx, hb, hml, hown, hts⟩ hE hP hD hS hA [3, 4, 5, 6, 1] rfl rfl rfl rfl 1 3 rfl rfl rfl rfl hl.1 rfl rfl (Nat.le_of_ble_eq_true rfl) dX0_fewest_9 (fun H locs hP hD hS => ?_)
  refine lv_iconst (v := (0 : Int32)) hx hb dX0_fewest_12 (by decide) ?_
  refine lv_istore_n (lv' := [(1, .int (0 : Int32)), (0, .ref c0)]) hx hb dX0_fewest_13 rfl hl (by decide) rfl (fun ls hl => ?_)
  refine L14 _ _ _ _ _ _ _ _  hf hP hD hS (lv_sub hl [1, 0] rfl) (fun C122 R123 H locs ls hf hP hD hS hl => ?_)
  refine lv_iconst (v := (-1 : Int32)) hx hb dX0_fewest_76 (by decide) ?_
  obtain ⟨rfl, rfl, rfl⟩ := some_p3 hf
  rw [hQ]; exact Ct.iret hx hb hr hlocks hAe hP hD hS dX0_fewest_77
def fX1_become (R : Rf) (N : Rf) : Option (Rf) := o1 (fX6_copyRow 88 N.1) (fun f2101 => o1 (fX6_copyRow 24 N.2.1) (fun f2102 => o1 (fX6_copyRow 10 N.2.2.1) (fun f2103 => nb N.2.2.2.2.2.1 (some (f2101, f2102, f2103, N.2.2.2.1, N.2.2.2.2.1, N.2.2.2.2.2.1, N.2.2.2.2.2.2.1, N.2.2.2.2.2.2.2.1, N.2.2.2.2.2.2.2.2)))))
theorem q_X1_become : yX1_become.cls = RX1 ∧ yX1_become.cls ≠ "java/lang/invoke/MethodHandle" ∧ yX1_become.cls ≠ "java/lang/invoke/VarHandle" ∧ (parseMethodDescriptor yX1_become.desc).map (fun d => d.parameters.length) = some 1 := by decide +kernel
theorem i_X1_become_X1 : ∀ w ∈ u_ws RX1 TX1 9, w ∈ wsX1_become := fun _ h => List.mem_cons_of_mem _ (List.mem_append_right _ (h))
set_option maxHeartbeats 4000000 in
set_option maxRecDepth 100000 in
theorem c_X1_become (l : Launch) (g : gG) (h0 h1 h2 h3 i0 i1 i2 i3 : Nat) (R : Rf) (N : Rf) {R' : Rf} (hf : fX1_become R N = some R') : Ct l yX1_become wsX1_become (rmm 2 81) g (wRf2 g h0 h1 h2 h3 i0 i1 i2 i3 R N) (wRf2 g h0 h1 h2 h3 i0 i1 i2 i3 (R') N) [.ref h0, .ref i0] none := by
  refine Ct.mk (by decide) rfl (Nat.le_of_ble_eq_true rfl) ?_
  intro p e s m args below meth c A ls hx hb hr hml hts hown hlocks hA hE hP hD hS hl hAe
  obtain ⟨Qx, hQ⟩ : ∃ Qx : State → Prop, Qx = MQ below (QcG g (wRf2 g h0 h1 h2 h3 i0 i1 i2 i3 R N) (wRf2 g h0 h1 h2 h3 i0 i1 i2 i3 (R') N) none s.heap.size) args s 0 0 A := ⟨_, rfl⟩
  rw [← hQ]
  have hown : s.vm.findClass RX1 = some m.cls := hown
  have hl : lv_has ls 2 [(0, .ref h0), (1, .ref i0)] := hl
  have w1 := hts (.fieldLink RX1 9 "RainVault$Roof" "facts" "[I") (List.mem_of_getElem? (i := 1) rfl)
  have w2 := hts (.initialized RX6) (List.mem_of_getElem? (i := 11) rfl)
  have w3 := hts (.static yX6_copyRow) (List.mem_of_getElem? (i := 10) rfl)
  have w4 := hts (.fieldLink RX1 15 "RainVault$Roof" "conditionFacts" "[I") (List.mem_of_getElem? (i := 2) rfl)
  have w5 := hts (.fieldLink RX1 18 "RainVault$Roof" "spots" "[I") (List.mem_of_getElem? (i := 3) rfl)
  have w6 := hts (.fieldLink RX1 21 "RainVault$Roof" "cisterns" "I") (List.mem_of_getElem? (i := 4) rfl)
  have w7 := hts (.fieldLink RX1 25 "RainVault$Roof" "conditions" "I") (List.mem_of_getElem? (i := 5) rfl)
  have w8 := hts (.fieldLink RX1 28 "RainVault$Roof" "isCold" "Z") (List.mem_of_getElem? (i := 6) rfl)
  have w9 := hts (.fieldLink RX1 32 "RainVault$Roof" "hour" "I") (List.mem_of_getElem? (i := 7) rfl)
  have w10 := hts (.fieldLink RX1 35 "RainVault$Roof" "ranOff" "I") (List.mem_of_getElem? (i := 8) rfl)
  have w11 := hts (.fieldLink RX1 38 "RainVault$Roof" "z" "I") (List.mem_of_getElem? (i := 9) rfl)
  unfold fX1_become at hf
  refine lv_aload_n hx hb dX1_become_0 rfl (lv_at hl 1 rfl) ?_
  refine va_get (D := g.1) (ci := 1) (v := .ref i1) (C := RX1) (T := TX1) (N := 9) hx hb hts i_X1_become_X1 hown hE.1 hP 4 rfl rfl 0 (by decide) w1 (fun _ h9 => h9) rfl dX1_become_1 ?_
  refine lv_aload_n hx hb dX1_become_4 rfl (lv_at hl 0 rfl) ?_
  refine va_get (D := g.1) (ci := 1) (v := .ref h1) (C := RX1) (T := TX1) (N := 9) hx hb hts i_X1_become_X1 hown hE.1 hP 0 rfl rfl 0 (by decide) w1 (fun _ h9 => h9) rfl dX1_become_5 ?_
  obtain ⟨f2101, hg, hf⟩ := o1_s hf
  refine Ct.callSN (ws' := wRf2 g h0 h1 h2 h3 i0 i1 i2 i3 (f2101, R.2.1, R.2.2.1, R.2.2.2.1, R.2.2.2.2.1, R.2.2.2.2.2.1, R.2.2.2.2.2.2.1, R.2.2.2.2.2.2.2.1, R.2.2.2.2.2.2.2.2) N) (As := [.ref i1, .ref h1]) (rest := []) (st1 := []) (c_X6_copyRow l g i1 h1 88 N.1 R.1 hg) (⟨va_cnB 2 hts gX1_become_X6_copyRow_n41 rfl rfl rfl (hE.2.1 _ (List.mem_of_getElem? (i := 30) rfl)) w2 q_X6_copyRow.2 ⟨Nat.le_of_ble_eq_true rfl, Nat.le_of_ble_eq_true rfl⟩, w3, trivial⟩) ⟨hx, hb, hml, hown, hts⟩ hE hP hD hS hA [5, 1] rfl rfl rfl rfl rfl hl.1 rfl rfl (Nat.le_of_ble_eq_true rfl) dX1_become_8 (fun H locs hP hD hS => ?_)
  refine lv_aload_n hx hb dX1_become_11 rfl (lv_at hl 1 rfl) ?_
  refine va_get (D := g.1) (ci := 1) (v := .ref i2) (C := RX1) (T := TX1) (N := 9) hx hb hts i_X1_become_X1 hown hE.1 hP 4 rfl rfl 1 (by decide) w4 (fun _ h9 => h9) rfl dX1_become_12 ?_
  refine lv_aload_n hx hb dX1_become_15 rfl (lv_at hl 0 rfl) ?_
  refine va_get (D := g.1) (ci := 1) (v := .ref h2) (C := RX1) (T := TX1) (N := 9) hx hb hts i_X1_become_X1 hown hE.1 hP 0 rfl rfl 1 (by decide) w4 (fun _ h9 => h9) rfl dX1_become_16 ?_
  obtain ⟨f2102, hg, hf⟩ := o1_s hf
  refine Ct.callSN (ws' := wRf2 g h0 h1 h2 h3 i0 i1 i2 i3 (f2101, f2102, R.2.2.1, R.2.2.2.1, R.2.2.2.2.1, R.2.2.2.2.2.1, R.2.2.2.2.2.2.1, R.2.2.2.2.2.2.2.1, R.2.2.2.2.2.2.2.2) N) (As := [.ref i2, .ref h2]) (rest := []) (st1 := []) (c_X6_copyRow l g i2 h2 24 N.2.1 R.2.1 hg) (⟨va_cnB 2 hts gX1_become_X6_copyRow_n41 rfl rfl rfl (hE.2.1 _ (List.mem_of_getElem? (i := 30) rfl)) w2 q_X6_copyRow.2 ⟨Nat.le_of_ble_eq_true rfl, Nat.le_of_ble_eq_true rfl⟩, w3, trivial⟩) ⟨hx, hb, hml, hown, hts⟩ hE hP hD hS hA [6, 2] rfl rfl rfl rfl rfl hl.1 rfl rfl (Nat.le_of_ble_eq_true rfl) dX1_become_19 (fun H locs hP hD hS => ?_)
  refine lv_aload_n hx hb dX1_become_22 rfl (lv_at hl 1 rfl) ?_
  refine va_get (D := g.1) (ci := 1) (v := .ref i3) (C := RX1) (T := TX1) (N := 9) hx hb hts i_X1_become_X1 hown hE.1 hP 4 rfl rfl 2 (by decide) w5 (fun _ h9 => h9) rfl dX1_become_23 ?_
  refine lv_aload_n hx hb dX1_become_26 rfl (lv_at hl 0 rfl) ?_
  refine va_get (D := g.1) (ci := 1) (v := .ref h3) (C := RX1) (T := TX1) (N := 9) hx hb hts i_X1_become_X1 hown hE.1 hP 0 rfl rfl 2 (by decide) w5 (fun _ h9 => h9) rfl dX1_become_27 ?_
  obtain ⟨f2103, hg, hf⟩ := o1_s hf
  refine Ct.callSN (ws' := wRf2 g h0 h1 h2 h3 i0 i1 i2 i3 (f2101, f2102, f2103, R.2.2.2.1, R.2.2.2.2.1, R.2.2.2.2.2.1, R.2.2.2.2.2.2.1, R.2.2.2.2.2.2.2.1, R.2.2.2.2.2.2.2.2) N) (As := [.ref i3, .ref h3]) (rest := []) (st1 := []) (c_X6_copyRow l g i3 h3 10 N.2.2.1 R.2.2.1 hg) (⟨va_cnB 2 hts gX1_become_X6_copyRow_n41 rfl rfl rfl (hE.2.1 _ (List.mem_of_getElem? (i := 30) rfl)) w2 q_X6_copyRow.2 ⟨Nat.le_of_ble_eq_true rfl, Nat.le_of_ble_eq_true rfl⟩, w3, trivial⟩) ⟨hx, hb, hml, hown, hts⟩ hE hP hD hS hA [7, 3] rfl rfl rfl rfl rfl hl.1 rfl rfl (Nat.le_of_ble_eq_true rfl) dX1_become_30 (fun H locs hP hD hS => ?_)
  refine lv_aload_n hx hb dX1_become_33 rfl (lv_at hl 0 rfl) ?_
  refine lv_aload_n hx hb dX1_become_34 rfl (lv_at hl 1 rfl) ?_
  refine va_get (D := g.1) (ci := 1) (v := .int N.2.2.2.1) (C := RX1) (T := TX1) (N := 9) hx hb hts i_X1_become_X1 hown hE.1 hP 4 rfl rfl 3 (by decide) w6 (fun _ h9 => h9) rfl dX1_become_35 ?_
  refine va_put (D := g.1) (ci := 1) (v := .int N.2.2.2.1) (ty := .int) (C := RX1) (T := TX1) (N := 9) hx hb hts i_X1_become_X1 tyX1 tyX1_ok nmX1 hown hE.1 hP hD hS 0 rfl rfl 3 (by decide) w6 (fun _ h9 => h9) rfl (by decide +kernel) rfl rfl (Nat.le_of_ble_eq_true rfl) dX1_become_38 (fun H locs hP hD hS => ?_)
  have hP : va_P g.1 vwK (wRf2 g h0 h1 h2 h3 i0 i1 i2 i3 (f2101, f2102, f2103, N.2.2.2.1, R.2.2.2.2.1, R.2.2.2.2.2.1, R.2.2.2.2.2.2.1, R.2.2.2.2.2.2.2.1, R.2.2.2.2.2.2.2.2) N) H := hP
  have hD : va_D A (wRf2 g h0 h1 h2 h3 i0 i1 i2 i3 (f2101, f2102, f2103, N.2.2.2.1, R.2.2.2.2.1, R.2.2.2.2.2.1, R.2.2.2.2.2.2.1, R.2.2.2.2.2.2.2.1, R.2.2.2.2.2.2.2.2) N) := hD
  refine lv_aload_n hx hb dX1_become_41 rfl (lv_at hl 0 rfl) ?_
  refine lv_aload_n hx hb dX1_become_42 rfl (lv_at hl 1 rfl) ?_
  refine va_get (D := g.1) (ci := 1) (v := .int N.2.2.2.2.1) (C := RX1) (T := TX1) (N := 9) hx hb hts i_X1_become_X1 hown hE.1 hP 4 rfl rfl 4 (by decide) w7 (fun _ h9 => h9) rfl dX1_become_43 ?_
  refine va_put (D := g.1) (ci := 1) (v := .int N.2.2.2.2.1) (ty := .int) (C := RX1) (T := TX1) (N := 9) hx hb hts i_X1_become_X1 tyX1 tyX1_ok nmX1 hown hE.1 hP hD hS 0 rfl rfl 4 (by decide) w7 (fun _ h9 => h9) rfl (by decide +kernel) rfl rfl (Nat.le_of_ble_eq_true rfl) dX1_become_46 (fun H locs hP hD hS => ?_)
  have hP : va_P g.1 vwK (wRf2 g h0 h1 h2 h3 i0 i1 i2 i3 (f2101, f2102, f2103, N.2.2.2.1, N.2.2.2.2.1, R.2.2.2.2.2.1, R.2.2.2.2.2.2.1, R.2.2.2.2.2.2.2.1, R.2.2.2.2.2.2.2.2) N) H := hP
  have hD : va_D A (wRf2 g h0 h1 h2 h3 i0 i1 i2 i3 (f2101, f2102, f2103, N.2.2.2.1, N.2.2.2.2.1, R.2.2.2.2.2.1, R.2.2.2.2.2.2.1, R.2.2.2.2.2.2.2.1, R.2.2.2.2.2.2.2.2) N) := hD
  refine lv_aload_n hx hb dX1_become_49 rfl (lv_at hl 0 rfl) ?_
  refine lv_aload_n hx hb dX1_become_50 rfl (lv_at hl 1 rfl) ?_
  refine va_get (D := g.1) (ci := 1) (v := .int N.2.2.2.2.2.1) (C := RX1) (T := TX1) (N := 9) hx hb hts i_X1_become_X1 hown hE.1 hP 4 rfl rfl 5 (by decide) w8 (fun _ h9 => h9) rfl dX1_become_51 ?_
  obtain ⟨hn, hf⟩ := nb_s hf
  refine va_put (D := g.1) (ci := 1) (v := .int N.2.2.2.2.2.1) (ty := .boolean) (C := RX1) (T := TX1) (N := 9) hx hb hts i_X1_become_X1 tyX1 tyX1_ok nmX1 hown hE.1 hP hD hS 0 rfl rfl 5 (by decide) w8 (fun _ h9 => h9) rfl (by decide +kernel) (nb_n hn) (nb_f hn) (Nat.le_of_ble_eq_true rfl) dX1_become_54 (fun H locs hP hD hS => ?_)
  have hP : va_P g.1 vwK (wRf2 g h0 h1 h2 h3 i0 i1 i2 i3 (f2101, f2102, f2103, N.2.2.2.1, N.2.2.2.2.1, N.2.2.2.2.2.1, R.2.2.2.2.2.2.1, R.2.2.2.2.2.2.2.1, R.2.2.2.2.2.2.2.2) N) H := hP
  have hD : va_D A (wRf2 g h0 h1 h2 h3 i0 i1 i2 i3 (f2101, f2102, f2103, N.2.2.2.1, N.2.2.2.2.1, N.2.2.2.2.2.1, R.2.2.2.2.2.2.1, R.2.2.2.2.2.2.2.1, R.2.2.2.2.2.2.2.2) N) := hD
  refine lv_aload_n hx hb dX1_become_57 rfl (lv_at hl 0 rfl) ?_
  refine lv_aload_n hx hb dX1_become_58 rfl (lv_at hl 1 rfl) ?_
  refine va_get (D := g.1) (ci := 1) (v := .int N.2.2.2.2.2.2.1) (C := RX1) (T := TX1) (N := 9) hx hb hts i_X1_become_X1 hown hE.1 hP 4 rfl rfl 6 (by decide) w9 (fun _ h9 => h9) rfl dX1_become_59 ?_
  refine va_put (D := g.1) (ci := 1) (v := .int N.2.2.2.2.2.2.1) (ty := .int) (C := RX1) (T := TX1) (N := 9) hx hb hts i_X1_become_X1 tyX1 tyX1_ok nmX1 hown hE.1 hP hD hS 0 rfl rfl 6 (by decide) w9 (fun _ h9 => h9) rfl (by decide +kernel) rfl rfl (Nat.le_of_ble_eq_true rfl) dX1_become_62 (fun H locs hP hD hS => ?_)
  have hP : va_P g.1 vwK (wRf2 g h0 h1 h2 h3 i0 i1 i2 i3 (f2101, f2102, f2103, N.2.2.2.1, N.2.2.2.2.1, N.2.2.2.2.2.1, N.2.2.2.2.2.2.1, R.2.2.2.2.2.2.2.1, R.2.2.2.2.2.2.2.2) N) H := hP
  have hD : va_D A (wRf2 g h0 h1 h2 h3 i0 i1 i2 i3 (f2101, f2102, f2103, N.2.2.2.1, N.2.2.2.2.1, N.2.2.2.2.2.1, N.2.2.2.2.2.2.1, R.2.2.2.2.2.2.2.1, R.2.2.2.2.2.2.2.2) N) := hD
  refine lv_aload_n hx hb dX1_become_65 rfl (lv_at hl 0 rfl) ?_
  refine lv_aload_n hx hb dX1_become_66 rfl (lv_at hl 1 rfl) ?_
  refine va_get (D := g.1) (ci := 1) (v := .int N.2.2.2.2.2.2.2.1) (C := RX1) (T := TX1) (N := 9) hx hb hts i_X1_become_X1 hown hE.1 hP 4 rfl rfl 7 (by decide) w10 (fun _ h9 => h9) rfl dX1_become_67 ?_
  refine va_put (D := g.1) (ci := 1) (v := .int N.2.2.2.2.2.2.2.1) (ty := .int) (C := RX1) (T := TX1) (N := 9) hx hb hts i_X1_become_X1 tyX1 tyX1_ok nmX1 hown hE.1 hP hD hS 0 rfl rfl 7 (by decide) w10 (fun _ h9 => h9) rfl (by decide +kernel) rfl rfl (Nat.le_of_ble_eq_true rfl) dX1_become_70 (fun H locs hP hD hS => ?_)
  have hP : va_P g.1 vwK (wRf2 g h0 h1 h2 h3 i0 i1 i2 i3 (f2101, f2102, f2103, N.2.2.2.1, N.2.2.2.2.1, N.2.2.2.2.2.1, N.2.2.2.2.2.2.1, N.2.2.2.2.2.2.2.1, R.2.2.2.2.2.2.2.2) N) H := hP
  have hD : va_D A (wRf2 g h0 h1 h2 h3 i0 i1 i2 i3 (f2101, f2102, f2103, N.2.2.2.1, N.2.2.2.2.1, N.2.2.2.2.2.1, N.2.2.2.2.2.2.1, N.2.2.2.2.2.2.2.1, R.2.2.2.2.2.2.2.2) N) := hD
  refine lv_aload_n hx hb dX1_become_73 rfl (lv_at hl 0 rfl) ?_
  refine lv_aload_n hx hb dX1_become_74 rfl (lv_at hl 1 rfl) ?_
  refine va_get (D := g.1) (ci := 1) (v := .int N.2.2.2.2.2.2.2.2) (C := RX1) (T := TX1) (N := 9) hx hb hts i_X1_become_X1 hown hE.1 hP 4 rfl rfl 8 (by decide) w11 (fun _ h9 => h9) rfl dX1_become_75 ?_
  refine va_put (D := g.1) (ci := 1) (v := .int N.2.2.2.2.2.2.2.2) (ty := .int) (C := RX1) (T := TX1) (N := 9) hx hb hts i_X1_become_X1 tyX1 tyX1_ok nmX1 hown hE.1 hP hD hS 0 rfl rfl 8 (by decide) w11 (fun _ h9 => h9) rfl (by decide +kernel) rfl rfl (Nat.le_of_ble_eq_true rfl) dX1_become_78 (fun H locs hP hD hS => ?_)
  have hP : va_P g.1 vwK (wRf2 g h0 h1 h2 h3 i0 i1 i2 i3 (f2101, f2102, f2103, N.2.2.2.1, N.2.2.2.2.1, N.2.2.2.2.2.1, N.2.2.2.2.2.2.1, N.2.2.2.2.2.2.2.1, N.2.2.2.2.2.2.2.2) N) H := hP
  have hD : va_D A (wRf2 g h0 h1 h2 h3 i0 i1 i2 i3 (f2101, f2102, f2103, N.2.2.2.1, N.2.2.2.2.1, N.2.2.2.2.2.1, N.2.2.2.2.2.2.1, N.2.2.2.2.2.2.2.1, N.2.2.2.2.2.2.2.2) N) := hD
  obtain rfl := Option.some.inj hf
  rw [hQ]; exact Ct.vret hx hb hr hlocks hAe hP hD hS dX1_become_81
