def fX1_addCistern_L60 (x3 : Int32) (kx : Rf → Option (Int32 × Rf)) : Nat → Rf → Int32 → Option (Int32 × Rf)
  | 0, _, _ => none
  | k + 1, R, x4 => if (4 : Int32) ≤ x4 then (kx R) else (o1 (fX1_set R x3 ((7 : Int32) + x4) (1 : Int32)) (fun R108 => fX1_addCistern_L60 x3 kx k R108 (x4 + (1 : Int32))))
def fX1_addCistern (R : Rf) (a1 : Int32) (a2 : Int32) : Option (Int32 × Rf) := o1 (fX1_set (R.1, R.2.1, R.2.2.1, (R.2.2.2.1 + (1 : Int32)), R.2.2.2.2.1, R.2.2.2.2.2.1, R.2.2.2.2.2.2.1, R.2.2.2.2.2.2.2.1, R.2.2.2.2.2.2.2.2) R.2.2.2.1 (0 : Int32) a1) (fun R101 => o1 (fX1_set R101 R.2.2.2.1 (1 : Int32) a2) (fun R102 => o1 (fX1_set R102 R.2.2.2.1 (2 : Int32) (0 : Int32)) (fun R103 => o1 (fX1_set R103 R.2.2.2.1 (3 : Int32) (1 : Int32)) (fun R104 => o1 (fX1_set R104 R.2.2.2.1 (4 : Int32) (-1 : Int32)) (fun R105 => o1 (fX1_set R105 R.2.2.2.1 (5 : Int32) (0 : Int32)) (fun R106 => fX1_addCistern_L60 R.2.2.2.1 (fun R109 => some (R.2.2.2.1, R109)) fu R106 (0 : Int32)))))))
theorem q_X1_addCistern : yX1_addCistern.cls = RX1 ∧ yX1_addCistern.cls ≠ "java/lang/invoke/MethodHandle" ∧ yX1_addCistern.cls ≠ "java/lang/invoke/VarHandle" ∧ (parseMethodDescriptor yX1_addCistern.desc).map (fun d => d.parameters.length) = some 2 := by decide +kernel
theorem i_X1_addCistern_X1 : ∀ w ∈ u_ws RX1 TX1 9, w ∈ wsX1_addCistern := fun _ h => List.mem_cons_of_mem _ (List.mem_append_right _ (h))
set_option maxHeartbeats 4000000 in
set_option maxRecDepth 100000 in
theorem c_X1_addCistern (l : Launch) (g : gG) (h0 h1 h2 h3 : Nat) (R : Rf) (a1 : Int32) (a2 : Int32) {r : Int32} {R' : Rf} (hf : fX1_addCistern R a1 a2 = some (r, R')) : Ct l yX1_addCistern wsX1_addCistern (rmm 1 24) g (wRf g h0 h1 h2 h3 R) (wRf g h0 h1 h2 h3 (R')) [.ref h0, .int a1, .int a2] (some (.int r)) := by
  refine Ct.mk (by decide) rfl (Nat.le_of_ble_eq_true rfl) ?_
  intro p e s m args below meth c A ls hx hb hr hml hts hown hlocks hA hE hP hD hS hl hAe
  obtain ⟨Qx, hQ⟩ : ∃ Qx : State → Prop, Qx = MQ below (QcG g (wRf g h0 h1 h2 h3 R) (wRf g h0 h1 h2 h3 (R')) (some (.int r)) s.heap.size) args s 0 0 A := ⟨_, rfl⟩
  rw [← hQ]
  have hown : s.vm.findClass RX1 = some m.cls := hown
  have hl : lv_has ls 5 [(0, .ref h0), (1, .int a1), (2, .int a2)] := hl
  have w1 := hts (.fieldLink RX1 21 "RainVault$Roof" "cisterns" "I") (List.mem_of_getElem? (i := 1) rfl)
  have L60 : ∀ (x3 : Int32) (kx : Rf → Option (Int32 × Rf)) (k : Nat) (R : Rf) (x4 : Int32) (H : Heap) (locs : List Loc) (ls : Array Slot), fX1_addCistern_L60 x3 kx k R x4 = some (r, R') → va_P g.1 vwK (wRf g h0 h1 h2 h3 R) H → va_D A (wRf g h0 h1 h2 h3 R) → va_S A s.heap H locs → lv_has ls 5 [(0, .ref h0), (3, .int x3), (4, .int x4)] → (∀ (R : Rf) (H : Heap) (locs : List Loc) (ls : Array Slot), kx R = some (r, R') → va_P g.1 vwK (wRf g h0 h1 h2 h3 R) H → va_D A (wRf g h0 h1 h2 h3 R) → va_S A s.heap H locs → lv_has ls 5 [(3, .int x3)] → W p l e (rmm 1 24) s m args below meth c H locs 0 0 Qx (F0 m 83 ls [])) → W p l e (rmm 1 24) s m args below meth c H locs 0 0 Qx (F0 m 60 ls []) := by
    intro x3 kx k
    induction k with
    | zero => intro R x4 H locs ls hf; exact nomatch (show (none : Option (Int32 × Rf)) = some _ from hf)
    | succ k ih =>
      intro R x4 H locs ls hf hP hD hS hl hk
      rw [fX1_addCistern_L60] at hf
      refine lv_iload hx hb dX1_addCistern_60 (lv_at hl 2 rfl) ?_
      refine lv_iconst (v := (4 : Int32)) hx hb dX1_addCistern_62 (by decide) ?_
      refine lv_icmp_ge (tgt := 83) hx hb dX1_addCistern_63 (by decide) (fun hc => ?_) (fun hc => ?_)
      · have hf := if_t hf hc
        exact hk _ _ _ _  hf hP hD hS (lv_sub hl [1] rfl)
      · have hf := if_f hf hc
        refine lv_aload_n hx hb dX1_addCistern_66 rfl (lv_at hl 0 rfl) ?_
        refine lv_iload_n hx hb dX1_addCistern_67 rfl (lv_at hl 1 rfl) ?_
        refine lv_bipush (v := (7 : Int32)) hx hb dX1_addCistern_68 (by decide) ?_
        refine lv_iload hx hb dX1_addCistern_70 (lv_at hl 2 rfl) ?_
        refine lv_iadd hx hb dX1_addCistern_72 ?_
        refine lv_iconst (v := (1 : Int32)) hx hb dX1_addCistern_73 (by decide) ?_
        obtain ⟨R108, hg, hf⟩ := o1_s hf
        refine Ct.callV0 (ws' := wRf g h0 h1 h2 h3 R108) (As := [.int x3, .int ((7 : Int32) + x4), .int (1 : Int32)]) (rest := []) (st1 := []) (c_X1_set l g h0 h1 h2 h3 R x3 ((7 : Int32) + x4) (1 : Int32) hg) (cwV 3 hts gX1_addCistern_X1_set rfl rfl rfl q_X1_set ⟨Nat.le_of_ble_eq_true rfl, Nat.le_of_ble_eq_true rfl⟩) ⟨hx, hb, hml, hown, hts⟩ hE hP hD hS hA 1 0 rfl rfl rfl rfl hl.1 rfl rfl (Nat.le_of_ble_eq_true rfl) dX1_addCistern_74 (fun H locs hP hD hS => ?_)
        refine lv_iinc (v := (x4 + (1 : Int32))) (lv' := [(4, .int (x4 + (1 : Int32))), (0, .ref h0), (3, .int x3)]) hx hb dX1_addCistern_77 hl (k := 2) rfl rfl (by decide) rfl (fun ls hl => ?_)
        refine lv_goto (tgt := 60) hx hb dX1_addCistern_80 (by decide) ?_
        exact ih _ _ _ _ _  hf hP hD hS (lv_sub hl [1, 2, 0] rfl) hk
  unfold fX1_addCistern at hf
  refine lv_aload_n hx hb dX1_addCistern_0 rfl (lv_at hl 0 rfl) ?_
  refine va_get (D := g.1) (ci := 1) (v := .int R.2.2.2.1) (C := RX1) (T := TX1) (N := 9) hx hb hts i_X1_addCistern_X1 hown hE.1 hP 0 rfl rfl 3 (by decide) w1 (fun _ h9 => h9) rfl dX1_addCistern_1 ?_
  refine lv_istore_n (lv' := [(3, .int R.2.2.2.1), (0, .ref h0), (1, .int a1), (2, .int a2)]) hx hb dX1_addCistern_4 rfl hl (by decide) rfl (fun ls hl => ?_)
  refine lv_aload_n hx hb dX1_addCistern_5 rfl (lv_at hl 1 rfl) ?_
  refine lv_dup hx hb dX1_addCistern_6 rfl ?_
  refine va_get (D := g.1) (ci := 1) (v := .int R.2.2.2.1) (C := RX1) (T := TX1) (N := 9) hx hb hts i_X1_addCistern_X1 hown hE.1 hP 0 rfl rfl 3 (by decide) w1 (fun _ h9 => h9) rfl dX1_addCistern_7 ?_
  refine lv_iconst (v := (1 : Int32)) hx hb dX1_addCistern_10 (by decide) ?_
  refine lv_iadd hx hb dX1_addCistern_11 ?_
  refine va_put (D := g.1) (ci := 1) (v := .int (R.2.2.2.1 + (1 : Int32))) (ty := .int) (C := RX1) (T := TX1) (N := 9) hx hb hts i_X1_addCistern_X1 tyX1 tyX1_ok nmX1 hown hE.1 hP hD hS 0 rfl rfl 3 (by decide) w1 (fun _ h9 => h9) rfl (by decide +kernel) rfl rfl (Nat.le_of_ble_eq_true rfl) dX1_addCistern_12 (fun H locs hP hD hS => ?_)
  have hP : va_P g.1 vwK (wRf g h0 h1 h2 h3 (R.1, R.2.1, R.2.2.1, (R.2.2.2.1 + (1 : Int32)), R.2.2.2.2.1, R.2.2.2.2.2.1, R.2.2.2.2.2.2.1, R.2.2.2.2.2.2.2.1, R.2.2.2.2.2.2.2.2)) H := hP
  have hD : va_D A (wRf g h0 h1 h2 h3 (R.1, R.2.1, R.2.2.1, (R.2.2.2.1 + (1 : Int32)), R.2.2.2.2.1, R.2.2.2.2.2.1, R.2.2.2.2.2.2.1, R.2.2.2.2.2.2.2.1, R.2.2.2.2.2.2.2.2)) := hD
  refine lv_aload_n hx hb dX1_addCistern_15 rfl (lv_at hl 1 rfl) ?_
  refine lv_iload_n hx hb dX1_addCistern_16 rfl (lv_at hl 0 rfl) ?_
  refine lv_iconst (v := (0 : Int32)) hx hb dX1_addCistern_17 (by decide) ?_
  refine lv_iload_n hx hb dX1_addCistern_18 rfl (lv_at hl 2 rfl) ?_
  obtain ⟨R101, hg, hf⟩ := o1_s hf
  refine Ct.callV0 (ws' := wRf g h0 h1 h2 h3 R101) (As := [.int R.2.2.2.1, .int (0 : Int32), .int a1]) (rest := []) (st1 := []) (c_X1_set l g h0 h1 h2 h3 (R.1, R.2.1, R.2.2.1, (R.2.2.2.1 + (1 : Int32)), R.2.2.2.2.1, R.2.2.2.2.2.1, R.2.2.2.2.2.2.1, R.2.2.2.2.2.2.2.1, R.2.2.2.2.2.2.2.2) R.2.2.2.1 (0 : Int32) a1 hg) (cwV 3 hts gX1_addCistern_X1_set rfl rfl rfl q_X1_set ⟨Nat.le_of_ble_eq_true rfl, Nat.le_of_ble_eq_true rfl⟩) ⟨hx, hb, hml, hown, hts⟩ hE hP hD hS hA 1 0 rfl rfl rfl rfl hl.1 rfl rfl (Nat.le_of_ble_eq_true rfl) dX1_addCistern_19 (fun H locs hP hD hS => ?_)
  refine lv_aload_n hx hb dX1_addCistern_22 rfl (lv_at hl 1 rfl) ?_
  refine lv_iload_n hx hb dX1_addCistern_23 rfl (lv_at hl 0 rfl) ?_
  refine lv_iconst (v := (1 : Int32)) hx hb dX1_addCistern_24 (by decide) ?_
  refine lv_iload_n hx hb dX1_addCistern_25 rfl (lv_at hl 3 rfl) ?_
  obtain ⟨R102, hg, hf⟩ := o1_s hf
  refine Ct.callV0 (ws' := wRf g h0 h1 h2 h3 R102) (As := [.int R.2.2.2.1, .int (1 : Int32), .int a2]) (rest := []) (st1 := []) (c_X1_set l g h0 h1 h2 h3 R101 R.2.2.2.1 (1 : Int32) a2 hg) (cwV 3 hts gX1_addCistern_X1_set rfl rfl rfl q_X1_set ⟨Nat.le_of_ble_eq_true rfl, Nat.le_of_ble_eq_true rfl⟩) ⟨hx, hb, hml, hown, hts⟩ hE hP hD hS hA 1 0 rfl rfl rfl rfl hl.1 rfl rfl (Nat.le_of_ble_eq_true rfl) dX1_addCistern_26 (fun H locs hP hD hS => ?_)
  refine lv_aload_n hx hb dX1_addCistern_29 rfl (lv_at hl 1 rfl) ?_
  refine lv_iload_n hx hb dX1_addCistern_30 rfl (lv_at hl 0 rfl) ?_
  refine lv_iconst (v := (2 : Int32)) hx hb dX1_addCistern_31 (by decide) ?_
  refine lv_iconst (v := (0 : Int32)) hx hb dX1_addCistern_32 (by decide) ?_
  obtain ⟨R103, hg, hf⟩ := o1_s hf
  refine Ct.callV0 (ws' := wRf g h0 h1 h2 h3 R103) (As := [.int R.2.2.2.1, .int (2 : Int32), .int (0 : Int32)]) (rest := []) (st1 := []) (c_X1_set l g h0 h1 h2 h3 R102 R.2.2.2.1 (2 : Int32) (0 : Int32) hg) (cwV 3 hts gX1_addCistern_X1_set rfl rfl rfl q_X1_set ⟨Nat.le_of_ble_eq_true rfl, Nat.le_of_ble_eq_true rfl⟩) ⟨hx, hb, hml, hown, hts⟩ hE hP hD hS hA 1 0 rfl rfl rfl rfl hl.1 rfl rfl (Nat.le_of_ble_eq_true rfl) dX1_addCistern_33 (fun H locs hP hD hS => ?_)
  refine lv_aload_n hx hb dX1_addCistern_36 rfl (lv_at hl 1 rfl) ?_
  refine lv_iload_n hx hb dX1_addCistern_37 rfl (lv_at hl 0 rfl) ?_
  refine lv_iconst (v := (3 : Int32)) hx hb dX1_addCistern_38 (by decide) ?_
  refine lv_iconst (v := (1 : Int32)) hx hb dX1_addCistern_39 (by decide) ?_
  obtain ⟨R104, hg, hf⟩ := o1_s hf
  refine Ct.callV0 (ws' := wRf g h0 h1 h2 h3 R104) (As := [.int R.2.2.2.1, .int (3 : Int32), .int (1 : Int32)]) (rest := []) (st1 := []) (c_X1_set l g h0 h1 h2 h3 R103 R.2.2.2.1 (3 : Int32) (1 : Int32) hg) (cwV 3 hts gX1_addCistern_X1_set rfl rfl rfl q_X1_set ⟨Nat.le_of_ble_eq_true rfl, Nat.le_of_ble_eq_true rfl⟩) ⟨hx, hb, hml, hown, hts⟩ hE hP hD hS hA 1 0 rfl rfl rfl rfl hl.1 rfl rfl (Nat.le_of_ble_eq_true rfl) dX1_addCistern_40 (fun H locs hP hD hS => ?_)
  refine lv_aload_n hx hb dX1_addCistern_43 rfl (lv_at hl 1 rfl) ?_
  refine lv_iload_n hx hb dX1_addCistern_44 rfl (lv_at hl 0 rfl) ?_
  refine lv_iconst (v := (4 : Int32)) hx hb dX1_addCistern_45 (by decide) ?_
  refine lv_iconst (v := (-1 : Int32)) hx hb dX1_addCistern_46 (by decide) ?_
  obtain ⟨R105, hg, hf⟩ := o1_s hf
  refine Ct.callV0 (ws' := wRf g h0 h1 h2 h3 R105) (As := [.int R.2.2.2.1, .int (4 : Int32), .int (-1 : Int32)]) (rest := []) (st1 := []) (c_X1_set l g h0 h1 h2 h3 R104 R.2.2.2.1 (4 : Int32) (-1 : Int32) hg) (cwV 3 hts gX1_addCistern_X1_set rfl rfl rfl q_X1_set ⟨Nat.le_of_ble_eq_true rfl, Nat.le_of_ble_eq_true rfl⟩) ⟨hx, hb, hml, hown, hts⟩ hE hP hD hS hA 1 0 rfl rfl rfl rfl hl.1 rfl rfl (Nat.le_of_ble_eq_true rfl) dX1_addCistern_47 (fun H locs hP hD hS => ?_)
  refine lv_aload_n hx hb dX1_addCistern_50 rfl (lv_at hl 1 rfl) ?_
  refine lv_iload_n hx hb dX1_addCistern_51 rfl (lv_at hl 0 rfl) ?_
  refine lv_iconst (v := (5 : Int32)) hx hb dX1_addCistern_52 (by decide) ?_
  refine lv_iconst (v := (0 : Int32)) hx hb dX1_addCistern_53 (by decide) ?_
  obtain ⟨R106, hg, hf⟩ := o1_s hf
  refine Ct.callV0 (ws' := wRf g h0 h1 h2 h3 R106) (As := [.int R.2.2.2.1, .int (5 : Int32), .int (0 : Int32)]) (rest := []) (st1 := []) (c_X1_set l g h0 h1 h2 h3 R105 R.2.2.2.1 (5 : Int32) (0 : Int32) hg) (cwV 3 hts gX1_addCistern_X1_set rfl rfl rfl q_X1_set ⟨Nat.le_of_ble_eq_true rfl, Nat.le_of_ble_eq_true rfl⟩) ⟨hx, hb, hml, hown, hts⟩ hE hP hD hS hA 1 0 rfl rfl rfl rfl hl.1 rfl rfl (Nat.le_of_ble_eq_true rfl) dX1_addCistern_54 (fun H locs hP hD hS => ?_)
  refine lv_iconst (v := (0 : Int32)) hx hb dX1_addCistern_57 (by decide) ?_
  refine lv_istore (lv' := [(4, .int (0 : Int32)), (3, .int R.2.2.2.1), (0, .ref h0), (1, .int a1), (2, .int a2)]) hx hb dX1_addCistern_58 hl (by decide) rfl (fun ls hl => ?_)
  refine L60 _ _ _ _ _ _ _ _  hf hP hD hS (lv_sub hl [2, 1, 0] rfl) (fun R109 H locs ls hf hP hD hS hl => ?_)
  refine lv_iload_n hx hb dX1_addCistern_83 rfl (lv_at hl 0 rfl) ?_
  obtain ⟨rfl, rfl⟩ := some_p2 hf
  rw [hQ]; exact Ct.iret hx hb hr hlocks hAe hP hD hS dX1_addCistern_84
def fX6_isWithin (a1 : Int32) (a2 : Int32) (a3 : Int32) : Option (Int32) := if a1 < a2 then (some (0 : Int32)) else (if a3 < a1 then (some (0 : Int32)) else (some (1 : Int32)))
theorem q_X6_isWithin : yX6_isWithin.cls = RX6 ∧ yX6_isWithin.cls ≠ "java/lang/invoke/MethodHandle" ∧ yX6_isWithin.cls ≠ "java/lang/invoke/VarHandle" ∧ (parseMethodDescriptor yX6_isWithin.desc).map (fun d => d.parameters.length) = some 3 := by decide +kernel
set_option maxHeartbeats 4000000 in
set_option maxRecDepth 100000 in
theorem c_X6_isWithin (l : Launch) (g : gG) (a1 : Int32) (a2 : Int32) (a3 : Int32) {r : Int32} (hf : fX6_isWithin a1 a2 a3 = some r) : Ct l yX6_isWithin wsX6_isWithin (rmm 0 0) g (wNil g  ) (wNil g  ) [.int a1, .int a2, .int a3] (some (.int r)) := by
  refine Ct.mk (by decide) rfl (Nat.le_of_ble_eq_true rfl) ?_
  intro p e s m args below meth c A ls hx hb hr hml hts hown hlocks hA hE hP hD hS hl hAe
  obtain ⟨Qx, hQ⟩ : ∃ Qx : State → Prop, Qx = MQ below (QcG g (wNil g  ) (wNil g  ) (some (.int r)) s.heap.size) args s 0 0 A := ⟨_, rfl⟩
  rw [← hQ]
  have hown : s.vm.findClass RX6 = some m.cls := hown
  have hl : lv_has ls 3 [(0, .int a1), (1, .int a2), (2, .int a3)] := hl
  unfold fX6_isWithin at hf
  refine lv_iload_n hx hb dX6_isWithin_0 rfl (lv_at hl 0 rfl) ?_
  refine lv_iload_n hx hb dX6_isWithin_1 rfl (lv_at hl 1 rfl) ?_
  refine lv_icmp_lt (tgt := 14) hx hb dX6_isWithin_2 (by decide) (fun hc => ?_) (fun hc => ?_)
  · have hf := if_t hf hc
    refine lv_iconst (v := (0 : Int32)) hx hb dX6_isWithin_14 (by decide) ?_
    obtain rfl := Option.some.inj hf
    rw [hQ]; exact Ct.zret hx hb hr (by decide) hlocks hAe hP hD hS dX6_isWithin_15
  · have hf := if_f hf hc
    refine lv_iload_n hx hb dX6_isWithin_5 rfl (lv_at hl 0 rfl) ?_
    refine lv_iload_n hx hb dX6_isWithin_6 rfl (lv_at hl 2 rfl) ?_
    refine lv_icmp_gt (tgt := 14) hx hb dX6_isWithin_7 (by decide) (fun hc => ?_) (fun hc => ?_)
    · have hf := if_t hf hc
      refine lv_iconst (v := (0 : Int32)) hx hb dX6_isWithin_14 (by decide) ?_
      obtain rfl := Option.some.inj hf
      rw [hQ]; exact Ct.zret hx hb hr (by decide) hlocks hAe hP hD hS dX6_isWithin_15
    · have hf := if_f hf hc
      refine lv_iconst (v := (1 : Int32)) hx hb dX6_isWithin_10 (by decide) ?_
      refine lv_goto (tgt := 15) hx hb dX6_isWithin_11 (by decide) ?_
      obtain rfl := Option.some.inj hf
      rw [hQ]; exact Ct.zret hx hb hr (by decide) hlocks hAe hP hD hS dX6_isWithin_15
def fX1_mayBecome_J25 (R : Rf) (x1 : Int32) (x2 : Int32) (x3 : Int32) (y0 : Int32) : Option (Int32) := if x2 = (2 : Int32) then (o1 (fX1_get R x1 (1 : Int32)) (fun x104 => if x2 = (6 : Int32) then (some (0 : Int32)) else (o1 (fX6_isWithin x3 y0 x104) (fun x105 => if x105 = 0 then (some (0 : Int32)) else (some (1 : Int32)))))) else (o1 (fX6_at_K1 x2) (fun x102 => if x2 = (6 : Int32) then (some (0 : Int32)) else (o1 (fX6_isWithin x3 y0 x102) (fun x103 => if x103 = 0 then (some (0 : Int32)) else (some (1 : Int32))))))
def fX1_mayBecome (R : Rf) (a1 : Int32) (a2 : Int32) (a3 : Int32) : Option (Int32) := if a2 = (1 : Int32) then (o1 (fX1_get R a1 (2 : Int32)) (fun x106 => fX1_mayBecome_J25 R a1 a2 a3 (if (1 : Int32) < x106 then x106 else (1 : Int32)))) else (o1 (fX6_at_K0 a2) (fun x101 => fX1_mayBecome_J25 R a1 a2 a3 x101))
theorem q_X1_mayBecome : yX1_mayBecome.cls = RX1 ∧ yX1_mayBecome.cls ≠ "java/lang/invoke/MethodHandle" ∧ yX1_mayBecome.cls ≠ "java/lang/invoke/VarHandle" ∧ (parseMethodDescriptor yX1_mayBecome.desc).map (fun d => d.parameters.length) = some 3 := by decide +kernel
set_option maxHeartbeats 4000000 in
set_option maxRecDepth 100000 in
theorem c_X1_mayBecome (l : Launch) (g : gG) (h0 h1 h2 h3 : Nat) (R : Rf) (a1 : Int32) (a2 : Int32) (a3 : Int32) {r : Int32} (hf : fX1_mayBecome R a1 a2 a3 = some r) : Ct l yX1_mayBecome wsX1_mayBecome (rmm 1 40) g (wRf g h0 h1 h2 h3 R) (wRf g h0 h1 h2 h3 R) [.ref h0, .int a1, .int a2, .int a3] (some (.int r)) := by
  refine Ct.mk (by decide) rfl (Nat.le_of_ble_eq_true rfl) ?_
  intro p e s m args below meth c A ls hx hb hr hml hts hown hlocks hA hE hP hD hS hl hAe
  obtain ⟨Qx, hQ⟩ : ∃ Qx : State → Prop, Qx = MQ below (QcG g (wRf g h0 h1 h2 h3 R) (wRf g h0 h1 h2 h3 R) (some (.int r)) s.heap.size) args s 0 0 A := ⟨_, rfl⟩
  rw [← hQ]
  have hown : s.vm.findClass RX1 = some m.cls := hown
  have hl : lv_has ls 6 [(0, .ref h0), (1, .int a1), (2, .int a2), (3, .int a3)] := hl
  have w1 := hts (.initialized RX6) (List.mem_of_getElem? (i := 12) rfl)
  have w2 := hts (.static yX6_at) (List.mem_of_getElem? (i := 11) rfl)
  have w3 := hts (.static yX6_isWithin) (List.mem_of_getElem? (i := 14) rfl)
  have w4 := hts (.methodLink RX1 53 Lib.Math.max.name) (List.mem_of_getElem? (i := 1) rfl)
  have w5 := hts (.static Lib.Math.max.name) (List.mem_of_getElem? (i := 2) rfl)
  have w6 := hts (.initialized "java/lang/Math") (List.mem_of_getElem? (i := 3) rfl)
  have w7 := hts (.code Lib.Math.max.name Lib.Math.max.code 2 (some .int)) (List.mem_of_getElem? (i := 4) rfl)
  have J25 : ∀ (x1 : Int32) (x2 : Int32) (x3 : Int32) (y0 : Int32) (H : Heap) (locs : List Loc) (ls : Array Slot), fX1_mayBecome_J25 R x1 x2 x3 y0 = some r → va_P g.1 vwK (wRf g h0 h1 h2 h3 R) H → va_D A (wRf g h0 h1 h2 h3 R) → va_S A s.heap H locs → lv_has ls 6 [(0, .ref h0), (1, .int x1), (2, .int x2), (3, .int x3)] → W p l e (rmm 1 40) s m args below meth c H locs 0 0 Qx (F0 m 25 ls [.int y0]) := by
    intro x1 x2 x3 y0 H locs ls hf hP hD hS hl
    unfold fX1_mayBecome_J25 at hf
    refine lv_istore (lv' := [(4, .int y0), (0, .ref h0), (1, .int x1), (2, .int x2), (3, .int x3)]) hx hb dX1_mayBecome_25 hl (by decide) rfl (fun ls hl => ?_)
    refine lv_iload_n hx hb dX1_mayBecome_27 rfl (lv_at hl 3 rfl) ?_
    refine lv_iconst (v := (2 : Int32)) hx hb dX1_mayBecome_28 (by decide) ?_
    refine lv_icmp_ne (tgt := 41) hx hb dX1_mayBecome_29 (by decide) (fun hc => ?_) (fun hc => ?_)
    · have hf := if_f hf hc
      refine va_getsN hx hb hE.2.2.2.2.1.2.1 hS hown (va_Nw.use rfl (hE.2.1 _ (List.mem_of_getElem? (i := 23) rfl))) (fun _ h9 => h9) dX1_mayBecome_41 ?_
      refine lv_iload_n hx hb dX1_mayBecome_44 rfl (lv_at hl 3 rfl) ?_
      obtain ⟨x102, hg, hf⟩ := o1_s hf
      refine Ct.callSN (ws' := wRf g h0 h1 h2 h3 R) (As := [.ref (g.2.2 1), .int x2]) (rest := []) (st1 := [.int x102]) (c_X6_at_K1 l g x2 hg) (⟨va_cnB 2 hts gX1_mayBecome_X6_at_n61 rfl rfl rfl (hE.2.1 _ (List.mem_of_getElem? (i := 26) rfl)) w1 q_X6_at.2 ⟨Nat.le_of_ble_eq_true rfl, Nat.le_of_ble_eq_true rfl⟩, w2, trivial⟩) ⟨hx, hb, hml, hown, hts⟩ hE hP hD hS hA [] rfl rfl rfl rfl rfl hl.1 rfl rfl (Nat.le_of_ble_eq_true rfl) dX1_mayBecome_45 (fun H locs hP hD hS => ?_)
      refine lv_istore (lv' := [(5, .int x102), (4, .int y0), (0, .ref h0), (1, .int x1), (2, .int x2), (3, .int x3)]) hx hb dX1_mayBecome_48 hl (by decide) rfl (fun ls hl => ?_)
      refine lv_iload_n hx hb dX1_mayBecome_50 rfl (lv_at hl 4 rfl) ?_
      refine lv_bipush (v := (6 : Int32)) hx hb dX1_mayBecome_51 (by decide) ?_
      refine lv_icmp_eq (tgt := 71) hx hb dX1_mayBecome_53 (by decide) (fun hc => ?_) (fun hc => ?_)
      · have hf := if_t hf hc
        refine lv_iconst (v := (0 : Int32)) hx hb dX1_mayBecome_71 (by decide) ?_
        obtain rfl := Option.some.inj hf
        rw [hQ]; exact Ct.zret hx hb hr (by decide) hlocks hAe hP hD hS dX1_mayBecome_72
      · have hf := if_f hf hc
        refine lv_iload_n hx hb dX1_mayBecome_56 rfl (lv_at hl 5 rfl) ?_
        refine lv_iload hx hb dX1_mayBecome_57 (lv_at hl 1 rfl) ?_
        refine lv_iload hx hb dX1_mayBecome_59 (lv_at hl 0 rfl) ?_
        obtain ⟨x103, hg, hf⟩ := o1_s hf
        refine Ct.callSN (ws' := wRf g h0 h1 h2 h3 R) (As := [.int x3, .int y0, .int x102]) (rest := []) (st1 := [.int x103]) (c_X6_isWithin l g x3 y0 x102 hg) (⟨va_cnB 3 hts gX1_mayBecome_X6_isWithin_n68 rfl rfl rfl (hE.2.1 _ (List.mem_of_getElem? (i := 27) rfl)) w1 q_X6_isWithin.2 ⟨Nat.le_of_ble_eq_true rfl, Nat.le_of_ble_eq_true rfl⟩, w3, trivial⟩) ⟨hx, hb, hml, hown, hts⟩ hE hP hD hS hA [] rfl rfl rfl rfl rfl hl.1 rfl rfl (Nat.le_of_ble_eq_true rfl) dX1_mayBecome_61 (fun H locs hP hD hS => ?_)
        refine lv_if_eq (tgt := 71) hx hb dX1_mayBecome_64 (by decide) (fun hc => ?_) (fun hc => ?_)
        · have hf := if_t hf hc
          refine lv_iconst (v := (0 : Int32)) hx hb dX1_mayBecome_71 (by decide) ?_
          obtain rfl := Option.some.inj hf
          rw [hQ]; exact Ct.zret hx hb hr (by decide) hlocks hAe hP hD hS dX1_mayBecome_72
        · have hf := if_f hf hc
          refine lv_iconst (v := (1 : Int32)) hx hb dX1_mayBecome_67 (by decide) ?_
          refine lv_goto (tgt := 72) hx hb dX1_mayBecome_68 (by decide) ?_
          obtain rfl := Option.some.inj hf
          rw [hQ]; exact Ct.zret hx hb hr (by decide) hlocks hAe hP hD hS dX1_mayBecome_72
    · have hf := if_t hf hc
      refine lv_aload_n hx hb dX1_mayBecome_32 rfl (lv_at hl 1 rfl) ?_
      refine lv_iload_n hx hb dX1_mayBecome_33 rfl (lv_at hl 2 rfl) ?_
      refine lv_iconst (v := (1 : Int32)) hx hb dX1_mayBecome_34 (by decide) ?_
      obtain ⟨x104, hg, hf⟩ := o1_s hf
      refine Ct.callV0 (ws' := wRf g h0 h1 h2 h3 R) (As := [.int x1, .int (1 : Int32)]) (rest := []) (st1 := [.int x104]) (c_X1_get l g h0 h1 h2 h3 R x1 (1 : Int32) hg) (cwV 2 hts gX1_mayBecome_X1_get rfl rfl rfl q_X1_get ⟨Nat.le_of_ble_eq_true rfl, Nat.le_of_ble_eq_true rfl⟩) ⟨hx, hb, hml, hown, hts⟩ hE hP hD hS hA 1 0 rfl rfl rfl rfl hl.1 rfl rfl (Nat.le_of_ble_eq_true rfl) dX1_mayBecome_35 (fun H locs hP hD hS => ?_)
      refine lv_goto (tgt := 48) hx hb dX1_mayBecome_38 (by decide) ?_
      refine lv_istore (lv' := [(5, .int x104), (4, .int y0), (0, .ref h0), (1, .int x1), (2, .int x2), (3, .int x3)]) hx hb dX1_mayBecome_48 hl (by decide) rfl (fun ls hl => ?_)
      refine lv_iload_n hx hb dX1_mayBecome_50 rfl (lv_at hl 4 rfl) ?_
      refine lv_bipush (v := (6 : Int32)) hx hb dX1_mayBecome_51 (by decide) ?_
      refine lv_icmp_eq (tgt := 71) hx hb dX1_mayBecome_53 (by decide) (fun hc => ?_) (fun hc => ?_)
      · have hf := if_t hf hc
        refine lv_iconst (v := (0 : Int32)) hx hb dX1_mayBecome_71 (by decide) ?_
        obtain rfl := Option.some.inj hf
        rw [hQ]; exact Ct.zret hx hb hr (by decide) hlocks hAe hP hD hS dX1_mayBecome_72
      · have hf := if_f hf hc
        refine lv_iload_n hx hb dX1_mayBecome_56 rfl (lv_at hl 5 rfl) ?_
        refine lv_iload hx hb dX1_mayBecome_57 (lv_at hl 1 rfl) ?_
        refine lv_iload hx hb dX1_mayBecome_59 (lv_at hl 0 rfl) ?_
        obtain ⟨x105, hg, hf⟩ := o1_s hf
        refine Ct.callSN (ws' := wRf g h0 h1 h2 h3 R) (As := [.int x3, .int y0, .int x104]) (rest := []) (st1 := [.int x105]) (c_X6_isWithin l g x3 y0 x104 hg) (⟨va_cnB 3 hts gX1_mayBecome_X6_isWithin_n68 rfl rfl rfl (hE.2.1 _ (List.mem_of_getElem? (i := 27) rfl)) w1 q_X6_isWithin.2 ⟨Nat.le_of_ble_eq_true rfl, Nat.le_of_ble_eq_true rfl⟩, w3, trivial⟩) ⟨hx, hb, hml, hown, hts⟩ hE hP hD hS hA [] rfl rfl rfl rfl rfl hl.1 rfl rfl (Nat.le_of_ble_eq_true rfl) dX1_mayBecome_61 (fun H locs hP hD hS => ?_)
        refine lv_if_eq (tgt := 71) hx hb dX1_mayBecome_64 (by decide) (fun hc => ?_) (fun hc => ?_)
        · have hf := if_t hf hc
          refine lv_iconst (v := (0 : Int32)) hx hb dX1_mayBecome_71 (by decide) ?_
          obtain rfl := Option.some.inj hf
          rw [hQ]; exact Ct.zret hx hb hr (by decide) hlocks hAe hP hD hS dX1_mayBecome_72
        · have hf := if_f hf hc
          refine lv_iconst (v := (1 : Int32)) hx hb dX1_mayBecome_67 (by decide) ?_
          refine lv_goto (tgt := 72) hx hb dX1_mayBecome_68 (by decide) ?_
          obtain rfl := Option.some.inj hf
          rw [hQ]; exact Ct.zret hx hb hr (by decide) hlocks hAe hP hD hS dX1_mayBecome_72
  unfold fX1_mayBecome at hf
  refine lv_iload_n hx hb dX1_mayBecome_0 rfl (lv_at hl 2 rfl) ?_
  refine lv_iconst (v := (1 : Int32)) hx hb dX1_mayBecome_1 (by decide) ?_
  refine lv_icmp_ne (tgt := 18) hx hb dX1_mayBecome_2 (by decide) (fun hc => ?_) (fun hc => ?_)
  · have hf := if_f hf hc
    refine va_getsN hx hb hE.2.2.2.2.1.1 hS hown (va_Nw.use rfl (hE.2.1 _ (List.mem_of_getElem? (i := 22) rfl))) (fun _ h9 => h9) dX1_mayBecome_18 ?_
    refine lv_iload_n hx hb dX1_mayBecome_21 rfl (lv_at hl 2 rfl) ?_
    obtain ⟨x101, hg, hf⟩ := o1_s hf
    refine Ct.callSN (ws' := wRf g h0 h1 h2 h3 R) (As := [.ref (g.2.2 0), .int a2]) (rest := []) (st1 := [.int x101]) (c_X6_at_K0 l g a2 hg) (⟨va_cnB 2 hts gX1_mayBecome_X6_at_n61 rfl rfl rfl (hE.2.1 _ (List.mem_of_getElem? (i := 26) rfl)) w1 q_X6_at.2 ⟨Nat.le_of_ble_eq_true rfl, Nat.le_of_ble_eq_true rfl⟩, w2, trivial⟩) ⟨hx, hb, hml, hown, hts⟩ hE hP hD hS hA [] rfl rfl rfl rfl rfl hl.1 rfl rfl (Nat.le_of_ble_eq_true rfl) dX1_mayBecome_22 (fun H locs hP hD hS => ?_)
    exact J25 _ _ _ _ _ _ _  hf hP hD hS (lv_sub hl [0, 1, 2, 3] rfl)
  · have hf := if_t hf hc
    refine lv_iconst (v := (1 : Int32)) hx hb dX1_mayBecome_5 (by decide) ?_
    refine lv_aload_n hx hb dX1_mayBecome_6 rfl (lv_at hl 0 rfl) ?_
    refine lv_iload_n hx hb dX1_mayBecome_7 rfl (lv_at hl 1 rfl) ?_
    refine lv_iconst (v := (2 : Int32)) hx hb dX1_mayBecome_8 (by decide) ?_
    obtain ⟨x106, hg, hf⟩ := o1_s hf
    refine Ct.callV0 (ws' := wRf g h0 h1 h2 h3 R) (As := [.int a1, .int (2 : Int32)]) (rest := [.int (1 : Int32)]) (st1 := [.int x106, .int (1 : Int32)]) (c_X1_get l g h0 h1 h2 h3 R a1 (2 : Int32) hg) (cwV 2 hts gX1_mayBecome_X1_get rfl rfl rfl q_X1_get ⟨Nat.le_of_ble_eq_true rfl, Nat.le_of_ble_eq_true rfl⟩) ⟨hx, hb, hml, hown, hts⟩ hE hP hD hS hA 1 0 rfl rfl rfl rfl hl.1 rfl rfl (Nat.le_of_ble_eq_true rfl) dX1_mayBecome_9 (fun H locs hP hD hS => ?_)
    refine va_mmax hx hb (hml.trans hl.1.symm) hown w4 w5 w6 w7 (Nat.le_of_ble_eq_true rfl) (Nat.le_of_ble_eq_true rfl) (Nat.zero_le _) (Nat.zero_le _) dX1_mayBecome_12 ?_
    refine lv_goto (tgt := 25) hx hb dX1_mayBecome_15 (by decide) ?_
    exact J25 _ _ _ _ _ _ _  hf hP hD hS (lv_sub hl [0, 1, 2, 3] rfl)
def fX1_caught_J28 (R : Rf) (x1 : Int32) (x2 : Int32) (x3 : Int32) : Option (Int32) := o1 (fX1_get R x1 ((7 : Int32) + x2)) (fun x102 => o1 (fX1_isOf R x1 (2 : Int32)) (fun x103 => if x103 = 0 then (some (x3 * x102)) else (some ((x3 * x102) / (2 : Int32)))))
def fX1_caught (R : Rf) (a1 : Int32) (a2 : Int32) (a3 : Int32) : Option (Int32) := o1 (fX1_get R a1 (5 : Int32)) (fun x101 => if x101 = (1 : Int32) then (some (0 : Int32)) else (if R.2.2.2.2.2.1 = 0 then (fX1_caught_J28 R a1 a2 a3) else (o1 (fX1_isOf R a1 (5 : Int32)) (fun x104 => if x104 = 0 then (fX1_caught_J28 R a1 a2 a3) else (some (0 : Int32))))))
theorem q_X1_caught : yX1_caught.cls = RX1 ∧ yX1_caught.cls ≠ "java/lang/invoke/MethodHandle" ∧ yX1_caught.cls ≠ "java/lang/invoke/VarHandle" ∧ (parseMethodDescriptor yX1_caught.desc).map (fun d => d.parameters.length) = some 3 := by decide +kernel
theorem i_X1_caught_X1 : ∀ w ∈ u_ws RX1 TX1 9, w ∈ wsX1_caught := fun _ h => List.mem_cons_of_mem _ (List.mem_append_right _ (h))
set_option maxHeartbeats 4000000 in
set_option maxRecDepth 100000 in
theorem c_X1_caught (l : Launch) (g : gG) (h0 h1 h2 h3 : Nat) (R : Rf) (a1 : Int32) (a2 : Int32) (a3 : Int32) {r : Int32} (hf : fX1_caught R a1 a2 a3 = some r) : Ct l yX1_caught wsX1_caught (rmm 2 46) g (wRf g h0 h1 h2 h3 R) (wRf g h0 h1 h2 h3 R) [.ref h0, .int a1, .int a2, .int a3] (some (.int r)) := by
  refine Ct.mk (by decide) rfl (Nat.le_of_ble_eq_true rfl) ?_
  intro p e s m args below meth c A ls hx hb hr hml hts hown hlocks hA hE hP hD hS hl hAe
  obtain ⟨Qx, hQ⟩ : ∃ Qx : State → Prop, Qx = MQ below (QcG g (wRf g h0 h1 h2 h3 R) (wRf g h0 h1 h2 h3 R) (some (.int r)) s.heap.size) args s 0 0 A := ⟨_, rfl⟩
  rw [← hQ]
  have hown : s.vm.findClass RX1 = some m.cls := hown
  have hl : lv_has ls 5 [(0, .ref h0), (1, .int a1), (2, .int a2), (3, .int a3)] := hl
  have w1 := hts (.fieldLink RX1 28 "RainVault$Roof" "isCold" "Z") (List.mem_of_getElem? (i := 1) rfl)
  have J28 : ∀ (x1 : Int32) (x2 : Int32) (x3 : Int32) (H : Heap) (locs : List Loc) (ls : Array Slot), fX1_caught_J28 R x1 x2 x3 = some r → va_P g.1 vwK (wRf g h0 h1 h2 h3 R) H → va_D A (wRf g h0 h1 h2 h3 R) → va_S A s.heap H locs → lv_has ls 5 [(0, .ref h0), (1, .int x1), (2, .int x2), (3, .int x3)] → W p l e (rmm 2 46) s m args below meth c H locs 0 0 Qx (F0 m 28 ls []) := by
    intro x1 x2 x3 H locs ls hf hP hD hS hl
    unfold fX1_caught_J28 at hf
    refine lv_iload_n hx hb dX1_caught_28 rfl (lv_at hl 3 rfl) ?_
    refine lv_aload_n hx hb dX1_caught_29 rfl (lv_at hl 0 rfl) ?_
    refine lv_iload_n hx hb dX1_caught_30 rfl (lv_at hl 1 rfl) ?_
    refine lv_bipush (v := (7 : Int32)) hx hb dX1_caught_31 (by decide) ?_
    refine lv_iload_n hx hb dX1_caught_33 rfl (lv_at hl 2 rfl) ?_
    refine lv_iadd hx hb dX1_caught_34 ?_
    obtain ⟨x102, hg, hf⟩ := o1_s hf
    refine Ct.callV0 (ws' := wRf g h0 h1 h2 h3 R) (As := [.int x1, .int ((7 : Int32) + x2)]) (rest := [.int x3]) (st1 := [.int x102, .int x3]) (c_X1_get l g h0 h1 h2 h3 R x1 ((7 : Int32) + x2) hg) (cwV 2 hts gX1_caught_X1_get rfl rfl rfl q_X1_get ⟨Nat.le_of_ble_eq_true rfl, Nat.le_of_ble_eq_true rfl⟩) ⟨hx, hb, hml, hown, hts⟩ hE hP hD hS hA 1 0 rfl rfl rfl rfl hl.1 rfl rfl (Nat.le_of_ble_eq_true rfl) dX1_caught_35 (fun H locs hP hD hS => ?_)
    refine lv_imul hx hb dX1_caught_38 ?_
    refine lv_istore (lv' := [(4, .int (x3 * x102)), (0, .ref h0), (1, .int x1), (2, .int x2), (3, .int x3)]) hx hb dX1_caught_39 hl (by decide) rfl (fun ls hl => ?_)
    refine lv_aload_n hx hb dX1_caught_41 rfl (lv_at hl 1 rfl) ?_
    refine lv_iload_n hx hb dX1_caught_42 rfl (lv_at hl 2 rfl) ?_
    refine lv_iconst (v := (2 : Int32)) hx hb dX1_caught_43 (by decide) ?_
    obtain ⟨x103, hg, hf⟩ := o1_s hf
    refine Ct.callV0 (ws' := wRf g h0 h1 h2 h3 R) (As := [.int x1, .int (2 : Int32)]) (rest := []) (st1 := [.int x103]) (c_X1_isOf l g h0 h1 h2 h3 R x1 (2 : Int32) hg) (cwV 2 hts gX1_caught_X1_isOf rfl rfl rfl q_X1_isOf ⟨Nat.le_of_ble_eq_true rfl, Nat.le_of_ble_eq_true rfl⟩) ⟨hx, hb, hml, hown, hts⟩ hE hP hD hS hA 1 0 rfl rfl rfl rfl hl.1 rfl rfl (Nat.le_of_ble_eq_true rfl) dX1_caught_44 (fun H locs hP hD hS => ?_)
    refine lv_if_eq (tgt := 57) hx hb dX1_caught_47 (by decide) (fun hc => ?_) (fun hc => ?_)
    · have hf := if_t hf hc
      refine lv_iload hx hb dX1_caught_57 (lv_at hl 0 rfl) ?_
      obtain rfl := Option.some.inj hf
      rw [hQ]; exact Ct.iret hx hb hr hlocks hAe hP hD hS dX1_caught_59
    · have hf := if_f hf hc
      refine lv_iload hx hb dX1_caught_50 (lv_at hl 0 rfl) ?_
      refine lv_iconst (v := (2 : Int32)) hx hb dX1_caught_52 (by decide) ?_
      refine lv_idiv hx hb dX1_caught_53 (by decide) ?_
      refine lv_goto (tgt := 59) hx hb dX1_caught_54 (by decide) ?_
      obtain rfl := Option.some.inj hf
      rw [hQ]; exact Ct.iret hx hb hr hlocks hAe hP hD hS dX1_caught_59
  unfold fX1_caught at hf
  refine lv_aload_n hx hb dX1_caught_0 rfl (lv_at hl 0 rfl) ?_
  refine lv_iload_n hx hb dX1_caught_1 rfl (lv_at hl 1 rfl) ?_
  refine lv_iconst (v := (5 : Int32)) hx hb dX1_caught_2 (by decide) ?_
  obtain ⟨x101, hg, hf⟩ := o1_s hf
  refine Ct.callV0 (ws' := wRf g h0 h1 h2 h3 R) (As := [.int a1, .int (5 : Int32)]) (rest := []) (st1 := [.int x101]) (c_X1_get l g h0 h1 h2 h3 R a1 (5 : Int32) hg) (cwV 2 hts gX1_caught_X1_get rfl rfl rfl q_X1_get ⟨Nat.le_of_ble_eq_true rfl, Nat.le_of_ble_eq_true rfl⟩) ⟨hx, hb, hml, hown, hts⟩ hE hP hD hS hA 1 0 rfl rfl rfl rfl hl.1 rfl rfl (Nat.le_of_ble_eq_true rfl) dX1_caught_3 (fun H locs hP hD hS => ?_)
  refine lv_iconst (v := (1 : Int32)) hx hb dX1_caught_6 (by decide) ?_
  refine lv_icmp_eq (tgt := 26) hx hb dX1_caught_7 (by decide) (fun hc => ?_) (fun hc => ?_)
  · have hf := if_t hf hc
    refine lv_iconst (v := (0 : Int32)) hx hb dX1_caught_26 (by decide) ?_
    obtain rfl := Option.some.inj hf
    rw [hQ]; exact Ct.iret hx hb hr hlocks hAe hP hD hS dX1_caught_27
  · have hf := if_f hf hc
    refine lv_aload_n hx hb dX1_caught_10 rfl (lv_at hl 0 rfl) ?_
    refine va_get (D := g.1) (ci := 1) (v := .int R.2.2.2.2.2.1) (C := RX1) (T := TX1) (N := 9) hx hb hts i_X1_caught_X1 hown hE.1 hP 0 rfl rfl 5 (by decide) w1 (fun _ h9 => h9) rfl dX1_caught_11 ?_
    refine lv_if_eq (tgt := 28) hx hb dX1_caught_14 (by decide) (fun hc => ?_) (fun hc => ?_)
    · have hf := if_t hf hc
      exact J28 _ _ _ _ _ _  hf hP hD hS (lv_sub hl [0, 1, 2, 3] rfl)
    · have hf := if_f hf hc
      refine lv_aload_n hx hb dX1_caught_17 rfl (lv_at hl 0 rfl) ?_
      refine lv_iload_n hx hb dX1_caught_18 rfl (lv_at hl 1 rfl) ?_
      refine lv_iconst (v := (5 : Int32)) hx hb dX1_caught_19 (by decide) ?_
      obtain ⟨x104, hg, hf⟩ := o1_s hf
      refine Ct.callV0 (ws' := wRf g h0 h1 h2 h3 R) (As := [.int a1, .int (5 : Int32)]) (rest := []) (st1 := [.int x104]) (c_X1_isOf l g h0 h1 h2 h3 R a1 (5 : Int32) hg) (cwV 2 hts gX1_caught_X1_isOf rfl rfl rfl q_X1_isOf ⟨Nat.le_of_ble_eq_true rfl, Nat.le_of_ble_eq_true rfl⟩) ⟨hx, hb, hml, hown, hts⟩ hE hP hD hS hA 1 0 rfl rfl rfl rfl hl.1 rfl rfl (Nat.le_of_ble_eq_true rfl) dX1_caught_20 (fun H locs hP hD hS => ?_)
      refine lv_if_eq (tgt := 28) hx hb dX1_caught_23 (by decide) (fun hc => ?_) (fun hc => ?_)
      · have hf := if_t hf hc
        exact J28 _ _ _ _ _ _  hf hP hD hS (lv_sub hl [0, 1, 2, 3] rfl)
      · have hf := if_f hf hc
        refine lv_iconst (v := (0 : Int32)) hx hb dX1_caught_26 (by decide) ?_
        obtain rfl := Option.some.inj hf
        rw [hQ]; exact Ct.iret hx hb hr hlocks hAe hP hD hS dX1_caught_27
def fX1_leaked (R : Rf) (a1 : Int32) : Option (Int32) := o1 (fX1_isOf R a1 (6 : Int32)) (fun x101 => if x101 = 0 then (if R.2.2.2.2.2.1 = 0 then (o1 (fX1_get R a1 (3 : Int32)) (fun x102 => o1 (fX1_get R a1 (2 : Int32)) (fun x103 => some (if x103 < x102 then x103 else x102)))) else (o1 (fX1_isOf R a1 (5 : Int32)) (fun x104 => if x104 = 0 then (o1 (fX1_get R a1 (3 : Int32)) (fun x105 => o1 (fX1_get R a1 (2 : Int32)) (fun x106 => some (if x106 < x105 then x106 else x105)))) else (some (0 : Int32))))) else (some (0 : Int32)))
theorem q_X1_leaked : yX1_leaked.cls = RX1 ∧ yX1_leaked.cls ≠ "java/lang/invoke/MethodHandle" ∧ yX1_leaked.cls ≠ "java/lang/invoke/VarHandle" ∧ (parseMethodDescriptor yX1_leaked.desc).map (fun d => d.parameters.length) = some 1 := by decide +kernel
theorem i_X1_leaked_X1 : ∀ w ∈ u_ws RX1 TX1 9, w ∈ wsX1_leaked := fun _ h => List.mem_cons_of_mem _ (List.mem_append_right _ (h))
set_option maxHeartbeats 4000000 in
set_option maxRecDepth 100000 in
theorem c_X1_leaked (l : Launch) (g : gG) (h0 h1 h2 h3 : Nat) (R : Rf) (a1 : Int32) {r : Int32} (hf : fX1_leaked R a1 = some r) : Ct l yX1_leaked wsX1_leaked (rmm 2 46) g (wRf g h0 h1 h2 h3 R) (wRf g h0 h1 h2 h3 R) [.ref h0, .int a1] (some (.int r)) := by
  refine Ct.mk (by decide) rfl (Nat.le_of_ble_eq_true rfl) ?_
  intro p e s m args below meth c A ls hx hb hr hml hts hown hlocks hA hE hP hD hS hl hAe
  obtain ⟨Qx, hQ⟩ : ∃ Qx : State → Prop, Qx = MQ below (QcG g (wRf g h0 h1 h2 h3 R) (wRf g h0 h1 h2 h3 R) (some (.int r)) s.heap.size) args s 0 0 A := ⟨_, rfl⟩
  rw [← hQ]
  have hown : s.vm.findClass RX1 = some m.cls := hown
  have hl : lv_has ls 2 [(0, .ref h0), (1, .int a1)] := hl
  have w1 := hts (.fieldLink RX1 28 "RainVault$Roof" "isCold" "Z") (List.mem_of_getElem? (i := 1) rfl)
  have w2 := hts (.methodLink RX1 79 Lib.Math.min.name) (List.mem_of_getElem? (i := 2) rfl)
  have w3 := hts (.static Lib.Math.min.name) (List.mem_of_getElem? (i := 3) rfl)
  have w4 := hts (.initialized "java/lang/Math") (List.mem_of_getElem? (i := 4) rfl)
  have w5 := hts (.code Lib.Math.min.name Lib.Math.min.code 2 (some .int)) (List.mem_of_getElem? (i := 5) rfl)
  unfold fX1_leaked at hf
  refine lv_aload_n hx hb dX1_leaked_0 rfl (lv_at hl 0 rfl) ?_
  refine lv_iload_n hx hb dX1_leaked_1 rfl (lv_at hl 1 rfl) ?_
  refine lv_bipush (v := (6 : Int32)) hx hb dX1_leaked_2 (by decide) ?_
  obtain ⟨x101, hg, hf⟩ := o1_s hf
  refine Ct.callV0 (ws' := wRf g h0 h1 h2 h3 R) (As := [.int a1, .int (6 : Int32)]) (rest := []) (st1 := [.int x101]) (c_X1_isOf l g h0 h1 h2 h3 R a1 (6 : Int32) hg) (cwV 2 hts gX1_leaked_X1_isOf rfl rfl rfl q_X1_isOf ⟨Nat.le_of_ble_eq_true rfl, Nat.le_of_ble_eq_true rfl⟩) ⟨hx, hb, hml, hown, hts⟩ hE hP hD hS hA 1 0 rfl rfl rfl rfl hl.1 rfl rfl (Nat.le_of_ble_eq_true rfl) dX1_leaked_4 (fun H locs hP hD hS => ?_)
  refine lv_if_ne (tgt := 26) hx hb dX1_leaked_7 (by decide) (fun hc => ?_) (fun hc => ?_)
  · have hf := if_f hf hc
    refine lv_iconst (v := (0 : Int32)) hx hb dX1_leaked_26 (by decide) ?_
    obtain rfl := Option.some.inj hf
    rw [hQ]; exact Ct.iret hx hb hr hlocks hAe hP hD hS dX1_leaked_27
  · have hf := if_t hf hc
    refine lv_aload_n hx hb dX1_leaked_10 rfl (lv_at hl 0 rfl) ?_
    refine va_get (D := g.1) (ci := 1) (v := .int R.2.2.2.2.2.1) (C := RX1) (T := TX1) (N := 9) hx hb hts i_X1_leaked_X1 hown hE.1 hP 0 rfl rfl 5 (by decide) w1 (fun _ h9 => h9) rfl dX1_leaked_11 ?_
    refine lv_if_eq (tgt := 28) hx hb dX1_leaked_14 (by decide) (fun hc => ?_) (fun hc => ?_)
    · have hf := if_t hf hc
      refine lv_aload_n hx hb dX1_leaked_28 rfl (lv_at hl 0 rfl) ?_
      refine lv_iload_n hx hb dX1_leaked_29 rfl (lv_at hl 1 rfl) ?_
      refine lv_iconst (v := (3 : Int32)) hx hb dX1_leaked_30 (by decide) ?_
      obtain ⟨x102, hg, hf⟩ := o1_s hf
      refine Ct.callV0 (ws' := wRf g h0 h1 h2 h3 R) (As := [.int a1, .int (3 : Int32)]) (rest := []) (st1 := [.int x102]) (c_X1_get l g h0 h1 h2 h3 R a1 (3 : Int32) hg) (cwV 2 hts gX1_leaked_X1_get rfl rfl rfl q_X1_get ⟨Nat.le_of_ble_eq_true rfl, Nat.le_of_ble_eq_true rfl⟩) ⟨hx, hb, hml, hown, hts⟩ hE hP hD hS hA 1 0 rfl rfl rfl rfl hl.1 rfl rfl (Nat.le_of_ble_eq_true rfl) dX1_leaked_31 (fun H locs hP hD hS => ?_)
      refine lv_aload_n hx hb dX1_leaked_34 rfl (lv_at hl 0 rfl) ?_
      refine lv_iload_n hx hb dX1_leaked_35 rfl (lv_at hl 1 rfl) ?_
      refine lv_iconst (v := (2 : Int32)) hx hb dX1_leaked_36 (by decide) ?_
      obtain ⟨x103, hg, hf⟩ := o1_s hf
      refine Ct.callV0 (ws' := wRf g h0 h1 h2 h3 R) (As := [.int a1, .int (2 : Int32)]) (rest := [.int x102]) (st1 := [.int x103, .int x102]) (c_X1_get l g h0 h1 h2 h3 R a1 (2 : Int32) hg) (cwV 2 hts gX1_leaked_X1_get rfl rfl rfl q_X1_get ⟨Nat.le_of_ble_eq_true rfl, Nat.le_of_ble_eq_true rfl⟩) ⟨hx, hb, hml, hown, hts⟩ hE hP hD hS hA 1 0 rfl rfl rfl rfl hl.1 rfl rfl (Nat.le_of_ble_eq_true rfl) dX1_leaked_37 (fun H locs hP hD hS => ?_)
      refine va_mmin hx hb (hml.trans hl.1.symm) hown w2 w3 w4 w5 (Nat.le_of_ble_eq_true rfl) (Nat.le_of_ble_eq_true rfl) (Nat.zero_le _) (Nat.zero_le _) dX1_leaked_40 ?_
      obtain rfl := Option.some.inj hf
      rw [hQ]; exact Ct.iret hx hb hr hlocks hAe hP hD hS dX1_leaked_43
    · have hf := if_f hf hc
      refine lv_aload_n hx hb dX1_leaked_17 rfl (lv_at hl 0 rfl) ?_
      refine lv_iload_n hx hb dX1_leaked_18 rfl (lv_at hl 1 rfl) ?_
      refine lv_iconst (v := (5 : Int32)) hx hb dX1_leaked_19 (by decide) ?_
      obtain ⟨x104, hg, hf⟩ := o1_s hf
      refine Ct.callV0 (ws' := wRf g h0 h1 h2 h3 R) (As := [.int a1, .int (5 : Int32)]) (rest := []) (st1 := [.int x104]) (c_X1_isOf l g h0 h1 h2 h3 R a1 (5 : Int32) hg) (cwV 2 hts gX1_leaked_X1_isOf rfl rfl rfl q_X1_isOf ⟨Nat.le_of_ble_eq_true rfl, Nat.le_of_ble_eq_true rfl⟩) ⟨hx, hb, hml, hown, hts⟩ hE hP hD hS hA 1 0 rfl rfl rfl rfl hl.1 rfl rfl (Nat.le_of_ble_eq_true rfl) dX1_leaked_20 (fun H locs hP hD hS => ?_)
      refine lv_if_eq (tgt := 28) hx hb dX1_leaked_23 (by decide) (fun hc => ?_) (fun hc => ?_)
      · have hf := if_t hf hc
        refine lv_aload_n hx hb dX1_leaked_28 rfl (lv_at hl 0 rfl) ?_
        refine lv_iload_n hx hb dX1_leaked_29 rfl (lv_at hl 1 rfl) ?_
        refine lv_iconst (v := (3 : Int32)) hx hb dX1_leaked_30 (by decide) ?_
        obtain ⟨x105, hg, hf⟩ := o1_s hf
        refine Ct.callV0 (ws' := wRf g h0 h1 h2 h3 R) (As := [.int a1, .int (3 : Int32)]) (rest := []) (st1 := [.int x105]) (c_X1_get l g h0 h1 h2 h3 R a1 (3 : Int32) hg) (cwV 2 hts gX1_leaked_X1_get rfl rfl rfl q_X1_get ⟨Nat.le_of_ble_eq_true rfl, Nat.le_of_ble_eq_true rfl⟩) ⟨hx, hb, hml, hown, hts⟩ hE hP hD hS hA 1 0 rfl rfl rfl rfl hl.1 rfl rfl (Nat.le_of_ble_eq_true rfl) dX1_leaked_31 (fun H locs hP hD hS => ?_)
        refine lv_aload_n hx hb dX1_leaked_34 rfl (lv_at hl 0 rfl) ?_
        refine lv_iload_n hx hb dX1_leaked_35 rfl (lv_at hl 1 rfl) ?_
        refine lv_iconst (v := (2 : Int32)) hx hb dX1_leaked_36 (by decide) ?_
        obtain ⟨x106, hg, hf⟩ := o1_s hf
        refine Ct.callV0 (ws' := wRf g h0 h1 h2 h3 R) (As := [.int a1, .int (2 : Int32)]) (rest := [.int x105]) (st1 := [.int x106, .int x105]) (c_X1_get l g h0 h1 h2 h3 R a1 (2 : Int32) hg) (cwV 2 hts gX1_leaked_X1_get rfl rfl rfl q_X1_get ⟨Nat.le_of_ble_eq_true rfl, Nat.le_of_ble_eq_true rfl⟩) ⟨hx, hb, hml, hown, hts⟩ hE hP hD hS hA 1 0 rfl rfl rfl rfl hl.1 rfl rfl (Nat.le_of_ble_eq_true rfl) dX1_leaked_37 (fun H locs hP hD hS => ?_)
        refine va_mmin hx hb (hml.trans hl.1.symm) hown w2 w3 w4 w5 (Nat.le_of_ble_eq_true rfl) (Nat.le_of_ble_eq_true rfl) (Nat.zero_le _) (Nat.zero_le _) dX1_leaked_40 ?_
        obtain rfl := Option.some.inj hf
        rw [hQ]; exact Ct.iret hx hb hr hlocks hAe hP hD hS dX1_leaked_43
      · have hf := if_f hf hc
        refine lv_iconst (v := (0 : Int32)) hx hb dX1_leaked_26 (by decide) ?_
        obtain rfl := Option.some.inj hf
        rw [hQ]; exact Ct.iret hx hb hr hlocks hAe hP hD hS dX1_leaked_27
def fX1_runningOver (R : Rf) (a1 : Int32) : Option (Int32) := o1 (fX1_get R a1 (2 : Int32)) (fun x101 => o1 (fX1_get R a1 (1 : Int32)) (fun x102 => o1 (fX1_isOf R a1 (1 : Int32)) (fun x103 => if x103 = 0 then (some (if (0 : Int32) < (x101 - x102) then (x101 - x102) else (0 : Int32))) else (if (x101 - x102) < 0 then (some (0 : Int32)) else (some x101)))))
theorem q_X1_runningOver : yX1_runningOver.cls = RX1 ∧ yX1_runningOver.cls ≠ "java/lang/invoke/MethodHandle" ∧ yX1_runningOver.cls ≠ "java/lang/invoke/VarHandle" ∧ (parseMethodDescriptor yX1_runningOver.desc).map (fun d => d.parameters.length) = some 1 := by decide +kernel
set_option maxHeartbeats 4000000 in
set_option maxRecDepth 100000 in
theorem c_X1_runningOver (l : Launch) (g : gG) (h0 h1 h2 h3 : Nat) (R : Rf) (a1 : Int32) {r : Int32} (hf : fX1_runningOver R a1 = some r) : Ct l yX1_runningOver wsX1_runningOver (rmm 2 46) g (wRf g h0 h1 h2 h3 R) (wRf g h0 h1 h2 h3 R) [.ref h0, .int a1] (some (.int r)) := by
  refine Ct.mk (by decide) rfl (Nat.le_of_ble_eq_true rfl) ?_
  intro p e s m args below meth c A ls hx hb hr hml hts hown hlocks hA hE hP hD hS hl hAe
  obtain ⟨Qx, hQ⟩ : ∃ Qx : State → Prop, Qx = MQ below (QcG g (wRf g h0 h1 h2 h3 R) (wRf g h0 h1 h2 h3 R) (some (.int r)) s.heap.size) args s 0 0 A := ⟨_, rfl⟩
  rw [← hQ]
  have hown : s.vm.findClass RX1 = some m.cls := hown
  have hl : lv_has ls 4 [(0, .ref h0), (1, .int a1)] := hl
  have w1 := hts (.methodLink RX1 53 Lib.Math.max.name) (List.mem_of_getElem? (i := 1) rfl)
  have w2 := hts (.static Lib.Math.max.name) (List.mem_of_getElem? (i := 2) rfl)
  have w3 := hts (.initialized "java/lang/Math") (List.mem_of_getElem? (i := 3) rfl)
  have w4 := hts (.code Lib.Math.max.name Lib.Math.max.code 2 (some .int)) (List.mem_of_getElem? (i := 4) rfl)
  unfold fX1_runningOver at hf
  refine lv_aload_n hx hb dX1_runningOver_0 rfl (lv_at hl 0 rfl) ?_
  refine lv_iload_n hx hb dX1_runningOver_1 rfl (lv_at hl 1 rfl) ?_
  refine lv_iconst (v := (2 : Int32)) hx hb dX1_runningOver_2 (by decide) ?_
  obtain ⟨x101, hg, hf⟩ := o1_s hf
  refine Ct.callV0 (ws' := wRf g h0 h1 h2 h3 R) (As := [.int a1, .int (2 : Int32)]) (rest := []) (st1 := [.int x101]) (c_X1_get l g h0 h1 h2 h3 R a1 (2 : Int32) hg) (cwV 2 hts gX1_runningOver_X1_get rfl rfl rfl q_X1_get ⟨Nat.le_of_ble_eq_true rfl, Nat.le_of_ble_eq_true rfl⟩) ⟨hx, hb, hml, hown, hts⟩ hE hP hD hS hA 1 0 rfl rfl rfl rfl hl.1 rfl rfl (Nat.le_of_ble_eq_true rfl) dX1_runningOver_3 (fun H locs hP hD hS => ?_)
  refine lv_istore_n (lv' := [(2, .int x101), (0, .ref h0), (1, .int a1)]) hx hb dX1_runningOver_6 rfl hl (by decide) rfl (fun ls hl => ?_)
  refine lv_iload_n hx hb dX1_runningOver_7 rfl (lv_at hl 0 rfl) ?_
  refine lv_aload_n hx hb dX1_runningOver_8 rfl (lv_at hl 1 rfl) ?_
  refine lv_iload_n hx hb dX1_runningOver_9 rfl (lv_at hl 2 rfl) ?_
  refine lv_iconst (v := (1 : Int32)) hx hb dX1_runningOver_10 (by decide) ?_
  obtain ⟨x102, hg, hf⟩ := o1_s hf
  refine Ct.callV0 (ws' := wRf g h0 h1 h2 h3 R) (As := [.int a1, .int (1 : Int32)]) (rest := [.int x101]) (st1 := [.int x102, .int x101]) (c_X1_get l g h0 h1 h2 h3 R a1 (1 : Int32) hg) (cwV 2 hts gX1_runningOver_X1_get rfl rfl rfl q_X1_get ⟨Nat.le_of_ble_eq_true rfl, Nat.le_of_ble_eq_true rfl⟩) ⟨hx, hb, hml, hown, hts⟩ hE hP hD hS hA 1 0 rfl rfl rfl rfl hl.1 rfl rfl (Nat.le_of_ble_eq_true rfl) dX1_runningOver_11 (fun H locs hP hD hS => ?_)
  refine lv_isub hx hb dX1_runningOver_14 ?_
  refine lv_istore_n (lv' := [(3, .int (x101 - x102)), (2, .int x101), (0, .ref h0), (1, .int a1)]) hx hb dX1_runningOver_15 rfl hl (by decide) rfl (fun ls hl => ?_)
  refine lv_aload_n hx hb dX1_runningOver_16 rfl (lv_at hl 2 rfl) ?_
  refine lv_iload_n hx hb dX1_runningOver_17 rfl (lv_at hl 3 rfl) ?_
  refine lv_iconst (v := (1 : Int32)) hx hb dX1_runningOver_18 (by decide) ?_
  obtain ⟨x103, hg, hf⟩ := o1_s hf
  refine Ct.callV0 (ws' := wRf g h0 h1 h2 h3 R) (As := [.int a1, .int (1 : Int32)]) (rest := []) (st1 := [.int x103]) (c_X1_isOf l g h0 h1 h2 h3 R a1 (1 : Int32) hg) (cwV 2 hts gX1_runningOver_X1_isOf rfl rfl rfl q_X1_isOf ⟨Nat.le_of_ble_eq_true rfl, Nat.le_of_ble_eq_true rfl⟩) ⟨hx, hb, hml, hown, hts⟩ hE hP hD hS hA 1 0 rfl rfl rfl rfl hl.1 rfl rfl (Nat.le_of_ble_eq_true rfl) dX1_runningOver_19 (fun H locs hP hD hS => ?_)
  refine lv_if_eq (tgt := 35) hx hb dX1_runningOver_22 (by decide) (fun hc => ?_) (fun hc => ?_)
  · have hf := if_t hf hc
    refine lv_iconst (v := (0 : Int32)) hx hb dX1_runningOver_35 (by decide) ?_
    refine lv_iload_n hx hb dX1_runningOver_36 rfl (lv_at hl 0 rfl) ?_
    refine va_mmax hx hb (hml.trans hl.1.symm) hown w1 w2 w3 w4 (Nat.le_of_ble_eq_true rfl) (Nat.le_of_ble_eq_true rfl) (Nat.zero_le _) (Nat.zero_le _) dX1_runningOver_37 ?_
    obtain rfl := Option.some.inj hf
    rw [hQ]; exact Ct.iret hx hb hr hlocks hAe hP hD hS dX1_runningOver_40
  · have hf := if_f hf hc
    refine lv_iload_n hx hb dX1_runningOver_25 rfl (lv_at hl 0 rfl) ?_
    refine lv_if_lt (tgt := 33) hx hb dX1_runningOver_26 (by decide) (fun hc => ?_) (fun hc => ?_)
    · have hf := if_t hf hc
      refine lv_iconst (v := (0 : Int32)) hx hb dX1_runningOver_33 (by decide) ?_
      obtain rfl := Option.some.inj hf
      rw [hQ]; exact Ct.iret hx hb hr hlocks hAe hP hD hS dX1_runningOver_34
    · have hf := if_f hf hc
      refine lv_iload_n hx hb dX1_runningOver_29 rfl (lv_at hl 1 rfl) ?_
      refine lv_goto (tgt := 34) hx hb dX1_runningOver_30 (by decide) ?_
      obtain rfl := Option.some.inj hf
      rw [hQ]; exact Ct.iret hx hb hr hlocks hAe hP hD hS dX1_runningOver_34
def fX1_gutterEnd (R : Rf) (a1 : Int32) : Option (Int32) := o1 (fX1_get R a1 (4 : Int32)) (fun x101 => o1 (fX1_hasCistern R x101) (fun x102 => if x102 = 0 then (some (-1 : Int32)) else (if x101 = a1 then (some (-1 : Int32)) else (some x101))))
theorem q_X1_gutterEnd : yX1_gutterEnd.cls = RX1 ∧ yX1_gutterEnd.cls ≠ "java/lang/invoke/MethodHandle" ∧ yX1_gutterEnd.cls ≠ "java/lang/invoke/VarHandle" ∧ (parseMethodDescriptor yX1_gutterEnd.desc).map (fun d => d.parameters.length) = some 1 := by decide +kernel
set_option maxHeartbeats 4000000 in
set_option maxRecDepth 100000 in
theorem c_X1_gutterEnd (l : Launch) (g : gG) (h0 h1 h2 h3 : Nat) (R : Rf) (a1 : Int32) {r : Int32} (hf : fX1_gutterEnd R a1 = some r) : Ct l yX1_gutterEnd wsX1_gutterEnd (rmm 1 23) g (wRf g h0 h1 h2 h3 R) (wRf g h0 h1 h2 h3 R) [.ref h0, .int a1] (some (.int r)) := by
  refine Ct.mk (by decide) rfl (Nat.le_of_ble_eq_true rfl) ?_
  intro p e s m args below meth c A ls hx hb hr hml hts hown hlocks hA hE hP hD hS hl hAe
  obtain ⟨Qx, hQ⟩ : ∃ Qx : State → Prop, Qx = MQ below (QcG g (wRf g h0 h1 h2 h3 R) (wRf g h0 h1 h2 h3 R) (some (.int r)) s.heap.size) args s 0 0 A := ⟨_, rfl⟩
  rw [← hQ]
  have hown : s.vm.findClass RX1 = some m.cls := hown
  have hl : lv_has ls 3 [(0, .ref h0), (1, .int a1)] := hl
  unfold fX1_gutterEnd at hf
  refine lv_aload_n hx hb dX1_gutterEnd_0 rfl (lv_at hl 0 rfl) ?_
  refine lv_iload_n hx hb dX1_gutterEnd_1 rfl (lv_at hl 1 rfl) ?_
  refine lv_iconst (v := (4 : Int32)) hx hb dX1_gutterEnd_2 (by decide) ?_
  obtain ⟨x101, hg, hf⟩ := o1_s hf
  refine Ct.callV0 (ws' := wRf g h0 h1 h2 h3 R) (As := [.int a1, .int (4 : Int32)]) (rest := []) (st1 := [.int x101]) (c_X1_get l g h0 h1 h2 h3 R a1 (4 : Int32) hg) (cwV 2 hts gX1_gutterEnd_X1_get rfl rfl rfl q_X1_get ⟨Nat.le_of_ble_eq_true rfl, Nat.le_of_ble_eq_true rfl⟩) ⟨hx, hb, hml, hown, hts⟩ hE hP hD hS hA 1 0 rfl rfl rfl rfl hl.1 rfl rfl (Nat.le_of_ble_eq_true rfl) dX1_gutterEnd_3 (fun H locs hP hD hS => ?_)
  refine lv_istore_n (lv' := [(2, .int x101), (0, .ref h0), (1, .int a1)]) hx hb dX1_gutterEnd_6 rfl hl (by decide) rfl (fun ls hl => ?_)
  refine lv_aload_n hx hb dX1_gutterEnd_7 rfl (lv_at hl 1 rfl) ?_
  refine lv_iload_n hx hb dX1_gutterEnd_8 rfl (lv_at hl 0 rfl) ?_
  obtain ⟨x102, hg, hf⟩ := o1_s hf
  refine Ct.callV0 (ws' := wRf g h0 h1 h2 h3 R) (As := [.int x101]) (rest := []) (st1 := [.int x102]) (c_X1_hasCistern l g h0 h1 h2 h3 R x101 hg) (cwV 1 hts gX1_gutterEnd_X1_hasCistern rfl rfl rfl q_X1_hasCistern ⟨Nat.le_of_ble_eq_true rfl, Nat.le_of_ble_eq_true rfl⟩) ⟨hx, hb, hml, hown, hts⟩ hE hP hD hS hA 1 0 rfl rfl rfl rfl hl.1 rfl rfl (Nat.le_of_ble_eq_true rfl) dX1_gutterEnd_9 (fun H locs hP hD hS => ?_)
  refine lv_if_eq (tgt := 24) hx hb dX1_gutterEnd_12 (by decide) (fun hc => ?_) (fun hc => ?_)
  · have hf := if_t hf hc
    refine lv_iconst (v := (-1 : Int32)) hx hb dX1_gutterEnd_24 (by decide) ?_
    obtain rfl := Option.some.inj hf
    rw [hQ]; exact Ct.iret hx hb hr hlocks hAe hP hD hS dX1_gutterEnd_25
  · have hf := if_f hf hc
    refine lv_iload_n hx hb dX1_gutterEnd_15 rfl (lv_at hl 0 rfl) ?_
    refine lv_iload_n hx hb dX1_gutterEnd_16 rfl (lv_at hl 2 rfl) ?_
    refine lv_icmp_eq (tgt := 24) hx hb dX1_gutterEnd_17 (by decide) (fun hc => ?_) (fun hc => ?_)
    · have hf := if_t hf hc
      refine lv_iconst (v := (-1 : Int32)) hx hb dX1_gutterEnd_24 (by decide) ?_
      obtain rfl := Option.some.inj hf
      rw [hQ]; exact Ct.iret hx hb hr hlocks hAe hP hD hS dX1_gutterEnd_25
    · have hf := if_f hf hc
      refine lv_iload_n hx hb dX1_gutterEnd_20 rfl (lv_at hl 0 rfl) ?_
      refine lv_goto (tgt := 25) hx hb dX1_gutterEnd_21 (by decide) ?_
      obtain rfl := Option.some.inj hf
      rw [hQ]; exact Ct.iret hx hb hr hlocks hAe hP hD hS dX1_gutterEnd_25
def fX1_reachedFrom_L11 (R : Rf) (kx : Int32 → Option (Int32)) : Nat → Int32 → Int32 → Int32 → Option (Int32)
  | 0, _, _, _ => none
  | k + 1, x2, x3, x4 => if (8 : Int32) ≤ x4 then (kx x2) else (if x3 < 0 then (kx x2) else (o1 (fX1_gutterEnd R x3) (fun x103 => fX1_reachedFrom_L11 R kx k (x2 ||| ((1 : Int32) <<< (x3 &&& 31))) x103 (x4 + (1 : Int32)))))
def fX1_reachedFrom (R : Rf) (a1 : Int32) : Option (Int32) := o1 (fX1_gutterEnd R a1) (fun x101 => fX1_reachedFrom_L11 R (fun x104 => some x104) fu (0 : Int32) x101 (0 : Int32))
theorem q_X1_reachedFrom : yX1_reachedFrom.cls = RX1 ∧ yX1_reachedFrom.cls ≠ "java/lang/invoke/MethodHandle" ∧ yX1_reachedFrom.cls ≠ "java/lang/invoke/VarHandle" ∧ (parseMethodDescriptor yX1_reachedFrom.desc).map (fun d => d.parameters.length) = some 1 := by decide +kernel
set_option maxHeartbeats 4000000 in
set_option maxRecDepth 100000 in
theorem c_X1_reachedFrom (l : Launch) (g : gG) (h0 h1 h2 h3 : Nat) (R : Rf) (a1 : Int32) {r : Int32} (hf : fX1_reachedFrom R a1 = some r) : Ct l yX1_reachedFrom wsX1_reachedFrom (rmm 2 45) g (wRf g h0 h1 h2 h3 R) (wRf g h0 h1 h2 h3 R) [.ref h0, .int a1] (some (.int r)) := by
  refine Ct.mk (by decide) rfl (Nat.le_of_ble_eq_true rfl) ?_
  intro p e s m args below meth c A ls hx hb hr hml hts hown hlocks hA hE hP hD hS hl hAe
  obtain ⟨Qx, hQ⟩ : ∃ Qx : State → Prop, Qx = MQ below (QcG g (wRf g h0 h1 h2 h3 R) (wRf g h0 h1 h2 h3 R) (some (.int r)) s.heap.size) args s 0 0 A := ⟨_, rfl⟩
  rw [← hQ]
  have hown : s.vm.findClass RX1 = some m.cls := hown
  have hl : lv_has ls 5 [(0, .ref h0), (1, .int a1)] := hl
  have L11 : ∀ (kx : Int32 → Option (Int32)) (k : Nat) (x2 : Int32) (x3 : Int32) (x4 : Int32) (H : Heap) (locs : List Loc) (ls : Array Slot), fX1_reachedFrom_L11 R kx k x2 x3 x4 = some r → va_P g.1 vwK (wRf g h0 h1 h2 h3 R) H → va_D A (wRf g h0 h1 h2 h3 R) → va_S A s.heap H locs → lv_has ls 5 [(0, .ref h0), (2, .int x2), (3, .int x3), (4, .int x4)] → (∀ (x2 : Int32) (H : Heap) (locs : List Loc) (ls : Array Slot), kx x2 = some r → va_P g.1 vwK (wRf g h0 h1 h2 h3 R) H → va_D A (wRf g h0 h1 h2 h3 R) → va_S A s.heap H locs → lv_has ls 5 [(2, .int x2)] → W p l e (rmm 2 45) s m args below meth c H locs 0 0 Qx (F0 m 40 ls [])) → W p l e (rmm 2 45) s m args below meth c H locs 0 0 Qx (F0 m 11 ls []) := by
    intro kx k
    induction k with
    | zero => intro x2 x3 x4 H locs ls hf; exact nomatch (show (none : Option (Int32)) = some _ from hf)
    | succ k ih =>
      intro x2 x3 x4 H locs ls hf hP hD hS hl hk
      rw [fX1_reachedFrom_L11] at hf
      refine lv_iload hx hb dX1_reachedFrom_11 (lv_at hl 3 rfl) ?_
      refine lv_bipush (v := (8 : Int32)) hx hb dX1_reachedFrom_13 (by decide) ?_
      refine lv_icmp_ge (tgt := 40) hx hb dX1_reachedFrom_15 (by decide) (fun hc => ?_) (fun hc => ?_)
      · have hf := if_t hf hc
        exact hk _ _ _ _  hf hP hD hS (lv_sub hl [1] rfl)
      · have hf := if_f hf hc
        refine lv_iload_n hx hb dX1_reachedFrom_18 rfl (lv_at hl 2 rfl) ?_
        refine lv_if_lt (tgt := 40) hx hb dX1_reachedFrom_19 (by decide) (fun hc => ?_) (fun hc => ?_)
        · have hf := if_t hf hc
          exact hk _ _ _ _  hf hP hD hS (lv_sub hl [1] rfl)
        · have hf := if_f hf hc
          refine lv_iload_n hx hb dX1_reachedFrom_22 rfl (lv_at hl 1 rfl) ?_
          refine lv_iconst (v := (1 : Int32)) hx hb dX1_reachedFrom_23 (by decide) ?_
          refine lv_iload_n hx hb dX1_reachedFrom_24 rfl (lv_at hl 2 rfl) ?_
          refine lv_ishl hx hb dX1_reachedFrom_25 ?_
          refine lv_ior hx hb dX1_reachedFrom_26 ?_
          refine lv_istore_n (lv' := [(2, .int (x2 ||| ((1 : Int32) <<< (x3 &&& 31)))), (0, .ref h0), (3, .int x3), (4, .int x4)]) hx hb dX1_reachedFrom_27 rfl hl (by decide) rfl (fun ls hl => ?_)
          refine lv_aload_n hx hb dX1_reachedFrom_28 rfl (lv_at hl 1 rfl) ?_
          refine lv_iload_n hx hb dX1_reachedFrom_29 rfl (lv_at hl 2 rfl) ?_
          obtain ⟨x103, hg, hf⟩ := o1_s hf
          refine Ct.callV0 (ws' := wRf g h0 h1 h2 h3 R) (As := [.int x3]) (rest := []) (st1 := [.int x103]) (c_X1_gutterEnd l g h0 h1 h2 h3 R x3 hg) (cwV 1 hts gX1_reachedFrom_X1_gutterEnd rfl rfl rfl q_X1_gutterEnd ⟨Nat.le_of_ble_eq_true rfl, Nat.le_of_ble_eq_true rfl⟩) ⟨hx, hb, hml, hown, hts⟩ hE hP hD hS hA 1 0 rfl rfl rfl rfl hl.1 rfl rfl (Nat.le_of_ble_eq_true rfl) dX1_reachedFrom_30 (fun H locs hP hD hS => ?_)
          refine lv_istore_n (lv' := [(3, .int x103), (2, .int (x2 ||| ((1 : Int32) <<< (x3 &&& 31)))), (0, .ref h0), (4, .int x4)]) hx hb dX1_reachedFrom_33 rfl hl (by decide) rfl (fun ls hl => ?_)
          refine lv_iinc (v := (x4 + (1 : Int32))) (lv' := [(4, .int (x4 + (1 : Int32))), (3, .int x103), (2, .int (x2 ||| ((1 : Int32) <<< (x3 &&& 31)))), (0, .ref h0)]) hx hb dX1_reachedFrom_34 hl (k := 3) rfl rfl (by decide) rfl (fun ls hl => ?_)
          refine lv_goto (tgt := 11) hx hb dX1_reachedFrom_37 (by decide) ?_
          exact ih _ _ _ _ _ _  hf hP hD hS (lv_sub hl [3, 2, 1, 0] rfl) hk
  unfold fX1_reachedFrom at hf
  refine lv_iconst (v := (0 : Int32)) hx hb dX1_reachedFrom_0 (by decide) ?_
  refine lv_istore_n (lv' := [(2, .int (0 : Int32)), (0, .ref h0), (1, .int a1)]) hx hb dX1_reachedFrom_1 rfl hl (by decide) rfl (fun ls hl => ?_)
  refine lv_aload_n hx hb dX1_reachedFrom_2 rfl (lv_at hl 1 rfl) ?_
  refine lv_iload_n hx hb dX1_reachedFrom_3 rfl (lv_at hl 2 rfl) ?_
  obtain ⟨x101, hg, hf⟩ := o1_s hf
  refine Ct.callV0 (ws' := wRf g h0 h1 h2 h3 R) (As := [.int a1]) (rest := []) (st1 := [.int x101]) (c_X1_gutterEnd l g h0 h1 h2 h3 R a1 hg) (cwV 1 hts gX1_reachedFrom_X1_gutterEnd rfl rfl rfl q_X1_gutterEnd ⟨Nat.le_of_ble_eq_true rfl, Nat.le_of_ble_eq_true rfl⟩) ⟨hx, hb, hml, hown, hts⟩ hE hP hD hS hA 1 0 rfl rfl rfl rfl hl.1 rfl rfl (Nat.le_of_ble_eq_true rfl) dX1_reachedFrom_4 (fun H locs hP hD hS => ?_)
  refine lv_istore_n (lv' := [(3, .int x101), (2, .int (0 : Int32)), (0, .ref h0), (1, .int a1)]) hx hb dX1_reachedFrom_7 rfl hl (by decide) rfl (fun ls hl => ?_)
  refine lv_iconst (v := (0 : Int32)) hx hb dX1_reachedFrom_8 (by decide) ?_
  refine lv_istore (lv' := [(4, .int (0 : Int32)), (3, .int x101), (2, .int (0 : Int32)), (0, .ref h0), (1, .int a1)]) hx hb dX1_reachedFrom_9 hl (by decide) rfl (fun ls hl => ?_)
  refine L11 _ _ _ _ _ _ _ _  hf hP hD hS (lv_sub hl [3, 2, 1, 0] rfl) (fun x104 H locs ls hf hP hD hS hl => ?_)
  refine lv_iload_n hx hb dX1_reachedFrom_40 rfl (lv_at hl 0 rfl) ?_
  obtain rfl := Option.some.inj hf
  rw [hQ]; exact Ct.iret hx hb hr hlocks hAe hP hD hS dX1_reachedFrom_41
def fX1_runOver (R : Rf) (a1 : Int32) (a2 : Int32) : Option (Rf) := o1 (fX1_gutterEnd R a1) (fun x101 => o1 (fX1_raise R a1 (-a2)) (fun R102 => if x101 < 0 then (some (R102.1, R102.2.1, R102.2.2.1, R102.2.2.2.1, R102.2.2.2.2.1, R102.2.2.2.2.2.1, R102.2.2.2.2.2.2.1, (R102.2.2.2.2.2.2.2.1 + a2), R102.2.2.2.2.2.2.2.2)) else (o1 (fX1_raise R102 x101 a2) (fun R103 => some R103))))
theorem q_X1_runOver : yX1_runOver.cls = RX1 ∧ yX1_runOver.cls ≠ "java/lang/invoke/MethodHandle" ∧ yX1_runOver.cls ≠ "java/lang/invoke/VarHandle" ∧ (parseMethodDescriptor yX1_runOver.desc).map (fun d => d.parameters.length) = some 2 := by decide +kernel
theorem i_X1_runOver_X1 : ∀ w ∈ u_ws RX1 TX1 9, w ∈ wsX1_runOver := fun _ h => List.mem_cons_of_mem _ (List.mem_append_right _ (h))
set_option maxHeartbeats 4000000 in
set_option maxRecDepth 100000 in
theorem c_X1_runOver (l : Launch) (g : gG) (h0 h1 h2 h3 : Nat) (R : Rf) (a1 : Int32) (a2 : Int32) {R' : Rf} (hf : fX1_runOver R a1 a2 = some R') : Ct l yX1_runOver wsX1_runOver (rmm 2 46) g (wRf g h0 h1 h2 h3 R) (wRf g h0 h1 h2 h3 (R')) [.ref h0, .int a1, .int a2] none := by
  refine Ct.mk (by decide) rfl (Nat.le_of_ble_eq_true rfl) ?_
  intro p e s m args below meth c A ls hx hb hr hml hts hown hlocks hA hE hP hD hS hl hAe
  obtain ⟨Qx, hQ⟩ : ∃ Qx : State → Prop, Qx = MQ below (QcG g (wRf g h0 h1 h2 h3 R) (wRf g h0 h1 h2 h3 (R')) none s.heap.size) args s 0 0 A := ⟨_, rfl⟩
  rw [← hQ]
  have hown : s.vm.findClass RX1 = some m.cls := hown
  have hl : lv_has ls 4 [(0, .ref h0), (1, .int a1), (2, .int a2)] := hl
  have w1 := hts (.fieldLink RX1 35 "RainVault$Roof" "ranOff" "I") (List.mem_of_getElem? (i := 1) rfl)
  unfold fX1_runOver at hf
  refine lv_aload_n hx hb dX1_runOver_0 rfl (lv_at hl 0 rfl) ?_
  refine lv_iload_n hx hb dX1_runOver_1 rfl (lv_at hl 1 rfl) ?_
  obtain ⟨x101, hg, hf⟩ := o1_s hf
  refine Ct.callV0 (ws' := wRf g h0 h1 h2 h3 R) (As := [.int a1]) (rest := []) (st1 := [.int x101]) (c_X1_gutterEnd l g h0 h1 h2 h3 R a1 hg) (cwV 1 hts gX1_runOver_X1_gutterEnd rfl rfl rfl q_X1_gutterEnd ⟨Nat.le_of_ble_eq_true rfl, Nat.le_of_ble_eq_true rfl⟩) ⟨hx, hb, hml, hown, hts⟩ hE hP hD hS hA 1 0 rfl rfl rfl rfl hl.1 rfl rfl (Nat.le_of_ble_eq_true rfl) dX1_runOver_2 (fun H locs hP hD hS => ?_)
  refine lv_istore_n (lv' := [(3, .int x101), (0, .ref h0), (1, .int a1), (2, .int a2)]) hx hb dX1_runOver_5 rfl hl (by decide) rfl (fun ls hl => ?_)
  refine lv_aload_n hx hb dX1_runOver_6 rfl (lv_at hl 1 rfl) ?_
  refine lv_iload_n hx hb dX1_runOver_7 rfl (lv_at hl 2 rfl) ?_
  refine lv_iload_n hx hb dX1_runOver_8 rfl (lv_at hl 3 rfl) ?_
  refine lv_ineg hx hb dX1_runOver_9 ?_
  obtain ⟨R102, hg, hf⟩ := o1_s hf
  refine Ct.callV0 (ws' := wRf g h0 h1 h2 h3 R102) (As := [.int a1, .int (-a2)]) (rest := []) (st1 := []) (c_X1_raise l g h0 h1 h2 h3 R a1 (-a2) hg) (cwV 2 hts gX1_runOver_X1_raise rfl rfl rfl q_X1_raise ⟨Nat.le_of_ble_eq_true rfl, Nat.le_of_ble_eq_true rfl⟩) ⟨hx, hb, hml, hown, hts⟩ hE hP hD hS hA 1 0 rfl rfl rfl rfl hl.1 rfl rfl (Nat.le_of_ble_eq_true rfl) dX1_runOver_10 (fun H locs hP hD hS => ?_)
  refine lv_iload_n hx hb dX1_runOver_13 rfl (lv_at hl 0 rfl) ?_
  refine lv_if_lt (tgt := 26) hx hb dX1_runOver_14 (by decide) (fun hc => ?_) (fun hc => ?_)
  · have hf := if_t hf hc
    refine lv_aload_n hx hb dX1_runOver_26 rfl (lv_at hl 1 rfl) ?_
    refine lv_dup hx hb dX1_runOver_27 rfl ?_
    refine va_get (D := g.1) (ci := 1) (v := .int R102.2.2.2.2.2.2.2.1) (C := RX1) (T := TX1) (N := 9) hx hb hts i_X1_runOver_X1 hown hE.1 hP 0 rfl rfl 7 (by decide) w1 (fun _ h9 => h9) rfl dX1_runOver_28 ?_
    refine lv_iload_n hx hb dX1_runOver_31 rfl (lv_at hl 3 rfl) ?_
    refine lv_iadd hx hb dX1_runOver_32 ?_
    refine va_put (D := g.1) (ci := 1) (v := .int (R102.2.2.2.2.2.2.2.1 + a2)) (ty := .int) (C := RX1) (T := TX1) (N := 9) hx hb hts i_X1_runOver_X1 tyX1 tyX1_ok nmX1 hown hE.1 hP hD hS 0 rfl rfl 7 (by decide) w1 (fun _ h9 => h9) rfl (by decide +kernel) rfl rfl (Nat.le_of_ble_eq_true rfl) dX1_runOver_33 (fun H locs hP hD hS => ?_)
    have hP : va_P g.1 vwK (wRf g h0 h1 h2 h3 (R102.1, R102.2.1, R102.2.2.1, R102.2.2.2.1, R102.2.2.2.2.1, R102.2.2.2.2.2.1, R102.2.2.2.2.2.2.1, (R102.2.2.2.2.2.2.2.1 + a2), R102.2.2.2.2.2.2.2.2)) H := hP
    have hD : va_D A (wRf g h0 h1 h2 h3 (R102.1, R102.2.1, R102.2.2.1, R102.2.2.2.1, R102.2.2.2.2.1, R102.2.2.2.2.2.1, R102.2.2.2.2.2.2.1, (R102.2.2.2.2.2.2.2.1 + a2), R102.2.2.2.2.2.2.2.2)) := hD
    obtain rfl := Option.some.inj hf
    rw [hQ]; exact Ct.vret hx hb hr hlocks hAe hP hD hS dX1_runOver_36
  · have hf := if_f hf hc
    refine lv_aload_n hx hb dX1_runOver_17 rfl (lv_at hl 1 rfl) ?_
    refine lv_iload_n hx hb dX1_runOver_18 rfl (lv_at hl 0 rfl) ?_
    refine lv_iload_n hx hb dX1_runOver_19 rfl (lv_at hl 3 rfl) ?_
    obtain ⟨R103, hg, hf⟩ := o1_s hf
    refine Ct.callV0 (ws' := wRf g h0 h1 h2 h3 R103) (As := [.int x101, .int a2]) (rest := []) (st1 := []) (c_X1_raise l g h0 h1 h2 h3 R102 x101 a2 hg) (cwV 2 hts gX1_runOver_X1_raise rfl rfl rfl q_X1_raise ⟨Nat.le_of_ble_eq_true rfl, Nat.le_of_ble_eq_true rfl⟩) ⟨hx, hb, hml, hown, hts⟩ hE hP hD hS hA 1 0 rfl rfl rfl rfl hl.1 rfl rfl (Nat.le_of_ble_eq_true rfl) dX1_runOver_20 (fun H locs hP hD hS => ?_)
    refine lv_goto (tgt := 36) hx hb dX1_runOver_23 (by decide) ?_
    obtain rfl := Option.some.inj hf
    rw [hQ]; exact Ct.vret hx hb hr hlocks hAe hP hD hS dX1_runOver_36
