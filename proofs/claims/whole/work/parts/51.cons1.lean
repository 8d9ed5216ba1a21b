/-! ===== the constructors (printed by gen2.py) ===== -/
theorem i_X1_init_X1 : ∀ w ∈ u_ws RX1 TX1 9, w ∈ wsX1_init := fun _ h => List.mem_cons_of_mem _ (List.mem_append_right _ (h))
set_option maxHeartbeats 4000000 in
set_option maxRecDepth 100000 in
theorem c_X1_init (l : Launch) (g : gG) (h0 : Nat) : Cn l yX1_init wsX1_init 1 20 g [(h0, .inr (1, [.null, .null, .null, .int 0, .int 0, .int 0, .int 0, .int 0, .int 0]))] [.ref h0] (fun wo => ∃ h1 h2 h3, wo = [(h0, .inr (1, [.ref h1, .ref h2, .ref h3, .int 0, .int 0, .int 0, .int 0, .int 0, .int 1])), (h1, .inl (g.2.1 0, 88, .inl (fun _ => 0))), (h2, .inl (g.2.1 0, 24, .inl (fun _ => 0))), (h3, .inl (g.2.1 0, 10, .inl (spk 10)))]) 3 122 := by
  refine Cn.mk (by decide) rfl rfl (Nat.le_of_ble_eq_true rfl) ?_
  intro p e s m args below meth c A ls hx hb hr hml hts hown hlocks hin hA hE hO hP hD hS hl hAe
  obtain ⟨Qx, hQ⟩ : ∃ Qx : State → Prop, Qx = MQ below (QcX g [(h0, .inr (1, [.null, .null, .null, .int 0, .int 0, .int 0, .int 0, .int 0, .int 0]))] (fun wo => ∃ h1 h2 h3, wo = [(h0, .inr (1, [.ref h1, .ref h2, .ref h3, .int 0, .int 0, .int 0, .int 0, .int 0, .int 1])), (h1, .inl (g.2.1 0, 88, .inl (fun _ => 0))), (h2, .inl (g.2.1 0, 24, .inl (fun _ => 0))), (h3, .inl (g.2.1 0, 10, .inl (spk 10)))]) s.heap.size) args s 3 122 A := ⟨_, rfl⟩
  rw [← hQ]
  have hown : s.vm.findClass RX1 = some m.cls := hown
  have hl : lv_has ls 1 [(0, .ref h0)] := hl
  refine lv_aload_n hx hb dX1_init_0 rfl (lv_at hl 0 rfl) ?_
  refine W.objInit hx hb hown (hts (.methodLink RX1 3 objectInit) (by decide +kernel)) (hts (.instanceMethod objectInit) (by decide +kernel)) (hts (.code objectInit ⟨#[0xb1]⟩ 1 none) (by decide +kernel)) rfl (by rw [hml]; exact hl.1) rfl dX1_init_1 (Nat.le_of_ble_eq_true rfl) (Nat.le_of_ble_eq_true rfl) ?_
  refine W.eq (g2 := F0 m 4 ls []) rfl ?_
  refine lv_aload_n hx hb dX1_init_4 rfl (lv_at hl 0 rfl) ?_
  refine lv_bipush (v := (88 : Int32)) hx hb dX1_init_5 (by decide) ?_
  refine xc_newa (N := 88) hx hb (hts (.arrayClass .int) (by decide +kernel)) hE.1 hP hD hS hA (by decide) (by decide) (Nat.le_of_ble_eq_true rfl) (Nat.le_of_ble_eq_true rfl) (Nat.le_of_ble_eq_true rfl) dX1_init_7 (fun h1 H hP hD hS => ?_)
  have hP : va_P g.1 vwK [(h0, .inr (1, [.null, .null, .null, .int 0, .int 0, .int 0, .int 0, .int 0, .int 0])), (h1, .inl (g.2.1 0, 88, .inl (fun _ => 0)))] H := hP
  have hD : va_D A [(h0, .inr (1, [.null, .null, .null, .int 0, .int 0, .int 0, .int 0, .int 0, .int 0])), (h1, .inl (g.2.1 0, 88, .inl (fun _ => 0)))] := hD
  refine W.widen (k := 1) (n := 88) (Nat.le_of_ble_eq_true rfl) (Nat.le_of_ble_eq_true rfl) ?_
  refine va_putF (D := g.1) (ci := 1) (v := .ref h1) (ty := tyX1 0) (C := RX1) (T := TX1) (N := 9) hx hb hts i_X1_init_X1 tyX1 tyX1_ok nmX1 hown hE.1 hP hD hS 0 rfl rfl 0 (by decide) (hts (.fieldLink RX1 9 "RainVault$Roof" "facts" "[I") (by decide +kernel)) (fun _ h9 => h9) rfl hin rfl (by decide +kernel) rfl rfl (Nat.le_of_ble_eq_true rfl) dX1_init_9 (fun H locs hP hD hS => ?_)
  have hP : va_P g.1 vwK [(h0, .inr (1, [.ref h1, .null, .null, .int 0, .int 0, .int 0, .int 0, .int 0, .int 0])), (h1, .inl (g.2.1 0, 88, .inl (fun _ => 0)))] H := hP
  have hD : va_D A [(h0, .inr (1, [.ref h1, .null, .null, .int 0, .int 0, .int 0, .int 0, .int 0, .int 0])), (h1, .inl (g.2.1 0, 88, .inl (fun _ => 0)))] := hD
  refine lv_aload_n hx hb dX1_init_12 rfl (lv_at hl 0 rfl) ?_
  refine lv_bipush (v := (24 : Int32)) hx hb dX1_init_13 (by decide) ?_
  refine xc_newa (N := 24) hx hb (hts (.arrayClass .int) (by decide +kernel)) hE.1 hP hD hS hA (by decide) (by decide) (Nat.le_of_ble_eq_true rfl) (Nat.le_of_ble_eq_true rfl) (Nat.le_of_ble_eq_true rfl) dX1_init_15 (fun h2 H hP hD hS => ?_)
  have hP : va_P g.1 vwK [(h0, .inr (1, [.ref h1, .null, .null, .int 0, .int 0, .int 0, .int 0, .int 0, .int 0])), (h1, .inl (g.2.1 0, 88, .inl (fun _ => 0))), (h2, .inl (g.2.1 0, 24, .inl (fun _ => 0)))] H := hP
  have hD : va_D A [(h0, .inr (1, [.ref h1, .null, .null, .int 0, .int 0, .int 0, .int 0, .int 0, .int 0])), (h1, .inl (g.2.1 0, 88, .inl (fun _ => 0))), (h2, .inl (g.2.1 0, 24, .inl (fun _ => 0)))] := hD
  refine W.widen (k := 2) (n := 112) (Nat.le_of_ble_eq_true rfl) (Nat.le_of_ble_eq_true rfl) ?_
  refine va_putF (D := g.1) (ci := 1) (v := .ref h2) (ty := tyX1 1) (C := RX1) (T := TX1) (N := 9) hx hb hts i_X1_init_X1 tyX1 tyX1_ok nmX1 hown hE.1 hP hD hS 0 rfl rfl 1 (by decide) (hts (.fieldLink RX1 15 "RainVault$Roof" "conditionFacts" "[I") (by decide +kernel)) (fun _ h9 => h9) rfl hin rfl (by decide +kernel) rfl rfl (Nat.le_of_ble_eq_true rfl) dX1_init_17 (fun H locs hP hD hS => ?_)
  have hP : va_P g.1 vwK [(h0, .inr (1, [.ref h1, .ref h2, .null, .int 0, .int 0, .int 0, .int 0, .int 0, .int 0])), (h1, .inl (g.2.1 0, 88, .inl (fun _ => 0))), (h2, .inl (g.2.1 0, 24, .inl (fun _ => 0)))] H := hP
  have hD : va_D A [(h0, .inr (1, [.ref h1, .ref h2, .null, .int 0, .int 0, .int 0, .int 0, .int 0, .int 0])), (h1, .inl (g.2.1 0, 88, .inl (fun _ => 0))), (h2, .inl (g.2.1 0, 24, .inl (fun _ => 0)))] := hD
  refine lv_aload_n hx hb dX1_init_20 rfl (lv_at hl 0 rfl) ?_
  refine lv_bipush (v := (10 : Int32)) hx hb dX1_init_21 (by decide) ?_
  refine xc_newa (N := 10) hx hb (hts (.arrayClass .int) (by decide +kernel)) hE.1 hP hD hS hA (by decide) (by decide) (Nat.le_of_ble_eq_true rfl) (Nat.le_of_ble_eq_true rfl) (Nat.le_of_ble_eq_true rfl) dX1_init_23 (fun h3 H hP hD hS => ?_)
  have hP : va_P g.1 vwK [(h0, .inr (1, [.ref h1, .ref h2, .null, .int 0, .int 0, .int 0, .int 0, .int 0, .int 0])), (h1, .inl (g.2.1 0, 88, .inl (fun _ => 0))), (h2, .inl (g.2.1 0, 24, .inl (fun _ => 0))), (h3, .inl (g.2.1 0, 10, .inl (fun _ => 0)))] H := hP
  have hD : va_D A [(h0, .inr (1, [.ref h1, .ref h2, .null, .int 0, .int 0, .int 0, .int 0, .int 0, .int 0])), (h1, .inl (g.2.1 0, 88, .inl (fun _ => 0))), (h2, .inl (g.2.1 0, 24, .inl (fun _ => 0))), (h3, .inl (g.2.1 0, 10, .inl (fun _ => 0)))] := hD
  refine W.widen (k := 3) (n := 122) (Nat.le_of_ble_eq_true rfl) (Nat.le_of_ble_eq_true rfl) ?_
  refine lv_dup hx hb dX1_init_25 rfl ?_
  refine lv_iconst (v := (0 : Int32)) hx hb dX1_init_26 (by decide) ?_
  refine lv_iconst (v := (-1 : Int32)) hx hb dX1_init_27 (by decide) ?_
  refine st_iast (D := g.1) (cl := vwK) (f := (spk 0)) (f2 := (spk 1)) (ws' := [(h0, .inr (1, [.ref h1, .ref h2, .null, .int 0, .int 0, .int 0, .int 0, .int 0, .int 0])), (h1, .inl (g.2.1 0, 88, .inl (fun _ => 0))), (h2, .inl (g.2.1 0, 24, .inl (fun _ => 0))), (h3, .inl (g.2.1 0, 10, .inl (spk 1)))]) hx hb hE.1 hP hD hS 3 0 rfl rfl (by unfold vp_in; decide) rfl rfl dX1_init_28 (fun H locs hP hD hS => ?_)
  refine lv_dup hx hb dX1_init_29 rfl ?_
  refine lv_iconst (v := (1 : Int32)) hx hb dX1_init_30 (by decide) ?_
  refine lv_iconst (v := (-1 : Int32)) hx hb dX1_init_31 (by decide) ?_
  refine st_iast (D := g.1) (cl := vwK) (f := (spk 1)) (f2 := (spk 2)) (ws' := [(h0, .inr (1, [.ref h1, .ref h2, .null, .int 0, .int 0, .int 0, .int 0, .int 0, .int 0])), (h1, .inl (g.2.1 0, 88, .inl (fun _ => 0))), (h2, .inl (g.2.1 0, 24, .inl (fun _ => 0))), (h3, .inl (g.2.1 0, 10, .inl (spk 2)))]) hx hb hE.1 hP hD hS 3 0 rfl rfl (by unfold vp_in; decide) rfl rfl dX1_init_32 (fun H locs hP hD hS => ?_)
  refine lv_dup hx hb dX1_init_33 rfl ?_
  refine lv_iconst (v := (2 : Int32)) hx hb dX1_init_34 (by decide) ?_
  refine lv_iconst (v := (-1 : Int32)) hx hb dX1_init_35 (by decide) ?_
  refine st_iast (D := g.1) (cl := vwK) (f := (spk 2)) (f2 := (spk 3)) (ws' := [(h0, .inr (1, [.ref h1, .ref h2, .null, .int 0, .int 0, .int 0, .int 0, .int 0, .int 0])), (h1, .inl (g.2.1 0, 88, .inl (fun _ => 0))), (h2, .inl (g.2.1 0, 24, .inl (fun _ => 0))), (h3, .inl (g.2.1 0, 10, .inl (spk 3)))]) hx hb hE.1 hP hD hS 3 0 rfl rfl (by unfold vp_in; decide) rfl rfl dX1_init_36 (fun H locs hP hD hS => ?_)
  refine lv_dup hx hb dX1_init_37 rfl ?_
  refine lv_iconst (v := (3 : Int32)) hx hb dX1_init_38 (by decide) ?_
  refine lv_iconst (v := (-1 : Int32)) hx hb dX1_init_39 (by decide) ?_
  refine st_iast (D := g.1) (cl := vwK) (f := (spk 3)) (f2 := (spk 4)) (ws' := [(h0, .inr (1, [.ref h1, .ref h2, .null, .int 0, .int 0, .int 0, .int 0, .int 0, .int 0])), (h1, .inl (g.2.1 0, 88, .inl (fun _ => 0))), (h2, .inl (g.2.1 0, 24, .inl (fun _ => 0))), (h3, .inl (g.2.1 0, 10, .inl (spk 4)))]) hx hb hE.1 hP hD hS 3 0 rfl rfl (by unfold vp_in; decide) rfl rfl dX1_init_40 (fun H locs hP hD hS => ?_)
  refine lv_dup hx hb dX1_init_41 rfl ?_
  refine lv_iconst (v := (4 : Int32)) hx hb dX1_init_42 (by decide) ?_
  refine lv_iconst (v := (-1 : Int32)) hx hb dX1_init_43 (by decide) ?_
  refine st_iast (D := g.1) (cl := vwK) (f := (spk 4)) (f2 := (spk 5)) (ws' := [(h0, .inr (1, [.ref h1, .ref h2, .null, .int 0, .int 0, .int 0, .int 0, .int 0, .int 0])), (h1, .inl (g.2.1 0, 88, .inl (fun _ => 0))), (h2, .inl (g.2.1 0, 24, .inl (fun _ => 0))), (h3, .inl (g.2.1 0, 10, .inl (spk 5)))]) hx hb hE.1 hP hD hS 3 0 rfl rfl (by unfold vp_in; decide) rfl rfl dX1_init_44 (fun H locs hP hD hS => ?_)
  refine lv_dup hx hb dX1_init_45 rfl ?_
  refine lv_iconst (v := (5 : Int32)) hx hb dX1_init_46 (by decide) ?_
  refine lv_iconst (v := (-1 : Int32)) hx hb dX1_init_47 (by decide) ?_
  refine st_iast (D := g.1) (cl := vwK) (f := (spk 5)) (f2 := (spk 6)) (ws' := [(h0, .inr (1, [.ref h1, .ref h2, .null, .int 0, .int 0, .int 0, .int 0, .int 0, .int 0])), (h1, .inl (g.2.1 0, 88, .inl (fun _ => 0))), (h2, .inl (g.2.1 0, 24, .inl (fun _ => 0))), (h3, .inl (g.2.1 0, 10, .inl (spk 6)))]) hx hb hE.1 hP hD hS 3 0 rfl rfl (by unfold vp_in; decide) rfl rfl dX1_init_48 (fun H locs hP hD hS => ?_)
  refine lv_dup hx hb dX1_init_49 rfl ?_
  refine lv_bipush (v := (6 : Int32)) hx hb dX1_init_50 (by decide) ?_
  refine lv_iconst (v := (-1 : Int32)) hx hb dX1_init_52 (by decide) ?_
  refine st_iast (D := g.1) (cl := vwK) (f := (spk 6)) (f2 := (spk 7)) (ws' := [(h0, .inr (1, [.ref h1, .ref h2, .null, .int 0, .int 0, .int 0, .int 0, .int 0, .int 0])), (h1, .inl (g.2.1 0, 88, .inl (fun _ => 0))), (h2, .inl (g.2.1 0, 24, .inl (fun _ => 0))), (h3, .inl (g.2.1 0, 10, .inl (spk 7)))]) hx hb hE.1 hP hD hS 3 0 rfl rfl (by unfold vp_in; decide) rfl rfl dX1_init_53 (fun H locs hP hD hS => ?_)
  refine lv_dup hx hb dX1_init_54 rfl ?_
  refine lv_bipush (v := (7 : Int32)) hx hb dX1_init_55 (by decide) ?_
  refine lv_iconst (v := (-1 : Int32)) hx hb dX1_init_57 (by decide) ?_
  refine st_iast (D := g.1) (cl := vwK) (f := (spk 7)) (f2 := (spk 8)) (ws' := [(h0, .inr (1, [.ref h1, .ref h2, .null, .int 0, .int 0, .int 0, .int 0, .int 0, .int 0])), (h1, .inl (g.2.1 0, 88, .inl (fun _ => 0))), (h2, .inl (g.2.1 0, 24, .inl (fun _ => 0))), (h3, .inl (g.2.1 0, 10, .inl (spk 8)))]) hx hb hE.1 hP hD hS 3 0 rfl rfl (by unfold vp_in; decide) rfl rfl dX1_init_58 (fun H locs hP hD hS => ?_)
  refine lv_dup hx hb dX1_init_59 rfl ?_
  refine lv_bipush (v := (8 : Int32)) hx hb dX1_init_60 (by decide) ?_
  refine lv_iconst (v := (-1 : Int32)) hx hb dX1_init_62 (by decide) ?_
  refine st_iast (D := g.1) (cl := vwK) (f := (spk 8)) (f2 := (spk 9)) (ws' := [(h0, .inr (1, [.ref h1, .ref h2, .null, .int 0, .int 0, .int 0, .int 0, .int 0, .int 0])), (h1, .inl (g.2.1 0, 88, .inl (fun _ => 0))), (h2, .inl (g.2.1 0, 24, .inl (fun _ => 0))), (h3, .inl (g.2.1 0, 10, .inl (spk 9)))]) hx hb hE.1 hP hD hS 3 0 rfl rfl (by unfold vp_in; decide) rfl rfl dX1_init_63 (fun H locs hP hD hS => ?_)
  refine lv_dup hx hb dX1_init_64 rfl ?_
  refine lv_bipush (v := (9 : Int32)) hx hb dX1_init_65 (by decide) ?_
  refine lv_iconst (v := (-1 : Int32)) hx hb dX1_init_67 (by decide) ?_
  refine st_iast (D := g.1) (cl := vwK) (f := (spk 9)) (f2 := (spk 10)) (ws' := [(h0, .inr (1, [.ref h1, .ref h2, .null, .int 0, .int 0, .int 0, .int 0, .int 0, .int 0])), (h1, .inl (g.2.1 0, 88, .inl (fun _ => 0))), (h2, .inl (g.2.1 0, 24, .inl (fun _ => 0))), (h3, .inl (g.2.1 0, 10, .inl (spk 10)))]) hx hb hE.1 hP hD hS 3 0 rfl rfl (by unfold vp_in; decide) rfl rfl dX1_init_68 (fun H locs hP hD hS => ?_)
  refine va_putF (D := g.1) (ci := 1) (v := .ref h3) (ty := tyX1 2) (C := RX1) (T := TX1) (N := 9) hx hb hts i_X1_init_X1 tyX1 tyX1_ok nmX1 hown hE.1 hP hD hS 0 rfl rfl 2 (by decide) (hts (.fieldLink RX1 18 "RainVault$Roof" "spots" "[I") (by decide +kernel)) (fun _ h9 => h9) rfl hin rfl (by decide +kernel) rfl rfl (Nat.le_of_ble_eq_true rfl) dX1_init_69 (fun H locs hP hD hS => ?_)
  have hP : va_P g.1 vwK [(h0, .inr (1, [.ref h1, .ref h2, .ref h3, .int 0, .int 0, .int 0, .int 0, .int 0, .int 0])), (h1, .inl (g.2.1 0, 88, .inl (fun _ => 0))), (h2, .inl (g.2.1 0, 24, .inl (fun _ => 0))), (h3, .inl (g.2.1 0, 10, .inl (spk 10)))] H := hP
  have hD : va_D A [(h0, .inr (1, [.ref h1, .ref h2, .ref h3, .int 0, .int 0, .int 0, .int 0, .int 0, .int 0])), (h1, .inl (g.2.1 0, 88, .inl (fun _ => 0))), (h2, .inl (g.2.1 0, 24, .inl (fun _ => 0))), (h3, .inl (g.2.1 0, 10, .inl (spk 10)))] := hD
  refine lv_aload_n hx hb dX1_init_72 rfl (lv_at hl 0 rfl) ?_
  refine lv_iconst (v := (0 : Int32)) hx hb dX1_init_73 (by decide) ?_
  refine va_put (D := g.1) (ci := 1) (v := .int (0 : Int32)) (ty := tyX1 3) (C := RX1) (T := TX1) (N := 9) hx hb hts i_X1_init_X1 tyX1 tyX1_ok nmX1 hown hE.1 hP hD hS 0 rfl rfl 3 (by decide) (hts (.fieldLink RX1 21 "RainVault$Roof" "cisterns" "I") (by decide +kernel)) (fun _ h9 => h9) rfl (by decide +kernel) rfl rfl (Nat.le_of_ble_eq_true rfl) dX1_init_74 (fun H locs hP hD hS => ?_)
  have hP : va_P g.1 vwK [(h0, .inr (1, [.ref h1, .ref h2, .ref h3, .int (0 : Int32), .int 0, .int 0, .int 0, .int 0, .int 0])), (h1, .inl (g.2.1 0, 88, .inl (fun _ => 0))), (h2, .inl (g.2.1 0, 24, .inl (fun _ => 0))), (h3, .inl (g.2.1 0, 10, .inl (spk 10)))] H := hP
  have hD : va_D A [(h0, .inr (1, [.ref h1, .ref h2, .ref h3, .int (0 : Int32), .int 0, .int 0, .int 0, .int 0, .int 0])), (h1, .inl (g.2.1 0, 88, .inl (fun _ => 0))), (h2, .inl (g.2.1 0, 24, .inl (fun _ => 0))), (h3, .inl (g.2.1 0, 10, .inl (spk 10)))] := hD
  refine lv_aload_n hx hb dX1_init_77 rfl (lv_at hl 0 rfl) ?_
  refine lv_iconst (v := (0 : Int32)) hx hb dX1_init_78 (by decide) ?_
  refine va_put (D := g.1) (ci := 1) (v := .int (0 : Int32)) (ty := tyX1 4) (C := RX1) (T := TX1) (N := 9) hx hb hts i_X1_init_X1 tyX1 tyX1_ok nmX1 hown hE.1 hP hD hS 0 rfl rfl 4 (by decide) (hts (.fieldLink RX1 25 "RainVault$Roof" "conditions" "I") (by decide +kernel)) (fun _ h9 => h9) rfl (by decide +kernel) rfl rfl (Nat.le_of_ble_eq_true rfl) dX1_init_79 (fun H locs hP hD hS => ?_)
  have hP : va_P g.1 vwK [(h0, .inr (1, [.ref h1, .ref h2, .ref h3, .int (0 : Int32), .int (0 : Int32), .int 0, .int 0, .int 0, .int 0])), (h1, .inl (g.2.1 0, 88, .inl (fun _ => 0))), (h2, .inl (g.2.1 0, 24, .inl (fun _ => 0))), (h3, .inl (g.2.1 0, 10, .inl (spk 10)))] H := hP
  have hD : va_D A [(h0, .inr (1, [.ref h1, .ref h2, .ref h3, .int (0 : Int32), .int (0 : Int32), .int 0, .int 0, .int 0, .int 0])), (h1, .inl (g.2.1 0, 88, .inl (fun _ => 0))), (h2, .inl (g.2.1 0, 24, .inl (fun _ => 0))), (h3, .inl (g.2.1 0, 10, .inl (spk 10)))] := hD
  refine lv_aload_n hx hb dX1_init_82 rfl (lv_at hl 0 rfl) ?_
  refine lv_iconst (v := (0 : Int32)) hx hb dX1_init_83 (by decide) ?_
  refine va_put (D := g.1) (ci := 1) (v := .int (0 : Int32)) (ty := tyX1 5) (C := RX1) (T := TX1) (N := 9) hx hb hts i_X1_init_X1 tyX1 tyX1_ok nmX1 hown hE.1 hP hD hS 0 rfl rfl 5 (by decide) (hts (.fieldLink RX1 28 "RainVault$Roof" "isCold" "Z") (by decide +kernel)) (fun _ h9 => h9) rfl (by decide +kernel) (nb_n (by decide)) (nb_f (by decide)) (Nat.le_of_ble_eq_true rfl) dX1_init_84 (fun H locs hP hD hS => ?_)
  have hP : va_P g.1 vwK [(h0, .inr (1, [.ref h1, .ref h2, .ref h3, .int (0 : Int32), .int (0 : Int32), .int (0 : Int32), .int 0, .int 0, .int 0])), (h1, .inl (g.2.1 0, 88, .inl (fun _ => 0))), (h2, .inl (g.2.1 0, 24, .inl (fun _ => 0))), (h3, .inl (g.2.1 0, 10, .inl (spk 10)))] H := hP
  have hD : va_D A [(h0, .inr (1, [.ref h1, .ref h2, .ref h3, .int (0 : Int32), .int (0 : Int32), .int (0 : Int32), .int 0, .int 0, .int 0])), (h1, .inl (g.2.1 0, 88, .inl (fun _ => 0))), (h2, .inl (g.2.1 0, 24, .inl (fun _ => 0))), (h3, .inl (g.2.1 0, 10, .inl (spk 10)))] := hD
  refine lv_aload_n hx hb dX1_init_87 rfl (lv_at hl 0 rfl) ?_
  refine lv_iconst (v := (0 : Int32)) hx hb dX1_init_88 (by decide) ?_
  refine va_put (D := g.1) (ci := 1) (v := .int (0 : Int32)) (ty := tyX1 6) (C := RX1) (T := TX1) (N := 9) hx hb hts i_X1_init_X1 tyX1 tyX1_ok nmX1 hown hE.1 hP hD hS 0 rfl rfl 6 (by decide) (hts (.fieldLink RX1 32 "RainVault$Roof" "hour" "I") (by decide +kernel)) (fun _ h9 => h9) rfl (by decide +kernel) rfl rfl (Nat.le_of_ble_eq_true rfl) dX1_init_89 (fun H locs hP hD hS => ?_)
  have hP : va_P g.1 vwK [(h0, .inr (1, [.ref h1, .ref h2, .ref h3, .int (0 : Int32), .int (0 : Int32), .int (0 : Int32), .int (0 : Int32), .int 0, .int 0])), (h1, .inl (g.2.1 0, 88, .inl (fun _ => 0))), (h2, .inl (g.2.1 0, 24, .inl (fun _ => 0))), (h3, .inl (g.2.1 0, 10, .inl (spk 10)))] H := hP
  have hD : va_D A [(h0, .inr (1, [.ref h1, .ref h2, .ref h3, .int (0 : Int32), .int (0 : Int32), .int (0 : Int32), .int (0 : Int32), .int 0, .int 0])), (h1, .inl (g.2.1 0, 88, .inl (fun _ => 0))), (h2, .inl (g.2.1 0, 24, .inl (fun _ => 0))), (h3, .inl (g.2.1 0, 10, .inl (spk 10)))] := hD
  refine lv_aload_n hx hb dX1_init_92 rfl (lv_at hl 0 rfl) ?_
  refine lv_iconst (v := (0 : Int32)) hx hb dX1_init_93 (by decide) ?_
  refine va_put (D := g.1) (ci := 1) (v := .int (0 : Int32)) (ty := tyX1 7) (C := RX1) (T := TX1) (N := 9) hx hb hts i_X1_init_X1 tyX1 tyX1_ok nmX1 hown hE.1 hP hD hS 0 rfl rfl 7 (by decide) (hts (.fieldLink RX1 35 "RainVault$Roof" "ranOff" "I") (by decide +kernel)) (fun _ h9 => h9) rfl (by decide +kernel) rfl rfl (Nat.le_of_ble_eq_true rfl) dX1_init_94 (fun H locs hP hD hS => ?_)
  have hP : va_P g.1 vwK [(h0, .inr (1, [.ref h1, .ref h2, .ref h3, .int (0 : Int32), .int (0 : Int32), .int (0 : Int32), .int (0 : Int32), .int (0 : Int32), .int 0])), (h1, .inl (g.2.1 0, 88, .inl (fun _ => 0))), (h2, .inl (g.2.1 0, 24, .inl (fun _ => 0))), (h3, .inl (g.2.1 0, 10, .inl (spk 10)))] H := hP
  have hD : va_D A [(h0, .inr (1, [.ref h1, .ref h2, .ref h3, .int (0 : Int32), .int (0 : Int32), .int (0 : Int32), .int (0 : Int32), .int (0 : Int32), .int 0])), (h1, .inl (g.2.1 0, 88, .inl (fun _ => 0))), (h2, .inl (g.2.1 0, 24, .inl (fun _ => 0))), (h3, .inl (g.2.1 0, 10, .inl (spk 10)))] := hD
  refine lv_aload_n hx hb dX1_init_97 rfl (lv_at hl 0 rfl) ?_
  refine lv_iconst (v := (1 : Int32)) hx hb dX1_init_98 (by decide) ?_
  refine va_put (D := g.1) (ci := 1) (v := .int (1 : Int32)) (ty := tyX1 8) (C := RX1) (T := TX1) (N := 9) hx hb hts i_X1_init_X1 tyX1 tyX1_ok nmX1 hown hE.1 hP hD hS 0 rfl rfl 8 (by decide) (hts (.fieldLink RX1 38 "RainVault$Roof" "z" "I") (by decide +kernel)) (fun _ h9 => h9) rfl (by decide +kernel) rfl rfl (Nat.le_of_ble_eq_true rfl) dX1_init_99 (fun H locs hP hD hS => ?_)
  have hP : va_P g.1 vwK [(h0, .inr (1, [.ref h1, .ref h2, .ref h3, .int (0 : Int32), .int (0 : Int32), .int (0 : Int32), .int (0 : Int32), .int (0 : Int32), .int (1 : Int32)])), (h1, .inl (g.2.1 0, 88, .inl (fun _ => 0))), (h2, .inl (g.2.1 0, 24, .inl (fun _ => 0))), (h3, .inl (g.2.1 0, 10, .inl (spk 10)))] H := hP
  have hD : va_D A [(h0, .inr (1, [.ref h1, .ref h2, .ref h3, .int (0 : Int32), .int (0 : Int32), .int (0 : Int32), .int (0 : Int32), .int (0 : Int32), .int (1 : Int32)])), (h1, .inl (g.2.1 0, 88, .inl (fun _ => 0))), (h2, .inl (g.2.1 0, 24, .inl (fun _ => 0))), (h3, .inl (g.2.1 0, 10, .inl (spk 10)))] := hD
  rw [hQ]
  exact xc_vret hx hb hr hlocks hAe ⟨h1, h2, h3, rfl⟩ hP hD hS (Nat.le_of_ble_eq_true rfl) (Nat.le_of_ble_eq_true rfl) dX1_init_102
theorem i_X2_init_X2 : ∀ w ∈ u_ws RX2 TX2 3, w ∈ wsX2_init := fun _ h => List.mem_cons_of_mem _ (List.mem_append_right _ (h))
set_option maxHeartbeats 4000000 in
set_option maxRecDepth 100000 in
theorem c_X2_init (l : Launch) (g : gG) (e0 : Nat) : Cn l yX2_init wsX2_init 1 20 g [(e0, .inr (2, [.null, .int 0, .int 0]))] [.ref e0] (fun wo => ∃ e1, wo = [(e0, .inr (2, [.ref e1, .int 0, .int 0])), (e1, .inl (g.2.1 0, 40, .inl (fun _ => 0)))]) 1 40 := by
  refine Cn.mk (by decide) rfl rfl (Nat.le_of_ble_eq_true rfl) ?_
  intro p e s m args below meth c A ls hx hb hr hml hts hown hlocks hin hA hE hO hP hD hS hl hAe
  obtain ⟨Qx, hQ⟩ : ∃ Qx : State → Prop, Qx = MQ below (QcX g [(e0, .inr (2, [.null, .int 0, .int 0]))] (fun wo => ∃ e1, wo = [(e0, .inr (2, [.ref e1, .int 0, .int 0])), (e1, .inl (g.2.1 0, 40, .inl (fun _ => 0)))]) s.heap.size) args s 1 40 A := ⟨_, rfl⟩
  rw [← hQ]
  have hown : s.vm.findClass RX2 = some m.cls := hown
  have hl : lv_has ls 1 [(0, .ref e0)] := hl
  refine lv_aload_n hx hb dX2_init_0 rfl (lv_at hl 0 rfl) ?_
  refine W.objInit hx hb hown (hts (.methodLink RX2 3 objectInit) (by decide +kernel)) (hts (.instanceMethod objectInit) (by decide +kernel)) (hts (.code objectInit ⟨#[0xb1]⟩ 1 none) (by decide +kernel)) rfl (by rw [hml]; exact hl.1) rfl dX2_init_1 (Nat.le_of_ble_eq_true rfl) (Nat.le_of_ble_eq_true rfl) ?_
  refine W.eq (g2 := F0 m 4 ls []) rfl ?_
  refine lv_aload_n hx hb dX2_init_4 rfl (lv_at hl 0 rfl) ?_
  refine lv_bipush (v := (40 : Int32)) hx hb dX2_init_5 (by decide) ?_
  refine xc_newa (N := 40) hx hb (hts (.arrayClass .int) (by decide +kernel)) hE.1 hP hD hS hA (by decide) (by decide) (Nat.le_of_ble_eq_true rfl) (Nat.le_of_ble_eq_true rfl) (Nat.le_of_ble_eq_true rfl) dX2_init_7 (fun e1 H hP hD hS => ?_)
  have hP : va_P g.1 vwK [(e0, .inr (2, [.null, .int 0, .int 0])), (e1, .inl (g.2.1 0, 40, .inl (fun _ => 0)))] H := hP
  have hD : va_D A [(e0, .inr (2, [.null, .int 0, .int 0])), (e1, .inl (g.2.1 0, 40, .inl (fun _ => 0)))] := hD
  refine W.widen (k := 1) (n := 40) (Nat.le_of_ble_eq_true rfl) (Nat.le_of_ble_eq_true rfl) ?_
  refine va_putF (D := g.1) (ci := 2) (v := .ref e1) (ty := tyX2 0) (C := RX2) (T := TX2) (N := 3) hx hb hts i_X2_init_X2 tyX2 tyX2_ok nmX2 hown hE.1 hP hD hS 0 rfl rfl 0 (by decide) (hts (.fieldLink RX2 9 "RainVault$Sheet" "numbers" "[I") (by decide +kernel)) (fun _ h9 => h9) rfl hin rfl (by decide +kernel) rfl rfl (Nat.le_of_ble_eq_true rfl) dX2_init_9 (fun H locs hP hD hS => ?_)
  have hP : va_P g.1 vwK [(e0, .inr (2, [.ref e1, .int 0, .int 0])), (e1, .inl (g.2.1 0, 40, .inl (fun _ => 0)))] H := hP
  have hD : va_D A [(e0, .inr (2, [.ref e1, .int 0, .int 0])), (e1, .inl (g.2.1 0, 40, .inl (fun _ => 0)))] := hD
  refine lv_aload_n hx hb dX2_init_12 rfl (lv_at hl 0 rfl) ?_
  refine lv_iconst (v := (0 : Int32)) hx hb dX2_init_13 (by decide) ?_
  refine va_put (D := g.1) (ci := 2) (v := .int (0 : Int32)) (ty := tyX2 1) (C := RX2) (T := TX2) (N := 3) hx hb hts i_X2_init_X2 tyX2 tyX2_ok nmX2 hown hE.1 hP hD hS 0 rfl rfl 1 (by decide) (hts (.fieldLink RX2 15 "RainVault$Sheet" "bits" "I") (by decide +kernel)) (fun _ h9 => h9) rfl (by decide +kernel) rfl rfl (Nat.le_of_ble_eq_true rfl) dX2_init_14 (fun H locs hP hD hS => ?_)
  have hP : va_P g.1 vwK [(e0, .inr (2, [.ref e1, .int (0 : Int32), .int 0])), (e1, .inl (g.2.1 0, 40, .inl (fun _ => 0)))] H := hP
  have hD : va_D A [(e0, .inr (2, [.ref e1, .int (0 : Int32), .int 0])), (e1, .inl (g.2.1 0, 40, .inl (fun _ => 0)))] := hD
  refine lv_aload_n hx hb dX2_init_17 rfl (lv_at hl 0 rfl) ?_
  refine lv_iconst (v := (0 : Int32)) hx hb dX2_init_18 (by decide) ?_
  refine va_put (D := g.1) (ci := 2) (v := .int (0 : Int32)) (ty := tyX2 2) (C := RX2) (T := TX2) (N := 3) hx hb hts i_X2_init_X2 tyX2 tyX2_ok nmX2 hown hE.1 hP hD hS 0 rfl rfl 2 (by decide) (hts (.fieldLink RX2 19 "RainVault$Sheet" "length" "I") (by decide +kernel)) (fun _ h9 => h9) rfl (by decide +kernel) rfl rfl (Nat.le_of_ble_eq_true rfl) dX2_init_19 (fun H locs hP hD hS => ?_)
  have hP : va_P g.1 vwK [(e0, .inr (2, [.ref e1, .int (0 : Int32), .int (0 : Int32)])), (e1, .inl (g.2.1 0, 40, .inl (fun _ => 0)))] H := hP
  have hD : va_D A [(e0, .inr (2, [.ref e1, .int (0 : Int32), .int (0 : Int32)])), (e1, .inl (g.2.1 0, 40, .inl (fun _ => 0)))] := hD
  rw [hQ]
  exact xc_vret hx hb hr hlocks hAe ⟨e1, rfl⟩ hP hD hS (Nat.le_of_ble_eq_true rfl) (Nat.le_of_ble_eq_true rfl) dX2_init_22
theorem i_X3_init_X3 : ∀ w ∈ u_ws RX3 TX3 8, w ∈ wsX3_init := fun _ h => List.mem_cons_of_mem _ (List.mem_append_right _ (h))
set_option maxHeartbeats 4000000 in
set_option maxRecDepth 100000 in
theorem c_X3_init (l : Launch) (g : gG) (s0 h0 : Nat) : Cn l yX3_init wsX3_init 1 20 g [(s0, .inr (3, [.null, .null, .null, .null, .int 0, .int 0, .int 0, .int 0]))] [.ref s0, .ref h0] (fun wo => ∃ s1 s2 s3, wo = [(s0, .inr (3, [.ref h0, .ref s1, .ref s2, .ref s3, .int 0, .int 0, .int 0, .int 0])), (s1, .inl (g.2.1 0, 5, .inl (fun _ => 0))), (s2, .inl (g.2.1 0, 48, .inl (fun _ => 0))), (s3, .inl (g.2.1 0, 5, .inl (fun _ => 0)))]) 3 58 := by
  refine Cn.mk (by decide) rfl rfl (Nat.le_of_ble_eq_true rfl) ?_
  intro p e s m args below meth c A ls hx hb hr hml hts hown hlocks hin hA hE hO hP hD hS hl hAe
  obtain ⟨Qx, hQ⟩ : ∃ Qx : State → Prop, Qx = MQ below (QcX g [(s0, .inr (3, [.null, .null, .null, .null, .int 0, .int 0, .int 0, .int 0]))] (fun wo => ∃ s1 s2 s3, wo = [(s0, .inr (3, [.ref h0, .ref s1, .ref s2, .ref s3, .int 0, .int 0, .int 0, .int 0])), (s1, .inl (g.2.1 0, 5, .inl (fun _ => 0))), (s2, .inl (g.2.1 0, 48, .inl (fun _ => 0))), (s3, .inl (g.2.1 0, 5, .inl (fun _ => 0)))]) s.heap.size) args s 3 58 A := ⟨_, rfl⟩
  rw [← hQ]
  have hown : s.vm.findClass RX3 = some m.cls := hown
  have hl : lv_has ls 2 [(0, .ref s0), (1, .ref h0)] := hl
  refine lv_aload_n hx hb dX3_init_0 rfl (lv_at hl 0 rfl) ?_
  refine W.objInit hx hb hown (hts (.methodLink RX3 3 objectInit) (by decide +kernel)) (hts (.instanceMethod objectInit) (by decide +kernel)) (hts (.code objectInit ⟨#[0xb1]⟩ 1 none) (by decide +kernel)) rfl (by rw [hml]; exact hl.1) rfl dX3_init_1 (Nat.le_of_ble_eq_true rfl) (Nat.le_of_ble_eq_true rfl) ?_
  refine W.eq (g2 := F0 m 4 ls []) rfl ?_
  refine lv_aload_n hx hb dX3_init_4 rfl (lv_at hl 0 rfl) ?_
  refine lv_iconst (v := (5 : Int32)) hx hb dX3_init_5 (by decide) ?_
  refine xc_newa (N := 5) hx hb (hts (.arrayClass .int) (by decide +kernel)) hE.1 hP hD hS hA (by decide) (by decide) (Nat.le_of_ble_eq_true rfl) (Nat.le_of_ble_eq_true rfl) (Nat.le_of_ble_eq_true rfl) dX3_init_6 (fun s1 H hP hD hS => ?_)
  have hP : va_P g.1 vwK [(s0, .inr (3, [.null, .null, .null, .null, .int 0, .int 0, .int 0, .int 0])), (s1, .inl (g.2.1 0, 5, .inl (fun _ => 0)))] H := hP
  have hD : va_D A [(s0, .inr (3, [.null, .null, .null, .null, .int 0, .int 0, .int 0, .int 0])), (s1, .inl (g.2.1 0, 5, .inl (fun _ => 0)))] := hD
  refine W.widen (k := 1) (n := 5) (Nat.le_of_ble_eq_true rfl) (Nat.le_of_ble_eq_true rfl) ?_
  refine va_putF (D := g.1) (ci := 3) (v := .ref s1) (ty := tyX3 1) (C := RX3) (T := TX3) (N := 8) hx hb hts i_X3_init_X3 tyX3 tyX3_ok nmX3 hown hE.1 hP hD hS 0 rfl rfl 1 (by decide) (hts (.fieldLink RX3 9 "RainVault$Survey" "signs" "[I") (by decide +kernel)) (fun _ h9 => h9) rfl hin rfl (by decide +kernel) rfl rfl (Nat.le_of_ble_eq_true rfl) dX3_init_8 (fun H locs hP hD hS => ?_)
  have hP : va_P g.1 vwK [(s0, .inr (3, [.null, .ref s1, .null, .null, .int 0, .int 0, .int 0, .int 0])), (s1, .inl (g.2.1 0, 5, .inl (fun _ => 0)))] H := hP
  have hD : va_D A [(s0, .inr (3, [.null, .ref s1, .null, .null, .int 0, .int 0, .int 0, .int 0])), (s1, .inl (g.2.1 0, 5, .inl (fun _ => 0)))] := hD
  refine lv_aload_n hx hb dX3_init_11 rfl (lv_at hl 0 rfl) ?_
  refine lv_bipush (v := (48 : Int32)) hx hb dX3_init_12 (by decide) ?_
  refine xc_newa (N := 48) hx hb (hts (.arrayClass .int) (by decide +kernel)) hE.1 hP hD hS hA (by decide) (by decide) (Nat.le_of_ble_eq_true rfl) (Nat.le_of_ble_eq_true rfl) (Nat.le_of_ble_eq_true rfl) dX3_init_14 (fun s2 H hP hD hS => ?_)
  have hP : va_P g.1 vwK [(s0, .inr (3, [.null, .ref s1, .null, .null, .int 0, .int 0, .int 0, .int 0])), (s1, .inl (g.2.1 0, 5, .inl (fun _ => 0))), (s2, .inl (g.2.1 0, 48, .inl (fun _ => 0)))] H := hP
  have hD : va_D A [(s0, .inr (3, [.null, .ref s1, .null, .null, .int 0, .int 0, .int 0, .int 0])), (s1, .inl (g.2.1 0, 5, .inl (fun _ => 0))), (s2, .inl (g.2.1 0, 48, .inl (fun _ => 0)))] := hD
  refine W.widen (k := 2) (n := 53) (Nat.le_of_ble_eq_true rfl) (Nat.le_of_ble_eq_true rfl) ?_
  refine va_putF (D := g.1) (ci := 3) (v := .ref s2) (ty := tyX3 2) (C := RX3) (T := TX3) (N := 8) hx hb hts i_X3_init_X3 tyX3 tyX3_ok nmX3 hown hE.1 hP hD hS 0 rfl rfl 2 (by decide) (hts (.fieldLink RX3 15 "RainVault$Survey" "levels" "[I") (by decide +kernel)) (fun _ h9 => h9) rfl hin rfl (by decide +kernel) rfl rfl (Nat.le_of_ble_eq_true rfl) dX3_init_16 (fun H locs hP hD hS => ?_)
  have hP : va_P g.1 vwK [(s0, .inr (3, [.null, .ref s1, .ref s2, .null, .int 0, .int 0, .int 0, .int 0])), (s1, .inl (g.2.1 0, 5, .inl (fun _ => 0))), (s2, .inl (g.2.1 0, 48, .inl (fun _ => 0)))] H := hP
  have hD : va_D A [(s0, .inr (3, [.null, .ref s1, .ref s2, .null, .int 0, .int 0, .int 0, .int 0])), (s1, .inl (g.2.1 0, 5, .inl (fun _ => 0))), (s2, .inl (g.2.1 0, 48, .inl (fun _ => 0)))] := hD
  refine lv_aload_n hx hb dX3_init_19 rfl (lv_at hl 0 rfl) ?_
  refine lv_iconst (v := (5 : Int32)) hx hb dX3_init_20 (by decide) ?_
  refine xc_newa (N := 5) hx hb (hts (.arrayClass .int) (by decide +kernel)) hE.1 hP hD hS hA (by decide) (by decide) (Nat.le_of_ble_eq_true rfl) (Nat.le_of_ble_eq_true rfl) (Nat.le_of_ble_eq_true rfl) dX3_init_21 (fun s3 H hP hD hS => ?_)
  have hP : va_P g.1 vwK [(s0, .inr (3, [.null, .ref s1, .ref s2, .null, .int 0, .int 0, .int 0, .int 0])), (s1, .inl (g.2.1 0, 5, .inl (fun _ => 0))), (s2, .inl (g.2.1 0, 48, .inl (fun _ => 0))), (s3, .inl (g.2.1 0, 5, .inl (fun _ => 0)))] H := hP
  have hD : va_D A [(s0, .inr (3, [.null, .ref s1, .ref s2, .null, .int 0, .int 0, .int 0, .int 0])), (s1, .inl (g.2.1 0, 5, .inl (fun _ => 0))), (s2, .inl (g.2.1 0, 48, .inl (fun _ => 0))), (s3, .inl (g.2.1 0, 5, .inl (fun _ => 0)))] := hD
  refine W.widen (k := 3) (n := 58) (Nat.le_of_ble_eq_true rfl) (Nat.le_of_ble_eq_true rfl) ?_
  refine va_putF (D := g.1) (ci := 3) (v := .ref s3) (ty := tyX3 3) (C := RX3) (T := TX3) (N := 8) hx hb hts i_X3_init_X3 tyX3 tyX3_ok nmX3 hown hE.1 hP hD hS 0 rfl rfl 3 (by decide) (hts (.fieldLink RX3 18 "RainVault$Survey" "firstSigns" "[I") (by decide +kernel)) (fun _ h9 => h9) rfl hin rfl (by decide +kernel) rfl rfl (Nat.le_of_ble_eq_true rfl) dX3_init_23 (fun H locs hP hD hS => ?_)
  have hP : va_P g.1 vwK [(s0, .inr (3, [.null, .ref s1, .ref s2, .ref s3, .int 0, .int 0, .int 0, .int 0])), (s1, .inl (g.2.1 0, 5, .inl (fun _ => 0))), (s2, .inl (g.2.1 0, 48, .inl (fun _ => 0))), (s3, .inl (g.2.1 0, 5, .inl (fun _ => 0)))] H := hP
  have hD : va_D A [(s0, .inr (3, [.null, .ref s1, .ref s2, .ref s3, .int 0, .int 0, .int 0, .int 0])), (s1, .inl (g.2.1 0, 5, .inl (fun _ => 0))), (s2, .inl (g.2.1 0, 48, .inl (fun _ => 0))), (s3, .inl (g.2.1 0, 5, .inl (fun _ => 0)))] := hD
  refine lv_aload_n hx hb dX3_init_26 rfl (lv_at hl 0 rfl) ?_
  refine lv_iconst (v := (0 : Int32)) hx hb dX3_init_27 (by decide) ?_
  refine va_put (D := g.1) (ci := 3) (v := .int (0 : Int32)) (ty := tyX3 4) (C := RX3) (T := TX3) (N := 8) hx hb hts i_X3_init_X3 tyX3 tyX3_ok nmX3 hown hE.1 hP hD hS 0 rfl rfl 4 (by decide) (hts (.fieldLink RX3 21 "RainVault$Survey" "hours" "I") (by decide +kernel)) (fun _ h9 => h9) rfl (by decide +kernel) rfl rfl (Nat.le_of_ble_eq_true rfl) dX3_init_28 (fun H locs hP hD hS => ?_)
  have hP : va_P g.1 vwK [(s0, .inr (3, [.null, .ref s1, .ref s2, .ref s3, .int (0 : Int32), .int 0, .int 0, .int 0])), (s1, .inl (g.2.1 0, 5, .inl (fun _ => 0))), (s2, .inl (g.2.1 0, 48, .inl (fun _ => 0))), (s3, .inl (g.2.1 0, 5, .inl (fun _ => 0)))] H := hP
  have hD : va_D A [(s0, .inr (3, [.null, .ref s1, .ref s2, .ref s3, .int (0 : Int32), .int 0, .int 0, .int 0])), (s1, .inl (g.2.1 0, 5, .inl (fun _ => 0))), (s2, .inl (g.2.1 0, 48, .inl (fun _ => 0))), (s3, .inl (g.2.1 0, 5, .inl (fun _ => 0)))] := hD
  refine lv_aload_n hx hb dX3_init_31 rfl (lv_at hl 0 rfl) ?_
  refine lv_iconst (v := (0 : Int32)) hx hb dX3_init_32 (by decide) ?_
  refine va_put (D := g.1) (ci := 3) (v := .int (0 : Int32)) (ty := tyX3 5) (C := RX3) (T := TX3) (N := 8) hx hb hts i_X3_init_X3 tyX3 tyX3_ok nmX3 hown hE.1 hP hD hS 0 rfl rfl 5 (by decide) (hts (.fieldLink RX3 25 "RainVault$Survey" "opening" "I") (by decide +kernel)) (fun _ h9 => h9) rfl (by decide +kernel) rfl rfl (Nat.le_of_ble_eq_true rfl) dX3_init_33 (fun H locs hP hD hS => ?_)
  have hP : va_P g.1 vwK [(s0, .inr (3, [.null, .ref s1, .ref s2, .ref s3, .int (0 : Int32), .int (0 : Int32), .int 0, .int 0])), (s1, .inl (g.2.1 0, 5, .inl (fun _ => 0))), (s2, .inl (g.2.1 0, 48, .inl (fun _ => 0))), (s3, .inl (g.2.1 0, 5, .inl (fun _ => 0)))] H := hP
  have hD : va_D A [(s0, .inr (3, [.null, .ref s1, .ref s2, .ref s3, .int (0 : Int32), .int (0 : Int32), .int 0, .int 0])), (s1, .inl (g.2.1 0, 5, .inl (fun _ => 0))), (s2, .inl (g.2.1 0, 48, .inl (fun _ => 0))), (s3, .inl (g.2.1 0, 5, .inl (fun _ => 0)))] := hD
  refine lv_aload_n hx hb dX3_init_36 rfl (lv_at hl 0 rfl) ?_
  refine lv_iconst (v := (0 : Int32)) hx hb dX3_init_37 (by decide) ?_
  refine va_put (D := g.1) (ci := 3) (v := .int (0 : Int32)) (ty := tyX3 6) (C := RX3) (T := TX3) (N := 8) hx hb hts i_X3_init_X3 tyX3 tyX3_ok nmX3 hown hE.1 hP hD hS 0 rfl rfl 6 (by decide) (hts (.fieldLink RX3 28 "RainVault$Survey" "fewestWet" "I") (by decide +kernel)) (fun _ h9 => h9) rfl (by decide +kernel) rfl rfl (Nat.le_of_ble_eq_true rfl) dX3_init_38 (fun H locs hP hD hS => ?_)
  have hP : va_P g.1 vwK [(s0, .inr (3, [.null, .ref s1, .ref s2, .ref s3, .int (0 : Int32), .int (0 : Int32), .int (0 : Int32), .int 0])), (s1, .inl (g.2.1 0, 5, .inl (fun _ => 0))), (s2, .inl (g.2.1 0, 48, .inl (fun _ => 0))), (s3, .inl (g.2.1 0, 5, .inl (fun _ => 0)))] H := hP
  have hD : va_D A [(s0, .inr (3, [.null, .ref s1, .ref s2, .ref s3, .int (0 : Int32), .int (0 : Int32), .int (0 : Int32), .int 0])), (s1, .inl (g.2.1 0, 5, .inl (fun _ => 0))), (s2, .inl (g.2.1 0, 48, .inl (fun _ => 0))), (s3, .inl (g.2.1 0, 5, .inl (fun _ => 0)))] := hD
  refine lv_aload_n hx hb dX3_init_41 rfl (lv_at hl 0 rfl) ?_
  refine lv_iconst (v := (0 : Int32)) hx hb dX3_init_42 (by decide) ?_
  refine va_put (D := g.1) (ci := 3) (v := .int (0 : Int32)) (ty := tyX3 7) (C := RX3) (T := TX3) (N := 8) hx hb hts i_X3_init_X3 tyX3 tyX3_ok nmX3 hown hE.1 hP hD hS 0 rfl rfl 7 (by decide) (hts (.fieldLink RX3 31 "RainVault$Survey" "commonSides" "I") (by decide +kernel)) (fun _ h9 => h9) rfl (by decide +kernel) rfl rfl (Nat.le_of_ble_eq_true rfl) dX3_init_43 (fun H locs hP hD hS => ?_)
  have hP : va_P g.1 vwK [(s0, .inr (3, [.null, .ref s1, .ref s2, .ref s3, .int (0 : Int32), .int (0 : Int32), .int (0 : Int32), .int (0 : Int32)])), (s1, .inl (g.2.1 0, 5, .inl (fun _ => 0))), (s2, .inl (g.2.1 0, 48, .inl (fun _ => 0))), (s3, .inl (g.2.1 0, 5, .inl (fun _ => 0)))] H := hP
  have hD : va_D A [(s0, .inr (3, [.null, .ref s1, .ref s2, .ref s3, .int (0 : Int32), .int (0 : Int32), .int (0 : Int32), .int (0 : Int32)])), (s1, .inl (g.2.1 0, 5, .inl (fun _ => 0))), (s2, .inl (g.2.1 0, 48, .inl (fun _ => 0))), (s3, .inl (g.2.1 0, 5, .inl (fun _ => 0)))] := hD
  refine lv_aload_n hx hb dX3_init_46 rfl (lv_at hl 0 rfl) ?_
  refine lv_aload_n hx hb dX3_init_47 rfl (lv_at hl 1 rfl) ?_
  refine va_putF (D := g.1) (ci := 3) (v := .ref h0) (ty := tyX3 0) (C := RX3) (T := TX3) (N := 8) hx hb hts i_X3_init_X3 tyX3 tyX3_ok nmX3 hown hE.1 hP hD hS 0 rfl rfl 0 (by decide) (hts (.fieldLink RX3 34 "RainVault$Survey" "trial" "LRainVault$Roof;") (by decide +kernel)) (fun _ h9 => h9) rfl hin rfl (by decide +kernel) rfl rfl (Nat.le_of_ble_eq_true rfl) dX3_init_48 (fun H locs hP hD hS => ?_)
  have hP : va_P g.1 vwK [(s0, .inr (3, [.ref h0, .ref s1, .ref s2, .ref s3, .int (0 : Int32), .int (0 : Int32), .int (0 : Int32), .int (0 : Int32)])), (s1, .inl (g.2.1 0, 5, .inl (fun _ => 0))), (s2, .inl (g.2.1 0, 48, .inl (fun _ => 0))), (s3, .inl (g.2.1 0, 5, .inl (fun _ => 0)))] H := hP
  have hD : va_D A [(s0, .inr (3, [.ref h0, .ref s1, .ref s2, .ref s3, .int (0 : Int32), .int (0 : Int32), .int (0 : Int32), .int (0 : Int32)])), (s1, .inl (g.2.1 0, 5, .inl (fun _ => 0))), (s2, .inl (g.2.1 0, 48, .inl (fun _ => 0))), (s3, .inl (g.2.1 0, 5, .inl (fun _ => 0)))] := hD
  rw [hQ]
  exact xc_vret hx hb hr hlocks hAe ⟨s1, s2, s3, rfl⟩ hP hD hS (Nat.le_of_ble_eq_true rfl) (Nat.le_of_ble_eq_true rfl) dX3_init_51
theorem i_X0_init_X0 : ∀ w ∈ u_ws RX0 TX0 3, w ∈ wsX0_init := fun _ h => List.mem_cons_of_mem _ (List.mem_append_right _ (h))
set_option maxHeartbeats 4000000 in
set_option maxRecDepth 100000 in
theorem c_X0_init (l : Launch) (g : gG) (c0 h0 : Nat) : Cn l yX0_init wsX0_init 1 20 g [(c0, .inr (0, [.null, .null, .null]))] [.ref c0, .ref h0] (fun wo => ∃ c1 c2, wo = [(c0, .inr (0, [.ref h0, .ref c1, .ref c2])), (c1, .inl (g.2.1 0, 8, .inl (fun _ => 0))), (c2, .inl (g.2.1 0, 4, .inl (fun _ => 0)))]) 2 12 := by
  refine Cn.mk (by decide) rfl rfl (Nat.le_of_ble_eq_true rfl) ?_
  intro p e s m args below meth c A ls hx hb hr hml hts hown hlocks hin hA hE hO hP hD hS hl hAe
  obtain ⟨Qx, hQ⟩ : ∃ Qx : State → Prop, Qx = MQ below (QcX g [(c0, .inr (0, [.null, .null, .null]))] (fun wo => ∃ c1 c2, wo = [(c0, .inr (0, [.ref h0, .ref c1, .ref c2])), (c1, .inl (g.2.1 0, 8, .inl (fun _ => 0))), (c2, .inl (g.2.1 0, 4, .inl (fun _ => 0)))]) s.heap.size) args s 2 12 A := ⟨_, rfl⟩
  rw [← hQ]
  have hown : s.vm.findClass RX0 = some m.cls := hown
  have hl : lv_has ls 2 [(0, .ref c0), (1, .ref h0)] := hl
  refine lv_aload_n hx hb dX0_init_0 rfl (lv_at hl 0 rfl) ?_
  refine W.objInit hx hb hown (hts (.methodLink RX0 3 objectInit) (by decide +kernel)) (hts (.instanceMethod objectInit) (by decide +kernel)) (hts (.code objectInit ⟨#[0xb1]⟩ 1 none) (by decide +kernel)) rfl (by rw [hml]; exact hl.1) rfl dX0_init_1 (Nat.le_of_ble_eq_true rfl) (Nat.le_of_ble_eq_true rfl) ?_
  refine W.eq (g2 := F0 m 4 ls []) rfl ?_
  refine lv_aload_n hx hb dX0_init_4 rfl (lv_at hl 0 rfl) ?_
  refine lv_bipush (v := (8 : Int32)) hx hb dX0_init_5 (by decide) ?_
  refine xc_newa (N := 8) hx hb (hts (.arrayClass .int) (by decide +kernel)) hE.1 hP hD hS hA (by decide) (by decide) (Nat.le_of_ble_eq_true rfl) (Nat.le_of_ble_eq_true rfl) (Nat.le_of_ble_eq_true rfl) dX0_init_7 (fun c1 H hP hD hS => ?_)
  have hP : va_P g.1 vwK [(c0, .inr (0, [.null, .null, .null])), (c1, .inl (g.2.1 0, 8, .inl (fun _ => 0)))] H := hP
  have hD : va_D A [(c0, .inr (0, [.null, .null, .null])), (c1, .inl (g.2.1 0, 8, .inl (fun _ => 0)))] := hD
  refine W.widen (k := 1) (n := 8) (Nat.le_of_ble_eq_true rfl) (Nat.le_of_ble_eq_true rfl) ?_
  refine va_putF (D := g.1) (ci := 0) (v := .ref c1) (ty := tyX0 1) (C := RX0) (T := TX0) (N := 3) hx hb hts i_X0_init_X0 tyX0 tyX0_ok nmX0 hown hE.1 hP hD hS 0 rfl rfl 1 (by decide) (hts (.fieldLink RX0 9 "RainVault$Carrier" "levels" "[I") (by decide +kernel)) (fun _ h9 => h9) rfl hin rfl (by decide +kernel) rfl rfl (Nat.le_of_ble_eq_true rfl) dX0_init_9 (fun H locs hP hD hS => ?_)
  have hP : va_P g.1 vwK [(c0, .inr (0, [.null, .ref c1, .null])), (c1, .inl (g.2.1 0, 8, .inl (fun _ => 0)))] H := hP
  have hD : va_D A [(c0, .inr (0, [.null, .ref c1, .null])), (c1, .inl (g.2.1 0, 8, .inl (fun _ => 0)))] := hD
  refine lv_aload_n hx hb dX0_init_12 rfl (lv_at hl 0 rfl) ?_
  refine lv_iconst (v := (4 : Int32)) hx hb dX0_init_13 (by decide) ?_
  refine xc_newa (N := 4) hx hb (hts (.arrayClass .int) (by decide +kernel)) hE.1 hP hD hS hA (by decide) (by decide) (Nat.le_of_ble_eq_true rfl) (Nat.le_of_ble_eq_true rfl) (Nat.le_of_ble_eq_true rfl) dX0_init_14 (fun c2 H hP hD hS => ?_)
  have hP : va_P g.1 vwK [(c0, .inr (0, [.null, .ref c1, .null])), (c1, .inl (g.2.1 0, 8, .inl (fun _ => 0))), (c2, .inl (g.2.1 0, 4, .inl (fun _ => 0)))] H := hP
  have hD : va_D A [(c0, .inr (0, [.null, .ref c1, .null])), (c1, .inl (g.2.1 0, 8, .inl (fun _ => 0))), (c2, .inl (g.2.1 0, 4, .inl (fun _ => 0)))] := hD
  refine W.widen (k := 2) (n := 12) (Nat.le_of_ble_eq_true rfl) (Nat.le_of_ble_eq_true rfl) ?_
  refine va_putF (D := g.1) (ci := 0) (v := .ref c2) (ty := tyX0 2) (C := RX0) (T := TX0) (N := 3) hx hb hts i_X0_init_X0 tyX0 tyX0_ok nmX0 hown hE.1 hP hD hS 0 rfl rfl 2 (by decide) (hts (.fieldLink RX0 15 "RainVault$Carrier" "way" "[I") (by decide +kernel)) (fun _ h9 => h9) rfl hin rfl (by decide +kernel) rfl rfl (Nat.le_of_ble_eq_true rfl) dX0_init_16 (fun H locs hP hD hS => ?_)
  have hP : va_P g.1 vwK [(c0, .inr (0, [.null, .ref c1, .ref c2])), (c1, .inl (g.2.1 0, 8, .inl (fun _ => 0))), (c2, .inl (g.2.1 0, 4, .inl (fun _ => 0)))] H := hP
  have hD : va_D A [(c0, .inr (0, [.null, .ref c1, .ref c2])), (c1, .inl (g.2.1 0, 8, .inl (fun _ => 0))), (c2, .inl (g.2.1 0, 4, .inl (fun _ => 0)))] := hD
  refine lv_aload_n hx hb dX0_init_19 rfl (lv_at hl 0 rfl) ?_
  refine lv_aload_n hx hb dX0_init_20 rfl (lv_at hl 1 rfl) ?_
  refine va_putF (D := g.1) (ci := 0) (v := .ref h0) (ty := tyX0 0) (C := RX0) (T := TX0) (N := 3) hx hb hts i_X0_init_X0 tyX0 tyX0_ok nmX0 hown hE.1 hP hD hS 0 rfl rfl 0 (by decide) (hts (.fieldLink RX0 18 "RainVault$Carrier" "trial" "LRainVault$Roof;") (by decide +kernel)) (fun _ h9 => h9) rfl hin rfl (by decide +kernel) rfl rfl (Nat.le_of_ble_eq_true rfl) dX0_init_21 (fun H locs hP hD hS => ?_)
  have hP : va_P g.1 vwK [(c0, .inr (0, [.ref h0, .ref c1, .ref c2])), (c1, .inl (g.2.1 0, 8, .inl (fun _ => 0))), (c2, .inl (g.2.1 0, 4, .inl (fun _ => 0)))] H := hP
  have hD : va_D A [(c0, .inr (0, [.ref h0, .ref c1, .ref c2])), (c1, .inl (g.2.1 0, 8, .inl (fun _ => 0))), (c2, .inl (g.2.1 0, 4, .inl (fun _ => 0)))] := hD
  rw [hQ]
  exact xc_vret hx hb hr hlocks hAe ⟨c1, c2, rfl⟩ hP hD hS (Nat.le_of_ble_eq_true rfl) (Nat.le_of_ble_eq_true rfl) dX0_init_24
theorem i_X5_init_X5 : ∀ w ∈ u_ws RX5 TX5 6, w ∈ wsX5_init := fun _ h => List.mem_cons_of_mem _ (List.mem_append_right _ (h))
set_option maxHeartbeats 4000000 in
set_option maxRecDepth 100000 in
theorem c_X5_init (l : Launch) (g : gG) (t0 p0 : Nat) : Cn l yX5_init wsX5_init 1 20 g [(t0, .inr (5, [.null, .null, .null, .null, .int 0, .int 0]))] [.ref t0, .ref p0] (fun wo => ∃ t1 t2 t3, wo = [(t0, .inr (5, [.ref p0, .ref t1, .ref t2, .ref t3, .int 0, .int 0])), (t1, .inl (g.2.1 0, 121, .inl (fun _ => 0))), (t2, .inl (g.2.1 0, 121, .inl (fun _ => 0))), (t3, .inl (g.2.1 0, 121, .inl (fun _ => 0)))]) 3 363 := by
  refine Cn.mk (by decide) rfl rfl (Nat.le_of_ble_eq_true rfl) ?_
  intro p e s m args below meth c A ls hx hb hr hml hts hown hlocks hin hA hE hO hP hD hS hl hAe
  obtain ⟨Qx, hQ⟩ : ∃ Qx : State → Prop, Qx = MQ below (QcX g [(t0, .inr (5, [.null, .null, .null, .null, .int 0, .int 0]))] (fun wo => ∃ t1 t2 t3, wo = [(t0, .inr (5, [.ref p0, .ref t1, .ref t2, .ref t3, .int 0, .int 0])), (t1, .inl (g.2.1 0, 121, .inl (fun _ => 0))), (t2, .inl (g.2.1 0, 121, .inl (fun _ => 0))), (t3, .inl (g.2.1 0, 121, .inl (fun _ => 0)))]) s.heap.size) args s 3 363 A := ⟨_, rfl⟩
  rw [← hQ]
  have hown : s.vm.findClass RX5 = some m.cls := hown
  have hl : lv_has ls 2 [(0, .ref t0), (1, .ref p0)] := hl
  refine lv_aload_n hx hb dX5_init_0 rfl (lv_at hl 0 rfl) ?_
  refine W.objInit hx hb hown (hts (.methodLink RX5 3 objectInit) (by decide +kernel)) (hts (.instanceMethod objectInit) (by decide +kernel)) (hts (.code objectInit ⟨#[0xb1]⟩ 1 none) (by decide +kernel)) rfl (by rw [hml]; exact hl.1) rfl dX5_init_1 (Nat.le_of_ble_eq_true rfl) (Nat.le_of_ble_eq_true rfl) ?_
  refine W.eq (g2 := F0 m 4 ls []) rfl ?_
  refine lv_aload_n hx hb dX5_init_4 rfl (lv_at hl 0 rfl) ?_
  refine lv_bipush (v := (121 : Int32)) hx hb dX5_init_5 (by decide) ?_
  refine xc_newa (N := 121) hx hb (hts (.arrayClass .int) (by decide +kernel)) hE.1 hP hD hS hA (by decide) (by decide) (Nat.le_of_ble_eq_true rfl) (Nat.le_of_ble_eq_true rfl) (Nat.le_of_ble_eq_true rfl) dX5_init_7 (fun t1 H hP hD hS => ?_)
  have hP : va_P g.1 vwK [(t0, .inr (5, [.null, .null, .null, .null, .int 0, .int 0])), (t1, .inl (g.2.1 0, 121, .inl (fun _ => 0)))] H := hP
  have hD : va_D A [(t0, .inr (5, [.null, .null, .null, .null, .int 0, .int 0])), (t1, .inl (g.2.1 0, 121, .inl (fun _ => 0)))] := hD
  refine W.widen (k := 1) (n := 121) (Nat.le_of_ble_eq_true rfl) (Nat.le_of_ble_eq_true rfl) ?_
  refine va_putF (D := g.1) (ci := 5) (v := .ref t1) (ty := tyX5 1) (C := RX5) (T := TX5) (N := 6) hx hb hts i_X5_init_X5 tyX5 tyX5_ok nmX5 hown hE.1 hP hD hS 0 rfl rfl 1 (by decide) (hts (.fieldLink RX5 9 "RainVault$Tokens" "sorts" "[I") (by decide +kernel)) (fun _ h9 => h9) rfl hin rfl (by decide +kernel) rfl rfl (Nat.le_of_ble_eq_true rfl) dX5_init_9 (fun H locs hP hD hS => ?_)
  have hP : va_P g.1 vwK [(t0, .inr (5, [.null, .ref t1, .null, .null, .int 0, .int 0])), (t1, .inl (g.2.1 0, 121, .inl (fun _ => 0)))] H := hP
  have hD : va_D A [(t0, .inr (5, [.null, .ref t1, .null, .null, .int 0, .int 0])), (t1, .inl (g.2.1 0, 121, .inl (fun _ => 0)))] := hD
  refine lv_aload_n hx hb dX5_init_12 rfl (lv_at hl 0 rfl) ?_
  refine lv_bipush (v := (121 : Int32)) hx hb dX5_init_13 (by decide) ?_
  refine xc_newa (N := 121) hx hb (hts (.arrayClass .int) (by decide +kernel)) hE.1 hP hD hS hA (by decide) (by decide) (Nat.le_of_ble_eq_true rfl) (Nat.le_of_ble_eq_true rfl) (Nat.le_of_ble_eq_true rfl) dX5_init_15 (fun t2 H hP hD hS => ?_)
  have hP : va_P g.1 vwK [(t0, .inr (5, [.null, .ref t1, .null, .null, .int 0, .int 0])), (t1, .inl (g.2.1 0, 121, .inl (fun _ => 0))), (t2, .inl (g.2.1 0, 121, .inl (fun _ => 0)))] H := hP
  have hD : va_D A [(t0, .inr (5, [.null, .ref t1, .null, .null, .int 0, .int 0])), (t1, .inl (g.2.1 0, 121, .inl (fun _ => 0))), (t2, .inl (g.2.1 0, 121, .inl (fun _ => 0)))] := hD
  refine W.widen (k := 2) (n := 242) (Nat.le_of_ble_eq_true rfl) (Nat.le_of_ble_eq_true rfl) ?_
  refine va_putF (D := g.1) (ci := 5) (v := .ref t2) (ty := tyX5 2) (C := RX5) (T := TX5) (N := 6) hx hb hts i_X5_init_X5 tyX5 tyX5_ok nmX5 hown hE.1 hP hD hS 0 rfl rfl 2 (by decide) (hts (.fieldLink RX5 15 "RainVault$Tokens" "starts" "[I") (by decide +kernel)) (fun _ h9 => h9) rfl hin rfl (by decide +kernel) rfl rfl (Nat.le_of_ble_eq_true rfl) dX5_init_17 (fun H locs hP hD hS => ?_)
  have hP : va_P g.1 vwK [(t0, .inr (5, [.null, .ref t1, .ref t2, .null, .int 0, .int 0])), (t1, .inl (g.2.1 0, 121, .inl (fun _ => 0))), (t2, .inl (g.2.1 0, 121, .inl (fun _ => 0)))] H := hP
  have hD : va_D A [(t0, .inr (5, [.null, .ref t1, .ref t2, .null, .int 0, .int 0])), (t1, .inl (g.2.1 0, 121, .inl (fun _ => 0))), (t2, .inl (g.2.1 0, 121, .inl (fun _ => 0)))] := hD
  refine lv_aload_n hx hb dX5_init_20 rfl (lv_at hl 0 rfl) ?_
  refine lv_bipush (v := (121 : Int32)) hx hb dX5_init_21 (by decide) ?_
  refine xc_newa (N := 121) hx hb (hts (.arrayClass .int) (by decide +kernel)) hE.1 hP hD hS hA (by decide) (by decide) (Nat.le_of_ble_eq_true rfl) (Nat.le_of_ble_eq_true rfl) (Nat.le_of_ble_eq_true rfl) dX5_init_23 (fun t3 H hP hD hS => ?_)
  have hP : va_P g.1 vwK [(t0, .inr (5, [.null, .ref t1, .ref t2, .null, .int 0, .int 0])), (t1, .inl (g.2.1 0, 121, .inl (fun _ => 0))), (t2, .inl (g.2.1 0, 121, .inl (fun _ => 0))), (t3, .inl (g.2.1 0, 121, .inl (fun _ => 0)))] H := hP
  have hD : va_D A [(t0, .inr (5, [.null, .ref t1, .ref t2, .null, .int 0, .int 0])), (t1, .inl (g.2.1 0, 121, .inl (fun _ => 0))), (t2, .inl (g.2.1 0, 121, .inl (fun _ => 0))), (t3, .inl (g.2.1 0, 121, .inl (fun _ => 0)))] := hD
  refine W.widen (k := 3) (n := 363) (Nat.le_of_ble_eq_true rfl) (Nat.le_of_ble_eq_true rfl) ?_
  refine va_putF (D := g.1) (ci := 5) (v := .ref t3) (ty := tyX5 3) (C := RX5) (T := TX5) (N := 6) hx hb hts i_X5_init_X5 tyX5 tyX5_ok nmX5 hown hE.1 hP hD hS 0 rfl rfl 3 (by decide) (hts (.fieldLink RX5 18 "RainVault$Tokens" "values" "[I") (by decide +kernel)) (fun _ h9 => h9) rfl hin rfl (by decide +kernel) rfl rfl (Nat.le_of_ble_eq_true rfl) dX5_init_25 (fun H locs hP hD hS => ?_)
  have hP : va_P g.1 vwK [(t0, .inr (5, [.null, .ref t1, .ref t2, .ref t3, .int 0, .int 0])), (t1, .inl (g.2.1 0, 121, .inl (fun _ => 0))), (t2, .inl (g.2.1 0, 121, .inl (fun _ => 0))), (t3, .inl (g.2.1 0, 121, .inl (fun _ => 0)))] H := hP
  have hD : va_D A [(t0, .inr (5, [.null, .ref t1, .ref t2, .ref t3, .int 0, .int 0])), (t1, .inl (g.2.1 0, 121, .inl (fun _ => 0))), (t2, .inl (g.2.1 0, 121, .inl (fun _ => 0))), (t3, .inl (g.2.1 0, 121, .inl (fun _ => 0)))] := hD
  refine lv_aload_n hx hb dX5_init_28 rfl (lv_at hl 0 rfl) ?_
  refine lv_iconst (v := (0 : Int32)) hx hb dX5_init_29 (by decide) ?_
  refine va_put (D := g.1) (ci := 5) (v := .int (0 : Int32)) (ty := tyX5 4) (C := RX5) (T := TX5) (N := 6) hx hb hts i_X5_init_X5 tyX5 tyX5_ok nmX5 hown hE.1 hP hD hS 0 rfl rfl 4 (by decide) (hts (.fieldLink RX5 21 "RainVault$Tokens" "length" "I") (by decide +kernel)) (fun _ h9 => h9) rfl (by decide +kernel) rfl rfl (Nat.le_of_ble_eq_true rfl) dX5_init_30 (fun H locs hP hD hS => ?_)
  have hP : va_P g.1 vwK [(t0, .inr (5, [.null, .ref t1, .ref t2, .ref t3, .int (0 : Int32), .int 0])), (t1, .inl (g.2.1 0, 121, .inl (fun _ => 0))), (t2, .inl (g.2.1 0, 121, .inl (fun _ => 0))), (t3, .inl (g.2.1 0, 121, .inl (fun _ => 0)))] H := hP
  have hD : va_D A [(t0, .inr (5, [.null, .ref t1, .ref t2, .ref t3, .int (0 : Int32), .int 0])), (t1, .inl (g.2.1 0, 121, .inl (fun _ => 0))), (t2, .inl (g.2.1 0, 121, .inl (fun _ => 0))), (t3, .inl (g.2.1 0, 121, .inl (fun _ => 0)))] := hD
  refine lv_aload_n hx hb dX5_init_33 rfl (lv_at hl 0 rfl) ?_
  refine lv_iconst (v := (0 : Int32)) hx hb dX5_init_34 (by decide) ?_
  refine va_put (D := g.1) (ci := 5) (v := .int (0 : Int32)) (ty := tyX5 5) (C := RX5) (T := TX5) (N := 6) hx hb hts i_X5_init_X5 tyX5 tyX5_ok nmX5 hown hE.1 hP hD hS 0 rfl rfl 5 (by decide) (hts (.fieldLink RX5 25 "RainVault$Tokens" "place" "I") (by decide +kernel)) (fun _ h9 => h9) rfl (by decide +kernel) rfl rfl (Nat.le_of_ble_eq_true rfl) dX5_init_35 (fun H locs hP hD hS => ?_)
  have hP : va_P g.1 vwK [(t0, .inr (5, [.null, .ref t1, .ref t2, .ref t3, .int (0 : Int32), .int (0 : Int32)])), (t1, .inl (g.2.1 0, 121, .inl (fun _ => 0))), (t2, .inl (g.2.1 0, 121, .inl (fun _ => 0))), (t3, .inl (g.2.1 0, 121, .inl (fun _ => 0)))] H := hP
  have hD : va_D A [(t0, .inr (5, [.null, .ref t1, .ref t2, .ref t3, .int (0 : Int32), .int (0 : Int32)])), (t1, .inl (g.2.1 0, 121, .inl (fun _ => 0))), (t2, .inl (g.2.1 0, 121, .inl (fun _ => 0))), (t3, .inl (g.2.1 0, 121, .inl (fun _ => 0)))] := hD
  refine lv_aload_n hx hb dX5_init_38 rfl (lv_at hl 0 rfl) ?_
  refine lv_aload_n hx hb dX5_init_39 rfl (lv_at hl 1 rfl) ?_
  refine va_putF (D := g.1) (ci := 5) (v := .ref p0) (ty := tyX5 0) (C := RX5) (T := TX5) (N := 6) hx hb hts i_X5_init_X5 tyX5 tyX5_ok nmX5 hown hE.1 hP hD hS 0 rfl rfl 0 (by decide) (hts (.fieldLink RX5 28 "RainVault$Tokens" "tape" "[I") (by decide +kernel)) (fun _ h9 => h9) rfl hin rfl (by decide +kernel) rfl rfl (Nat.le_of_ble_eq_true rfl) dX5_init_40 (fun H locs hP hD hS => ?_)
  have hP : va_P g.1 vwK [(t0, .inr (5, [.ref p0, .ref t1, .ref t2, .ref t3, .int (0 : Int32), .int (0 : Int32)])), (t1, .inl (g.2.1 0, 121, .inl (fun _ => 0))), (t2, .inl (g.2.1 0, 121, .inl (fun _ => 0))), (t3, .inl (g.2.1 0, 121, .inl (fun _ => 0)))] H := hP
  have hD : va_D A [(t0, .inr (5, [.ref p0, .ref t1, .ref t2, .ref t3, .int (0 : Int32), .int (0 : Int32)])), (t1, .inl (g.2.1 0, 121, .inl (fun _ => 0))), (t2, .inl (g.2.1 0, 121, .inl (fun _ => 0))), (t3, .inl (g.2.1 0, 121, .inl (fun _ => 0)))] := hD
  rw [hQ]
  exact xc_vret hx hb hr hlocks hAe ⟨t1, t2, t3, rfl⟩ hP hD hS (Nat.le_of_ble_eq_true rfl) (Nat.le_of_ble_eq_true rfl) dX5_init_43
theorem i_X4_init_X4 : ∀ w ∈ u_ws RX4 TX4 4, w ∈ wsX4_init := fun _ h => List.mem_cons_of_mem _ (List.mem_append_left _ (List.mem_append_right _ (h)))
theorem i_X4_init_X5 : ∀ w ∈ u_ws RX5 TX5 6, w ∈ wsX4_init := fun _ h => List.mem_cons_of_mem _ (List.mem_append_right _ (h))
set_option maxHeartbeats 4000000 in
set_option maxRecDepth 100000 in
theorem c_X4_init (l : Launch) (g : gG) (r0 p0 h0 : Nat) : Cn l yX4_init wsX4_init 2 41 g [(r0, .inr (4, [.null, .null, .int 0, .int 0]))] [.ref r0, .ref p0, .ref h0] (fun wo => ∃ t0 t1 t2 t3, wo = [(r0, .inr (4, [.ref t0, .ref h0, .int 0, .int 0])), (t0, .inr (5, [.ref p0, .ref t1, .ref t2, .ref t3, .int 0, .int 0])), (t1, .inl (g.2.1 0, 121, .inl (fun _ => 0))), (t2, .inl (g.2.1 0, 121, .inl (fun _ => 0))), (t3, .inl (g.2.1 0, 121, .inl (fun _ => 0)))]) 4 369 := by
  refine Cn.mk (by decide) rfl rfl (Nat.le_of_ble_eq_true rfl) ?_
  intro p e s m args below meth c A ls hx hb hr hml hts hown hlocks hin hA hE hO hP hD hS hl hAe
  obtain ⟨Qx, hQ⟩ : ∃ Qx : State → Prop, Qx = MQ below (QcX g [(r0, .inr (4, [.null, .null, .int 0, .int 0]))] (fun wo => ∃ t0 t1 t2 t3, wo = [(r0, .inr (4, [.ref t0, .ref h0, .int 0, .int 0])), (t0, .inr (5, [.ref p0, .ref t1, .ref t2, .ref t3, .int 0, .int 0])), (t1, .inl (g.2.1 0, 121, .inl (fun _ => 0))), (t2, .inl (g.2.1 0, 121, .inl (fun _ => 0))), (t3, .inl (g.2.1 0, 121, .inl (fun _ => 0)))]) s.heap.size) args s 4 369 A := ⟨_, rfl⟩
  rw [← hQ]
  have hown : s.vm.findClass RX4 = some m.cls := hown
  have hl : lv_has ls 3 [(0, .ref r0), (1, .ref p0), (2, .ref h0)] := hl
  refine lv_aload_n hx hb dX4_init_0 rfl (lv_at hl 0 rfl) ?_
  refine W.objInit hx hb hown (hts (.methodLink RX4 3 objectInit) (by decide +kernel)) (hts (.instanceMethod objectInit) (by decide +kernel)) (hts (.code objectInit ⟨#[0xb1]⟩ 1 none) (by decide +kernel)) rfl (by rw [hml]; exact hl.1) rfl dX4_init_1 (Nat.le_of_ble_eq_true rfl) (Nat.le_of_ble_eq_true rfl) ?_
  refine W.eq (g2 := F0 m 4 ls []) rfl ?_
  refine lv_aload_n hx hb dX4_init_4 rfl (lv_at hl 0 rfl) ?_
  refine lv_iconst (v := (0 : Int32)) hx hb dX4_init_5 (by decide) ?_
  refine va_put (D := g.1) (ci := 4) (v := .int (0 : Int32)) (ty := tyX4 2) (C := RX4) (T := TX4) (N := 4) hx hb hts i_X4_init_X4 tyX4 tyX4_ok nmX4 hown hE.1 hP hD hS 0 rfl rfl 2 (by decide) (hts (.fieldLink RX4 9 "RainVault$TextReader" "now" "I") (by decide +kernel)) (fun _ h9 => h9) rfl (by decide +kernel) rfl rfl (Nat.le_of_ble_eq_true rfl) dX4_init_6 (fun H locs hP hD hS => ?_)
  have hP : va_P g.1 vwK [(r0, .inr (4, [.null, .null, .int (0 : Int32), .int 0]))] H := hP
  have hD : va_D A [(r0, .inr (4, [.null, .null, .int (0 : Int32), .int 0]))] := hD
  refine lv_aload_n hx hb dX4_init_9 rfl (lv_at hl 0 rfl) ?_
  refine lv_iconst (v := (0 : Int32)) hx hb dX4_init_10 (by decide) ?_
  refine va_put (D := g.1) (ci := 4) (v := .int (0 : Int32)) (ty := tyX4 3) (C := RX4) (T := TX4) (N := 4) hx hb hts i_X4_init_X4 tyX4 tyX4_ok nmX4 hown hE.1 hP hD hS 0 rfl rfl 3 (by decide) (hts (.fieldLink RX4 15 "RainVault$TextReader" "taken" "I") (by decide +kernel)) (fun _ h9 => h9) rfl (by decide +kernel) rfl rfl (Nat.le_of_ble_eq_true rfl) dX4_init_11 (fun H locs hP hD hS => ?_)
  have hP : va_P g.1 vwK [(r0, .inr (4, [.null, .null, .int (0 : Int32), .int (0 : Int32)]))] H := hP
  have hD : va_D A [(r0, .inr (4, [.null, .null, .int (0 : Int32), .int (0 : Int32)]))] := hD
  refine lv_aload_n hx hb dX4_init_14 rfl (lv_at hl 0 rfl) ?_
  refine va_new (ci := 5) (fs := [.null, .null, .null, .null, .int 0, .int 0]) (C := RX5) (T := TX5) (N := 6) hx hb hts i_X4_init_X5 tyX5 tyX5_ok hown (hts (.classLink RX4 18 RX5) (by decide +kernel)) (hts (.instantiable RX5 6) (by decide +kernel)) (hts (.initialized RX5) (by decide +kernel)) hE.1 hP hD hS hA rfl (fun j hj => ?_) (Nat.le_of_ble_eq_true rfl) (Nat.le_of_ble_eq_true rfl) dX4_init_15 (fun t0 H hP hD hS => ?_)
  · match j, hj with
    | 0, _ => rfl
    | 1, _ => rfl
    | 2, _ => rfl
    | 3, _ => rfl
    | 4, _ => rfl
    | 5, _ => rfl
    | j + 6, hj => omega
  have hP : va_P g.1 vwK [(r0, .inr (4, [.null, .null, .int (0 : Int32), .int (0 : Int32)])), (t0, .inr (5, [.null, .null, .null, .null, .int 0, .int 0]))] H := hP
  have hD : va_D A [(r0, .inr (4, [.null, .null, .int (0 : Int32), .int (0 : Int32)])), (t0, .inr (5, [.null, .null, .null, .null, .int 0, .int 0]))] := hD
  refine W.widen (k := 1) (n := 6) (Nat.le_of_ble_eq_true rfl) (Nat.le_of_ble_eq_true rfl) ?_
  refine lv_dup hx hb dX4_init_18 rfl ?_
  refine lv_aload_n hx hb dX4_init_19 rfl (lv_at hl 1 rfl) ?_
  refine Cn.callI (wr := [(r0, .inr (4, [.null, .null, .int (0 : Int32), .int (0 : Int32)]))]) (wi := [(t0, .inr (5, [.null, .null, .null, .null, .int 0, .int 0]))]) (As := [.ref p0]) (rest := [.ref t0, .ref r0]) (c_X5_init l g t0 p0) (cwI 1 hts gX4_init_X5_init rfl rfl rfl (hts (.initialized RX5) (by decide +kernel)) (hts (.methodLink RX4 20 yX5_init) (by decide +kernel)) (hts (.instanceMethod yX5_init) (by decide +kernel)) rfl (by decide +kernel) ⟨Nat.le_of_ble_eq_true rfl, Nat.le_of_ble_eq_true rfl⟩) ⟨hx, hb, hml, hown, hts⟩ hE hO hP hD hS hA [1] [0] rfl rfl (by decide) (by decide) (by decide) rfl hl.1 rfl (Nat.le_of_ble_eq_true rfl) dX4_init_20 ⟨Nat.le_of_ble_eq_true rfl, Nat.le_of_ble_eq_true rfl⟩ (fun wo H locs hSo hP hD hS => ?_)
  obtain ⟨t1, t2, t3, rfl⟩ := hSo
  have hP : va_P g.1 vwK [(r0, .inr (4, [.null, .null, .int (0 : Int32), .int (0 : Int32)])), (t0, .inr (5, [.ref p0, .ref t1, .ref t2, .ref t3, .int 0, .int 0])), (t1, .inl (g.2.1 0, 121, .inl (fun _ => 0))), (t2, .inl (g.2.1 0, 121, .inl (fun _ => 0))), (t3, .inl (g.2.1 0, 121, .inl (fun _ => 0)))] H := hP
  have hD : va_D A [(r0, .inr (4, [.null, .null, .int (0 : Int32), .int (0 : Int32)])), (t0, .inr (5, [.ref p0, .ref t1, .ref t2, .ref t3, .int 0, .int 0])), (t1, .inl (g.2.1 0, 121, .inl (fun _ => 0))), (t2, .inl (g.2.1 0, 121, .inl (fun _ => 0))), (t3, .inl (g.2.1 0, 121, .inl (fun _ => 0)))] := hD
  refine W.widen (k := 4) (n := 369) (Nat.le_of_ble_eq_true rfl) (Nat.le_of_ble_eq_true rfl) ?_
  refine va_putF (D := g.1) (ci := 4) (v := .ref t0) (ty := tyX4 0) (C := RX4) (T := TX4) (N := 4) hx hb hts i_X4_init_X4 tyX4 tyX4_ok nmX4 hown hE.1 hP hD hS 0 rfl rfl 0 (by decide) (hts (.fieldLink RX4 23 "RainVault$TextReader" "tokens" "LRainVault$Tokens;") (by decide +kernel)) (fun _ h9 => h9) rfl hin rfl (by decide +kernel) rfl rfl (Nat.le_of_ble_eq_true rfl) dX4_init_23 (fun H locs hP hD hS => ?_)
  have hP : va_P g.1 vwK [(r0, .inr (4, [.ref t0, .null, .int (0 : Int32), .int (0 : Int32)])), (t0, .inr (5, [.ref p0, .ref t1, .ref t2, .ref t3, .int 0, .int 0])), (t1, .inl (g.2.1 0, 121, .inl (fun _ => 0))), (t2, .inl (g.2.1 0, 121, .inl (fun _ => 0))), (t3, .inl (g.2.1 0, 121, .inl (fun _ => 0)))] H := hP
  have hD : va_D A [(r0, .inr (4, [.ref t0, .null, .int (0 : Int32), .int (0 : Int32)])), (t0, .inr (5, [.ref p0, .ref t1, .ref t2, .ref t3, .int 0, .int 0])), (t1, .inl (g.2.1 0, 121, .inl (fun _ => 0))), (t2, .inl (g.2.1 0, 121, .inl (fun _ => 0))), (t3, .inl (g.2.1 0, 121, .inl (fun _ => 0)))] := hD
  refine lv_aload_n hx hb dX4_init_26 rfl (lv_at hl 0 rfl) ?_
  refine lv_aload_n hx hb dX4_init_27 rfl (lv_at hl 2 rfl) ?_
  refine va_putF (D := g.1) (ci := 4) (v := .ref h0) (ty := tyX4 1) (C := RX4) (T := TX4) (N := 4) hx hb hts i_X4_init_X4 tyX4 tyX4_ok nmX4 hown hE.1 hP hD hS 0 rfl rfl 1 (by decide) (hts (.fieldLink RX4 27 "RainVault$TextReader" "draft" "LRainVault$Roof;") (by decide +kernel)) (fun _ h9 => h9) rfl hin rfl (by decide +kernel) rfl rfl (Nat.le_of_ble_eq_true rfl) dX4_init_28 (fun H locs hP hD hS => ?_)
  have hP : va_P g.1 vwK [(r0, .inr (4, [.ref t0, .ref h0, .int (0 : Int32), .int (0 : Int32)])), (t0, .inr (5, [.ref p0, .ref t1, .ref t2, .ref t3, .int 0, .int 0])), (t1, .inl (g.2.1 0, 121, .inl (fun _ => 0))), (t2, .inl (g.2.1 0, 121, .inl (fun _ => 0))), (t3, .inl (g.2.1 0, 121, .inl (fun _ => 0)))] H := hP
  have hD : va_D A [(r0, .inr (4, [.ref t0, .ref h0, .int (0 : Int32), .int (0 : Int32)])), (t0, .inr (5, [.ref p0, .ref t1, .ref t2, .ref t3, .int 0, .int 0])), (t1, .inl (g.2.1 0, 121, .inl (fun _ => 0))), (t2, .inl (g.2.1 0, 121, .inl (fun _ => 0))), (t3, .inl (g.2.1 0, 121, .inl (fun _ => 0)))] := hD
  rw [hQ]
  exact xc_vret hx hb hr hlocks hAe ⟨t0, t1, t2, t3, rfl⟩ hP hD hS (Nat.le_of_ble_eq_true rfl) (Nat.le_of_ble_eq_true rfl) dX4_init_31
