/-! ===== the law, call by call (printed by gen3.py) ===== -/
set_option maxHeartbeats 4000000 in
set_option maxRecDepth 100000 in
theorem s_rains : StepAt 713 := by
  intro p e s m below meth c l b L xs hL C0 g d V M i hi H locs ls hE hI hW hS hl kk
  obtain ⟨hx, hb, hr, hml, hown, hts, hX, hbl, hlocks, hgv⟩ := C0
  have hA : ∀ q : Nat, s.heap.size ≤ q → (fun q : Nat => s.heap.size ≤ q) q := fun _ h => h
  have hbA : ¬ (fun q : Nat => s.heap.size ≤ q) b := Nat.not_le.mpr hbl
  obtain ⟨r, V2, M2, hI2, c6, c7⟩ := b_rains l g d V M hI (xs (nI i + (1 : Int32)).toNatClampNeg)
  refine lv_aload_n hx hb dL_law_713 rfl (lv_at hl 1 rfl) ?_
  refine lv_aload_n hx hb dL_law_714 rfl (lv_at hl 0 rfl) ?_
  refine lv_iload_n hx hb dL_law_715 rfl (lv_at hl 3 rfl) ?_
  refine lv_iconst (v := (1 : Int32)) hx hb dL_law_716 (by decide) ?_
  refine lv_iadd hx hb dL_law_717 ?_
  refine va_sld hx hb hX hbl hbA hS (law_in (k := 1) hi hL (by decide) rfl) dL_law_718 ?_
  refine law_call (As := [.int (xs (nI i + (1 : Int32)).toNatClampNeg)]) (rest := []) c6 (cwV 1 hts gL_X6_rains rfl rfl rfl (by decide +kernel) ⟨Nat.le_of_ble_eq_true rfl, Nat.le_of_ble_eq_true rfl⟩) ⟨hx, hb, hml, hown, hts⟩ hE hW hS hA (wVd_adr g d _ _) 6 rfl (wVd_at g d _) rfl rfl hl.1 rfl (Nat.le_of_ble_eq_true rfl) dL_law_719 (Nat.le_refl _) (Nat.le_refl _) (fun H locs hW hS => ?_)
  refine lv_aload_n hx hb dL_law_722 rfl (lv_at hl 2 rfl) ?_
  refine lv_aload_n hx hb dL_law_723 rfl (lv_at hl 0 rfl) ?_
  refine lv_iload_n hx hb dL_law_724 rfl (lv_at hl 3 rfl) ?_
  refine lv_iconst (v := (1 : Int32)) hx hb dL_law_725 (by decide) ?_
  refine lv_iadd hx hb dL_law_726 ?_
  refine va_sld hx hb hX hbl hbA hS (law_in (k := 1) hi hL (by decide) rfl) dL_law_727 ?_
  refine law_call (As := [.int (xs (nI i + (1 : Int32)).toNatClampNeg)]) (rest := [.int r]) c7 (cwV 1 hts gL_X7_rains rfl rfl rfl (by decide +kernel) ⟨Nat.le_of_ble_eq_true rfl, Nat.le_of_ble_eq_true rfl⟩) ⟨hx, hb, hml, hown, hts⟩ hE hW.sw hS hA (wMd_adr g d _ _) 7 rfl (wMd_at g d _) rfl rfl hl.1 rfl (Nat.le_of_ble_eq_true rfl) dL_law_728 (Nat.le_refl _) (Nat.le_refl _) (fun H locs hW hS => ?_)
  exact lv_icmp_eq (tgt := 1533) hx hb dL_law_731 (by decide) (fun hc => kk V2 M2 H locs hI2 hW.sw hS) (fun hc => absurd rfl hc)
set_option maxHeartbeats 4000000 in
set_option maxRecDepth 100000 in
theorem s_first : StepAt 736 := by
  intro p e s m below meth c l b L xs hL C0 g d V M i hi H locs ls hE hI hW hS hl kk
  obtain ⟨hx, hb, hr, hml, hown, hts, hX, hbl, hlocks, hgv⟩ := C0
  have hA : ∀ q : Nat, s.heap.size ≤ q → (fun q : Nat => s.heap.size ≤ q) q := fun _ h => h
  have hbA : ¬ (fun q : Nat => s.heap.size ≤ q) b := Nat.not_le.mpr hbl
  obtain ⟨r, V2, M2, hI2, c6, c7⟩ := b_first l g d V M hI (xs (nI i + (1 : Int32)).toNatClampNeg) (xs (nI i + (2 : Int32)).toNatClampNeg)
  refine lv_aload_n hx hb dL_law_736 rfl (lv_at hl 1 rfl) ?_
  refine lv_aload_n hx hb dL_law_737 rfl (lv_at hl 0 rfl) ?_
  refine lv_iload_n hx hb dL_law_738 rfl (lv_at hl 3 rfl) ?_
  refine lv_iconst (v := (1 : Int32)) hx hb dL_law_739 (by decide) ?_
  refine lv_iadd hx hb dL_law_740 ?_
  refine va_sld hx hb hX hbl hbA hS (law_in (k := 1) hi hL (by decide) rfl) dL_law_741 ?_
  refine lv_aload_n hx hb dL_law_742 rfl (lv_at hl 0 rfl) ?_
  refine lv_iload_n hx hb dL_law_743 rfl (lv_at hl 3 rfl) ?_
  refine lv_iconst (v := (2 : Int32)) hx hb dL_law_744 (by decide) ?_
  refine lv_iadd hx hb dL_law_745 ?_
  refine va_sld hx hb hX hbl hbA hS (law_in (k := 2) hi hL (by decide) rfl) dL_law_746 ?_
  refine law_call (As := [.int (xs (nI i + (1 : Int32)).toNatClampNeg), .int (xs (nI i + (2 : Int32)).toNatClampNeg)]) (rest := []) c6 (cwV 2 hts gL_X6_first rfl rfl rfl (by decide +kernel) ⟨Nat.le_of_ble_eq_true rfl, Nat.le_of_ble_eq_true rfl⟩) ⟨hx, hb, hml, hown, hts⟩ hE hW hS hA (wVd_adr g d _ _) 6 rfl (wVd_at g d _) rfl rfl hl.1 rfl (Nat.le_of_ble_eq_true rfl) dL_law_747 (Nat.le_refl _) (Nat.le_refl _) (fun H locs hW hS => ?_)
  refine lv_aload_n hx hb dL_law_750 rfl (lv_at hl 2 rfl) ?_
  refine lv_aload_n hx hb dL_law_751 rfl (lv_at hl 0 rfl) ?_
  refine lv_iload_n hx hb dL_law_752 rfl (lv_at hl 3 rfl) ?_
  refine lv_iconst (v := (1 : Int32)) hx hb dL_law_753 (by decide) ?_
  refine lv_iadd hx hb dL_law_754 ?_
  refine va_sld hx hb hX hbl hbA hS (law_in (k := 1) hi hL (by decide) rfl) dL_law_755 ?_
  refine lv_aload_n hx hb dL_law_756 rfl (lv_at hl 0 rfl) ?_
  refine lv_iload_n hx hb dL_law_757 rfl (lv_at hl 3 rfl) ?_
  refine lv_iconst (v := (2 : Int32)) hx hb dL_law_758 (by decide) ?_
  refine lv_iadd hx hb dL_law_759 ?_
  refine va_sld hx hb hX hbl hbA hS (law_in (k := 2) hi hL (by decide) rfl) dL_law_760 ?_
  refine law_call (As := [.int (xs (nI i + (1 : Int32)).toNatClampNeg), .int (xs (nI i + (2 : Int32)).toNatClampNeg)]) (rest := [.int r]) c7 (cwV 2 hts gL_X7_first rfl rfl rfl (by decide +kernel) ⟨Nat.le_of_ble_eq_true rfl, Nat.le_of_ble_eq_true rfl⟩) ⟨hx, hb, hml, hown, hts⟩ hE hW.sw hS hA (wMd_adr g d _ _) 7 rfl (wMd_at g d _) rfl rfl hl.1 rfl (Nat.le_of_ble_eq_true rfl) dL_law_761 (Nat.le_refl _) (Nat.le_refl _) (fun H locs hW hS => ?_)
  exact lv_icmp_eq (tgt := 1533) hx hb dL_law_764 (by decide) (fun hc => kk V2 M2 H locs hI2 hW.sw hS) (fun hc => absurd rfl hc)
set_option maxHeartbeats 4000000 in
set_option maxRecDepth 100000 in
theorem s_driest : StepAt 769 := by
  intro p e s m below meth c l b L xs hL C0 g d V M i hi H locs ls hE hI hW hS hl kk
  obtain ⟨hx, hb, hr, hml, hown, hts, hX, hbl, hlocks, hgv⟩ := C0
  have hA : ∀ q : Nat, s.heap.size ≤ q → (fun q : Nat => s.heap.size ≤ q) q := fun _ h => h
  have hbA : ¬ (fun q : Nat => s.heap.size ≤ q) b := Nat.not_le.mpr hbl
  obtain ⟨r, V2, M2, hI2, c6, c7⟩ := b_driest l g d V M hI (xs (nI i + (1 : Int32)).toNatClampNeg)
  refine lv_aload_n hx hb dL_law_769 rfl (lv_at hl 1 rfl) ?_
  refine lv_aload_n hx hb dL_law_770 rfl (lv_at hl 0 rfl) ?_
  refine lv_iload_n hx hb dL_law_771 rfl (lv_at hl 3 rfl) ?_
  refine lv_iconst (v := (1 : Int32)) hx hb dL_law_772 (by decide) ?_
  refine lv_iadd hx hb dL_law_773 ?_
  refine va_sld hx hb hX hbl hbA hS (law_in (k := 1) hi hL (by decide) rfl) dL_law_774 ?_
  refine law_call (As := [.int (xs (nI i + (1 : Int32)).toNatClampNeg)]) (rest := []) c6 (cwV 1 hts gL_X6_driest rfl rfl rfl (by decide +kernel) ⟨Nat.le_of_ble_eq_true rfl, Nat.le_of_ble_eq_true rfl⟩) ⟨hx, hb, hml, hown, hts⟩ hE hW hS hA (wVd_adr g d _ _) 6 rfl (wVd_at g d _) rfl rfl hl.1 rfl (Nat.le_of_ble_eq_true rfl) dL_law_775 (Nat.le_refl _) (Nat.le_refl _) (fun H locs hW hS => ?_)
  refine lv_aload_n hx hb dL_law_778 rfl (lv_at hl 2 rfl) ?_
  refine lv_aload_n hx hb dL_law_779 rfl (lv_at hl 0 rfl) ?_
  refine lv_iload_n hx hb dL_law_780 rfl (lv_at hl 3 rfl) ?_
  refine lv_iconst (v := (1 : Int32)) hx hb dL_law_781 (by decide) ?_
  refine lv_iadd hx hb dL_law_782 ?_
  refine va_sld hx hb hX hbl hbA hS (law_in (k := 1) hi hL (by decide) rfl) dL_law_783 ?_
  refine law_call (As := [.int (xs (nI i + (1 : Int32)).toNatClampNeg)]) (rest := [.int r]) c7 (cwV 1 hts gL_X7_driest rfl rfl rfl (by decide +kernel) ⟨Nat.le_of_ble_eq_true rfl, Nat.le_of_ble_eq_true rfl⟩) ⟨hx, hb, hml, hown, hts⟩ hE hW.sw hS hA (wMd_adr g d _ _) 7 rfl (wMd_at g d _) rfl rfl hl.1 rfl (Nat.le_of_ble_eq_true rfl) dL_law_784 (Nat.le_refl _) (Nat.le_refl _) (fun H locs hW hS => ?_)
  exact lv_icmp_eq (tgt := 1533) hx hb dL_law_787 (by decide) (fun hc => kk V2 M2 H locs hI2 hW.sw hS) (fun hc => absurd rfl hc)
set_option maxHeartbeats 4000000 in
set_option maxRecDepth 100000 in
theorem s_soonest : StepAt 792 := by
  intro p e s m below meth c l b L xs hL C0 g d V M i hi H locs ls hE hI hW hS hl kk
  obtain ⟨hx, hb, hr, hml, hown, hts, hX, hbl, hlocks, hgv⟩ := C0
  have hA : ∀ q : Nat, s.heap.size ≤ q → (fun q : Nat => s.heap.size ≤ q) q := fun _ h => h
  have hbA : ¬ (fun q : Nat => s.heap.size ≤ q) b := Nat.not_le.mpr hbl
  obtain ⟨r, V2, M2, hI2, c6, c7⟩ := b_soonest l g d V M hI
  refine lv_aload_n hx hb dL_law_792 rfl (lv_at hl 1 rfl) ?_
  refine law_call (As := []) (rest := []) c6 (cwV 0 hts gL_X6_soonest rfl rfl rfl (by decide +kernel) ⟨Nat.le_of_ble_eq_true rfl, Nat.le_of_ble_eq_true rfl⟩) ⟨hx, hb, hml, hown, hts⟩ hE hW hS hA (wVd_adr g d _ _) 6 rfl (wVd_at g d _) rfl rfl hl.1 rfl (Nat.le_of_ble_eq_true rfl) dL_law_793 (Nat.le_refl _) (Nat.le_refl _) (fun H locs hW hS => ?_)
  refine lv_aload_n hx hb dL_law_796 rfl (lv_at hl 2 rfl) ?_
  refine law_call (As := []) (rest := [.int r]) c7 (cwV 0 hts gL_X7_soonest rfl rfl rfl (by decide +kernel) ⟨Nat.le_of_ble_eq_true rfl, Nat.le_of_ble_eq_true rfl⟩) ⟨hx, hb, hml, hown, hts⟩ hE hW.sw hS hA (wMd_adr g d _ _) 7 rfl (wMd_at g d _) rfl rfl hl.1 rfl (Nat.le_of_ble_eq_true rfl) dL_law_797 (Nat.le_refl _) (Nat.le_refl _) (fun H locs hW hS => ?_)
  exact lv_icmp_eq (tgt := 1533) hx hb dL_law_800 (by decide) (fun hc => kk V2 M2 H locs hI2 hW.sw hS) (fun hc => absurd rfl hc)
set_option maxHeartbeats 4000000 in
set_option maxRecDepth 100000 in
theorem s_needed : StepAt 805 := by
  intro p e s m below meth c l b L xs hL C0 g d V M i hi H locs ls hE hI hW hS hl kk
  obtain ⟨hx, hb, hr, hml, hown, hts, hX, hbl, hlocks, hgv⟩ := C0
  have hA : ∀ q : Nat, s.heap.size ≤ q → (fun q : Nat => s.heap.size ≤ q) q := fun _ h => h
  have hbA : ¬ (fun q : Nat => s.heap.size ≤ q) b := Nat.not_le.mpr hbl
  obtain ⟨r, V2, M2, hI2, c6, c7⟩ := b_needed l g d V M hI (xs (nI i + (1 : Int32)).toNatClampNeg)
  refine lv_aload_n hx hb dL_law_805 rfl (lv_at hl 1 rfl) ?_
  refine lv_aload_n hx hb dL_law_806 rfl (lv_at hl 0 rfl) ?_
  refine lv_iload_n hx hb dL_law_807 rfl (lv_at hl 3 rfl) ?_
  refine lv_iconst (v := (1 : Int32)) hx hb dL_law_808 (by decide) ?_
  refine lv_iadd hx hb dL_law_809 ?_
  refine va_sld hx hb hX hbl hbA hS (law_in (k := 1) hi hL (by decide) rfl) dL_law_810 ?_
  refine law_call (As := [.int (xs (nI i + (1 : Int32)).toNatClampNeg)]) (rest := []) c6 (cwV 1 hts gL_X6_needed rfl rfl rfl (by decide +kernel) ⟨Nat.le_of_ble_eq_true rfl, Nat.le_of_ble_eq_true rfl⟩) ⟨hx, hb, hml, hown, hts⟩ hE hW hS hA (wVd_adr g d _ _) 6 rfl (wVd_at g d _) rfl rfl hl.1 rfl (Nat.le_of_ble_eq_true rfl) dL_law_811 (Nat.le_refl _) (Nat.le_refl _) (fun H locs hW hS => ?_)
  refine lv_aload_n hx hb dL_law_814 rfl (lv_at hl 2 rfl) ?_
  refine lv_aload_n hx hb dL_law_815 rfl (lv_at hl 0 rfl) ?_
  refine lv_iload_n hx hb dL_law_816 rfl (lv_at hl 3 rfl) ?_
  refine lv_iconst (v := (1 : Int32)) hx hb dL_law_817 (by decide) ?_
  refine lv_iadd hx hb dL_law_818 ?_
  refine va_sld hx hb hX hbl hbA hS (law_in (k := 1) hi hL (by decide) rfl) dL_law_819 ?_
  refine law_call (As := [.int (xs (nI i + (1 : Int32)).toNatClampNeg)]) (rest := [.int r]) c7 (cwV 1 hts gL_X7_needed rfl rfl rfl (by decide +kernel) ⟨Nat.le_of_ble_eq_true rfl, Nat.le_of_ble_eq_true rfl⟩) ⟨hx, hb, hml, hown, hts⟩ hE hW.sw hS hA (wMd_adr g d _ _) 7 rfl (wMd_at g d _) rfl rfl hl.1 rfl (Nat.le_of_ble_eq_true rfl) dL_law_820 (Nat.le_refl _) (Nat.le_refl _) (fun H locs hW hS => ?_)
  exact lv_icmp_eq (tgt := 1533) hx hb dL_law_823 (by decide) (fun hc => kk V2 M2 H locs hI2 hW.sw hS) (fun hc => absurd rfl hc)
set_option maxHeartbeats 4000000 in
set_option maxRecDepth 100000 in
theorem s_buckets : StepAt 828 := by
  intro p e s m below meth c l b L xs hL C0 g d V M i hi H locs ls hE hI hW hS hl kk
  obtain ⟨hx, hb, hr, hml, hown, hts, hX, hbl, hlocks, hgv⟩ := C0
  have hA : ∀ q : Nat, s.heap.size ≤ q → (fun q : Nat => s.heap.size ≤ q) q := fun _ h => h
  have hbA : ¬ (fun q : Nat => s.heap.size ≤ q) b := Nat.not_le.mpr hbl
  obtain ⟨r, V2, M2, hI2, c6, c7⟩ := b_buckets l g d V M hI
  refine lv_aload_n hx hb dL_law_828 rfl (lv_at hl 1 rfl) ?_
  refine law_call (As := []) (rest := []) c6 (cwV 0 hts gL_X6_buckets rfl rfl rfl (by decide +kernel) ⟨Nat.le_of_ble_eq_true rfl, Nat.le_of_ble_eq_true rfl⟩) ⟨hx, hb, hml, hown, hts⟩ hE hW hS hA (wVd_adr g d _ _) 6 rfl (wVd_at g d _) rfl rfl hl.1 rfl (Nat.le_of_ble_eq_true rfl) dL_law_829 (Nat.le_refl _) (Nat.le_refl _) (fun H locs hW hS => ?_)
  refine lv_aload_n hx hb dL_law_832 rfl (lv_at hl 2 rfl) ?_
  refine law_call (As := []) (rest := [.int r]) c7 (cwV 0 hts gL_X7_buckets rfl rfl rfl (by decide +kernel) ⟨Nat.le_of_ble_eq_true rfl, Nat.le_of_ble_eq_true rfl⟩) ⟨hx, hb, hml, hown, hts⟩ hE hW.sw hS hA (wMd_adr g d _ _) 7 rfl (wMd_at g d _) rfl rfl hl.1 rfl (Nat.le_of_ble_eq_true rfl) dL_law_833 (Nat.le_refl _) (Nat.le_refl _) (fun H locs hW hS => ?_)
  exact lv_icmp_eq (tgt := 1533) hx hb dL_law_836 (by decide) (fun hc => kk V2 M2 H locs hI2 hW.sw hS) (fun hc => absurd rfl hc)
set_option maxHeartbeats 4000000 in
set_option maxRecDepth 100000 in
theorem s_carry : StepAt 841 := by
  intro p e s m below meth c l b L xs hL C0 g d V M i hi H locs ls hE hI hW hS hl kk
  obtain ⟨hx, hb, hr, hml, hown, hts, hX, hbl, hlocks, hgv⟩ := C0
  have hA : ∀ q : Nat, s.heap.size ≤ q → (fun q : Nat => s.heap.size ≤ q) q := fun _ h => h
  have hbA : ¬ (fun q : Nat => s.heap.size ≤ q) b := Nat.not_le.mpr hbl
  obtain ⟨r, V2, M2, hI2, c6, c7⟩ := b_carry l g d V M hI (xs (nI i + (1 : Int32)).toNatClampNeg)
  refine lv_aload_n hx hb dL_law_841 rfl (lv_at hl 1 rfl) ?_
  refine lv_aload_n hx hb dL_law_842 rfl (lv_at hl 0 rfl) ?_
  refine lv_iload_n hx hb dL_law_843 rfl (lv_at hl 3 rfl) ?_
  refine lv_iconst (v := (1 : Int32)) hx hb dL_law_844 (by decide) ?_
  refine lv_iadd hx hb dL_law_845 ?_
  refine va_sld hx hb hX hbl hbA hS (law_in (k := 1) hi hL (by decide) rfl) dL_law_846 ?_
  refine law_call (As := [.int (xs (nI i + (1 : Int32)).toNatClampNeg)]) (rest := []) c6 (cwV 1 hts gL_X6_carry rfl rfl rfl (by decide +kernel) ⟨Nat.le_of_ble_eq_true rfl, Nat.le_of_ble_eq_true rfl⟩) ⟨hx, hb, hml, hown, hts⟩ hE hW hS hA (wVd_adr g d _ _) 6 rfl (wVd_at g d _) rfl rfl hl.1 rfl (Nat.le_of_ble_eq_true rfl) dL_law_847 (Nat.le_refl _) (Nat.le_refl _) (fun H locs hW hS => ?_)
  refine lv_aload_n hx hb dL_law_850 rfl (lv_at hl 2 rfl) ?_
  refine lv_aload_n hx hb dL_law_851 rfl (lv_at hl 0 rfl) ?_
  refine lv_iload_n hx hb dL_law_852 rfl (lv_at hl 3 rfl) ?_
  refine lv_iconst (v := (1 : Int32)) hx hb dL_law_853 (by decide) ?_
  refine lv_iadd hx hb dL_law_854 ?_
  refine va_sld hx hb hX hbl hbA hS (law_in (k := 1) hi hL (by decide) rfl) dL_law_855 ?_
  refine law_call (As := [.int (xs (nI i + (1 : Int32)).toNatClampNeg)]) (rest := [.int r]) c7 (cwV 1 hts gL_X7_carry rfl rfl rfl (by decide +kernel) ⟨Nat.le_of_ble_eq_true rfl, Nat.le_of_ble_eq_true rfl⟩) ⟨hx, hb, hml, hown, hts⟩ hE hW.sw hS hA (wMd_adr g d _ _) 7 rfl (wMd_at g d _) rfl rfl hl.1 rfl (Nat.le_of_ble_eq_true rfl) dL_law_856 (Nat.le_refl _) (Nat.le_refl _) (fun H locs hW hS => ?_)
  exact lv_icmp_eq (tgt := 1533) hx hb dL_law_859 (by decide) (fun hc => kk V2 M2 H locs hI2 hW.sw hS) (fun hc => absurd rfl hc)
set_option maxHeartbeats 4000000 in
set_option maxRecDepth 100000 in
theorem s_cloths : StepAt 864 := by
  intro p e s m below meth c l b L xs hL C0 g d V M i hi H locs ls hE hI hW hS hl kk
  obtain ⟨hx, hb, hr, hml, hown, hts, hX, hbl, hlocks, hgv⟩ := C0
  have hA : ∀ q : Nat, s.heap.size ≤ q → (fun q : Nat => s.heap.size ≤ q) q := fun _ h => h
  have hbA : ¬ (fun q : Nat => s.heap.size ≤ q) b := Nat.not_le.mpr hbl
  obtain ⟨r, V2, M2, hI2, c6, c7⟩ := b_cloths l g d V M hI (xs (nI i + (1 : Int32)).toNatClampNeg) (xs (nI i + (2 : Int32)).toNatClampNeg) (xs (nI i + (3 : Int32)).toNatClampNeg)
  refine lv_aload_n hx hb dL_law_864 rfl (lv_at hl 1 rfl) ?_
  refine lv_aload_n hx hb dL_law_865 rfl (lv_at hl 0 rfl) ?_
  refine lv_iload_n hx hb dL_law_866 rfl (lv_at hl 3 rfl) ?_
  refine lv_iconst (v := (1 : Int32)) hx hb dL_law_867 (by decide) ?_
  refine lv_iadd hx hb dL_law_868 ?_
  refine va_sld hx hb hX hbl hbA hS (law_in (k := 1) hi hL (by decide) rfl) dL_law_869 ?_
  refine lv_aload_n hx hb dL_law_870 rfl (lv_at hl 0 rfl) ?_
  refine lv_iload_n hx hb dL_law_871 rfl (lv_at hl 3 rfl) ?_
  refine lv_iconst (v := (2 : Int32)) hx hb dL_law_872 (by decide) ?_
  refine lv_iadd hx hb dL_law_873 ?_
  refine va_sld hx hb hX hbl hbA hS (law_in (k := 2) hi hL (by decide) rfl) dL_law_874 ?_
  refine lv_aload_n hx hb dL_law_875 rfl (lv_at hl 0 rfl) ?_
  refine lv_iload_n hx hb dL_law_876 rfl (lv_at hl 3 rfl) ?_
  refine lv_iconst (v := (3 : Int32)) hx hb dL_law_877 (by decide) ?_
  refine lv_iadd hx hb dL_law_878 ?_
  refine va_sld hx hb hX hbl hbA hS (law_in (k := 3) hi hL (by decide) rfl) dL_law_879 ?_
  refine law_call (As := [.int (xs (nI i + (1 : Int32)).toNatClampNeg), .int (xs (nI i + (2 : Int32)).toNatClampNeg), .int (xs (nI i + (3 : Int32)).toNatClampNeg)]) (rest := []) c6 (cwV 3 hts gL_X6_cloths rfl rfl rfl (by decide +kernel) ⟨Nat.le_of_ble_eq_true rfl, Nat.le_of_ble_eq_true rfl⟩) ⟨hx, hb, hml, hown, hts⟩ hE hW hS hA (wVd_adr g d _ _) 6 rfl (wVd_at g d _) rfl rfl hl.1 rfl (Nat.le_of_ble_eq_true rfl) dL_law_880 (Nat.le_refl _) (Nat.le_refl _) (fun H locs hW hS => ?_)
  refine lv_aload_n hx hb dL_law_883 rfl (lv_at hl 2 rfl) ?_
  refine lv_aload_n hx hb dL_law_884 rfl (lv_at hl 0 rfl) ?_
  refine lv_iload_n hx hb dL_law_885 rfl (lv_at hl 3 rfl) ?_
  refine lv_iconst (v := (1 : Int32)) hx hb dL_law_886 (by decide) ?_
  refine lv_iadd hx hb dL_law_887 ?_
  refine va_sld hx hb hX hbl hbA hS (law_in (k := 1) hi hL (by decide) rfl) dL_law_888 ?_
  refine lv_aload_n hx hb dL_law_889 rfl (lv_at hl 0 rfl) ?_
  refine lv_iload_n hx hb dL_law_890 rfl (lv_at hl 3 rfl) ?_
  refine lv_iconst (v := (2 : Int32)) hx hb dL_law_891 (by decide) ?_
  refine lv_iadd hx hb dL_law_892 ?_
  refine va_sld hx hb hX hbl hbA hS (law_in (k := 2) hi hL (by decide) rfl) dL_law_893 ?_
  refine lv_aload_n hx hb dL_law_894 rfl (lv_at hl 0 rfl) ?_
  refine lv_iload_n hx hb dL_law_895 rfl (lv_at hl 3 rfl) ?_
  refine lv_iconst (v := (3 : Int32)) hx hb dL_law_896 (by decide) ?_
  refine lv_iadd hx hb dL_law_897 ?_
  refine va_sld hx hb hX hbl hbA hS (law_in (k := 3) hi hL (by decide) rfl) dL_law_898 ?_
  refine law_call (As := [.int (xs (nI i + (1 : Int32)).toNatClampNeg), .int (xs (nI i + (2 : Int32)).toNatClampNeg), .int (xs (nI i + (3 : Int32)).toNatClampNeg)]) (rest := [.int r]) c7 (cwV 3 hts gL_X7_cloths rfl rfl rfl (by decide +kernel) ⟨Nat.le_of_ble_eq_true rfl, Nat.le_of_ble_eq_true rfl⟩) ⟨hx, hb, hml, hown, hts⟩ hE hW.sw hS hA (wMd_adr g d _ _) 7 rfl (wMd_at g d _) rfl rfl hl.1 rfl (Nat.le_of_ble_eq_true rfl) dL_law_899 (Nat.le_refl _) (Nat.le_refl _) (fun H locs hW hS => ?_)
  exact lv_icmp_eq (tgt := 1533) hx hb dL_law_902 (by decide) (fun hc => kk V2 M2 H locs hI2 hW.sw hS) (fun hc => absurd rfl hc)
set_option maxHeartbeats 4000000 in
set_option maxRecDepth 100000 in
theorem s_guard : StepAt 907 := by
  intro p e s m below meth c l b L xs hL C0 g d V M i hi H locs ls hE hI hW hS hl kk
  obtain ⟨hx, hb, hr, hml, hown, hts, hX, hbl, hlocks, hgv⟩ := C0
  have hA : ∀ q : Nat, s.heap.size ≤ q → (fun q : Nat => s.heap.size ≤ q) q := fun _ h => h
  have hbA : ¬ (fun q : Nat => s.heap.size ≤ q) b := Nat.not_le.mpr hbl
  obtain ⟨r, V2, M2, hI2, c6, c7⟩ := b_guard l g d V M hI (xs (nI i + (1 : Int32)).toNatClampNeg) (xs (nI i + (2 : Int32)).toNatClampNeg) (xs (nI i + (3 : Int32)).toNatClampNeg)
  refine lv_aload_n hx hb dL_law_907 rfl (lv_at hl 1 rfl) ?_
  refine lv_aload_n hx hb dL_law_908 rfl (lv_at hl 0 rfl) ?_
  refine lv_iload_n hx hb dL_law_909 rfl (lv_at hl 3 rfl) ?_
  refine lv_iconst (v := (1 : Int32)) hx hb dL_law_910 (by decide) ?_
  refine lv_iadd hx hb dL_law_911 ?_
  refine va_sld hx hb hX hbl hbA hS (law_in (k := 1) hi hL (by decide) rfl) dL_law_912 ?_
  refine lv_aload_n hx hb dL_law_913 rfl (lv_at hl 0 rfl) ?_
  refine lv_iload_n hx hb dL_law_914 rfl (lv_at hl 3 rfl) ?_
  refine lv_iconst (v := (2 : Int32)) hx hb dL_law_915 (by decide) ?_
  refine lv_iadd hx hb dL_law_916 ?_
  refine va_sld hx hb hX hbl hbA hS (law_in (k := 2) hi hL (by decide) rfl) dL_law_917 ?_
  refine lv_aload_n hx hb dL_law_918 rfl (lv_at hl 0 rfl) ?_
  refine lv_iload_n hx hb dL_law_919 rfl (lv_at hl 3 rfl) ?_
  refine lv_iconst (v := (3 : Int32)) hx hb dL_law_920 (by decide) ?_
  refine lv_iadd hx hb dL_law_921 ?_
  refine va_sld hx hb hX hbl hbA hS (law_in (k := 3) hi hL (by decide) rfl) dL_law_922 ?_
  refine law_call (As := [.int (xs (nI i + (1 : Int32)).toNatClampNeg), .int (xs (nI i + (2 : Int32)).toNatClampNeg), .int (xs (nI i + (3 : Int32)).toNatClampNeg)]) (rest := []) c6 (cwV 3 hts gL_X6_guard rfl rfl rfl (by decide +kernel) ⟨Nat.le_of_ble_eq_true rfl, Nat.le_of_ble_eq_true rfl⟩) ⟨hx, hb, hml, hown, hts⟩ hE hW hS hA (wVd_adr g d _ _) 6 rfl (wVd_at g d _) rfl rfl hl.1 rfl (Nat.le_of_ble_eq_true rfl) dL_law_923 (Nat.le_refl _) (Nat.le_refl _) (fun H locs hW hS => ?_)
  refine lv_aload_n hx hb dL_law_926 rfl (lv_at hl 2 rfl) ?_
  refine lv_aload_n hx hb dL_law_927 rfl (lv_at hl 0 rfl) ?_
  refine lv_iload_n hx hb dL_law_928 rfl (lv_at hl 3 rfl) ?_
  refine lv_iconst (v := (1 : Int32)) hx hb dL_law_929 (by decide) ?_
  refine lv_iadd hx hb dL_law_930 ?_
  refine va_sld hx hb hX hbl hbA hS (law_in (k := 1) hi hL (by decide) rfl) dL_law_931 ?_
  refine lv_aload_n hx hb dL_law_932 rfl (lv_at hl 0 rfl) ?_
  refine lv_iload_n hx hb dL_law_933 rfl (lv_at hl 3 rfl) ?_
  refine lv_iconst (v := (2 : Int32)) hx hb dL_law_934 (by decide) ?_
  refine lv_iadd hx hb dL_law_935 ?_
  refine va_sld hx hb hX hbl hbA hS (law_in (k := 2) hi hL (by decide) rfl) dL_law_936 ?_
  refine lv_aload_n hx hb dL_law_937 rfl (lv_at hl 0 rfl) ?_
  refine lv_iload_n hx hb dL_law_938 rfl (lv_at hl 3 rfl) ?_
  refine lv_iconst (v := (3 : Int32)) hx hb dL_law_939 (by decide) ?_
  refine lv_iadd hx hb dL_law_940 ?_
  refine va_sld hx hb hX hbl hbA hS (law_in (k := 3) hi hL (by decide) rfl) dL_law_941 ?_
  refine law_call (As := [.int (xs (nI i + (1 : Int32)).toNatClampNeg), .int (xs (nI i + (2 : Int32)).toNatClampNeg), .int (xs (nI i + (3 : Int32)).toNatClampNeg)]) (rest := [.int r]) c7 (cwV 3 hts gL_X7_guard rfl rfl rfl (by decide +kernel) ⟨Nat.le_of_ble_eq_true rfl, Nat.le_of_ble_eq_true rfl⟩) ⟨hx, hb, hml, hown, hts⟩ hE hW.sw hS hA (wMd_adr g d _ _) 7 rfl (wMd_at g d _) rfl rfl hl.1 rfl (Nat.le_of_ble_eq_true rfl) dL_law_942 (Nat.le_refl _) (Nat.le_refl _) (fun H locs hW hS => ?_)
  exact lv_icmp_eq (tgt := 1533) hx hb dL_law_945 (by decide) (fun hc => kk V2 M2 H locs hI2 hW.sw hS) (fun hc => absurd rfl hc)
set_option maxHeartbeats 4000000 in
set_option maxRecDepth 100000 in
theorem s_weak : StepAt 950 := by
  intro p e s m below meth c l b L xs hL C0 g d V M i hi H locs ls hE hI hW hS hl kk
  obtain ⟨hx, hb, hr, hml, hown, hts, hX, hbl, hlocks, hgv⟩ := C0
  have hA : ∀ q : Nat, s.heap.size ≤ q → (fun q : Nat => s.heap.size ≤ q) q := fun _ h => h
  have hbA : ¬ (fun q : Nat => s.heap.size ≤ q) b := Nat.not_le.mpr hbl
  obtain ⟨r, V2, M2, hI2, c6, c7⟩ := b_weak l g d V M hI
  refine lv_aload_n hx hb dL_law_950 rfl (lv_at hl 1 rfl) ?_
  refine law_call (As := []) (rest := []) c6 (cwV 0 hts gL_X6_weak rfl rfl rfl (by decide +kernel) ⟨Nat.le_of_ble_eq_true rfl, Nat.le_of_ble_eq_true rfl⟩) ⟨hx, hb, hml, hown, hts⟩ hE hW hS hA (wVd_adr g d _ _) 6 rfl (wVd_at g d _) rfl rfl hl.1 rfl (Nat.le_of_ble_eq_true rfl) dL_law_951 (Nat.le_refl _) (Nat.le_refl _) (fun H locs hW hS => ?_)
  refine lv_aload_n hx hb dL_law_954 rfl (lv_at hl 2 rfl) ?_
  refine law_call (As := []) (rest := [.int r]) c7 (cwV 0 hts gL_X7_weak rfl rfl rfl (by decide +kernel) ⟨Nat.le_of_ble_eq_true rfl, Nat.le_of_ble_eq_true rfl⟩) ⟨hx, hb, hml, hown, hts⟩ hE hW.sw hS hA (wMd_adr g d _ _) 7 rfl (wMd_at g d _) rfl rfl hl.1 rfl (Nat.le_of_ble_eq_true rfl) dL_law_955 (Nat.le_refl _) (Nat.le_refl _) (fun H locs hW hS => ?_)
  exact lv_icmp_eq (tgt := 1533) hx hb dL_law_958 (by decide) (fun hc => kk V2 M2 H locs hI2 hW.sw hS) (fun hc => absurd rfl hc)
set_option maxHeartbeats 4000000 in
set_option maxRecDepth 100000 in
theorem s_leaks : StepAt 963 := by
  intro p e s m below meth c l b L xs hL C0 g d V M i hi H locs ls hE hI hW hS hl kk
  obtain ⟨hx, hb, hr, hml, hown, hts, hX, hbl, hlocks, hgv⟩ := C0
  have hA : ∀ q : Nat, s.heap.size ≤ q → (fun q : Nat => s.heap.size ≤ q) q := fun _ h => h
  have hbA : ¬ (fun q : Nat => s.heap.size ≤ q) b := Nat.not_le.mpr hbl
  obtain ⟨r, V2, M2, hI2, c6, c7⟩ := b_leaks l g d V M hI (xs (nI i + (1 : Int32)).toNatClampNeg) (xs (nI i + (2 : Int32)).toNatClampNeg) (xs (nI i + (3 : Int32)).toNatClampNeg) (xs (nI i + (4 : Int32)).toNatClampNeg) (xs (nI i + (5 : Int32)).toNatClampNeg)
  refine lv_aload_n hx hb dL_law_963 rfl (lv_at hl 1 rfl) ?_
  refine lv_aload_n hx hb dL_law_964 rfl (lv_at hl 0 rfl) ?_
  refine lv_iload_n hx hb dL_law_965 rfl (lv_at hl 3 rfl) ?_
  refine lv_iconst (v := (1 : Int32)) hx hb dL_law_966 (by decide) ?_
  refine lv_iadd hx hb dL_law_967 ?_
  refine va_sld hx hb hX hbl hbA hS (law_in (k := 1) hi hL (by decide) rfl) dL_law_968 ?_
  refine lv_aload_n hx hb dL_law_969 rfl (lv_at hl 0 rfl) ?_
  refine lv_iload_n hx hb dL_law_970 rfl (lv_at hl 3 rfl) ?_
  refine lv_iconst (v := (2 : Int32)) hx hb dL_law_971 (by decide) ?_
  refine lv_iadd hx hb dL_law_972 ?_
  refine va_sld hx hb hX hbl hbA hS (law_in (k := 2) hi hL (by decide) rfl) dL_law_973 ?_
  refine lv_aload_n hx hb dL_law_974 rfl (lv_at hl 0 rfl) ?_
  refine lv_iload_n hx hb dL_law_975 rfl (lv_at hl 3 rfl) ?_
  refine lv_iconst (v := (3 : Int32)) hx hb dL_law_976 (by decide) ?_
  refine lv_iadd hx hb dL_law_977 ?_
  refine va_sld hx hb hX hbl hbA hS (law_in (k := 3) hi hL (by decide) rfl) dL_law_978 ?_
  refine lv_aload_n hx hb dL_law_979 rfl (lv_at hl 0 rfl) ?_
  refine lv_iload_n hx hb dL_law_980 rfl (lv_at hl 3 rfl) ?_
  refine lv_iconst (v := (4 : Int32)) hx hb dL_law_981 (by decide) ?_
  refine lv_iadd hx hb dL_law_982 ?_
  refine va_sld hx hb hX hbl hbA hS (law_in (k := 4) hi hL (by decide) rfl) dL_law_983 ?_
  refine lv_aload_n hx hb dL_law_984 rfl (lv_at hl 0 rfl) ?_
  refine lv_iload_n hx hb dL_law_985 rfl (lv_at hl 3 rfl) ?_
  refine lv_iconst (v := (5 : Int32)) hx hb dL_law_986 (by decide) ?_
  refine lv_iadd hx hb dL_law_987 ?_
  refine va_sld hx hb hX hbl hbA hS (law_in (k := 5) hi hL (by decide) rfl) dL_law_988 ?_
  refine law_call (As := [.int (xs (nI i + (1 : Int32)).toNatClampNeg), .int (xs (nI i + (2 : Int32)).toNatClampNeg), .int (xs (nI i + (3 : Int32)).toNatClampNeg), .int (xs (nI i + (4 : Int32)).toNatClampNeg), .int (xs (nI i + (5 : Int32)).toNatClampNeg)]) (rest := []) c6 (cwV 5 hts gL_X6_leaks rfl rfl rfl (by decide +kernel) ⟨Nat.le_of_ble_eq_true rfl, Nat.le_of_ble_eq_true rfl⟩) ⟨hx, hb, hml, hown, hts⟩ hE hW hS hA (wVd_adr g d _ _) 6 rfl (wVd_at g d _) rfl rfl hl.1 rfl (Nat.le_of_ble_eq_true rfl) dL_law_989 (Nat.le_refl _) (Nat.le_refl _) (fun H locs hW hS => ?_)
  refine lv_aload_n hx hb dL_law_992 rfl (lv_at hl 2 rfl) ?_
  refine lv_aload_n hx hb dL_law_993 rfl (lv_at hl 0 rfl) ?_
  refine lv_iload_n hx hb dL_law_994 rfl (lv_at hl 3 rfl) ?_
  refine lv_iconst (v := (1 : Int32)) hx hb dL_law_995 (by decide) ?_
  refine lv_iadd hx hb dL_law_996 ?_
  refine va_sld hx hb hX hbl hbA hS (law_in (k := 1) hi hL (by decide) rfl) dL_law_997 ?_
  refine lv_aload_n hx hb dL_law_998 rfl (lv_at hl 0 rfl) ?_
  refine lv_iload_n hx hb dL_law_999 rfl (lv_at hl 3 rfl) ?_
  refine lv_iconst (v := (2 : Int32)) hx hb dL_law_1000 (by decide) ?_
  refine lv_iadd hx hb dL_law_1001 ?_
  refine va_sld hx hb hX hbl hbA hS (law_in (k := 2) hi hL (by decide) rfl) dL_law_1002 ?_
  refine lv_aload_n hx hb dL_law_1003 rfl (lv_at hl 0 rfl) ?_
  refine lv_iload_n hx hb dL_law_1004 rfl (lv_at hl 3 rfl) ?_
  refine lv_iconst (v := (3 : Int32)) hx hb dL_law_1005 (by decide) ?_
  refine lv_iadd hx hb dL_law_1006 ?_
  refine va_sld hx hb hX hbl hbA hS (law_in (k := 3) hi hL (by decide) rfl) dL_law_1007 ?_
  refine lv_aload_n hx hb dL_law_1008 rfl (lv_at hl 0 rfl) ?_
  refine lv_iload_n hx hb dL_law_1009 rfl (lv_at hl 3 rfl) ?_
  refine lv_iconst (v := (4 : Int32)) hx hb dL_law_1010 (by decide) ?_
  refine lv_iadd hx hb dL_law_1011 ?_
  refine va_sld hx hb hX hbl hbA hS (law_in (k := 4) hi hL (by decide) rfl) dL_law_1012 ?_
  refine lv_aload_n hx hb dL_law_1013 rfl (lv_at hl 0 rfl) ?_
  refine lv_iload_n hx hb dL_law_1014 rfl (lv_at hl 3 rfl) ?_
  refine lv_iconst (v := (5 : Int32)) hx hb dL_law_1015 (by decide) ?_
  refine lv_iadd hx hb dL_law_1016 ?_
  refine va_sld hx hb hX hbl hbA hS (law_in (k := 5) hi hL (by decide) rfl) dL_law_1017 ?_
  refine law_call (As := [.int (xs (nI i + (1 : Int32)).toNatClampNeg), .int (xs (nI i + (2 : Int32)).toNatClampNeg), .int (xs (nI i + (3 : Int32)).toNatClampNeg), .int (xs (nI i + (4 : Int32)).toNatClampNeg), .int (xs (nI i + (5 : Int32)).toNatClampNeg)]) (rest := [.int r]) c7 (cwV 5 hts gL_X7_leaks rfl rfl rfl (by decide +kernel) ⟨Nat.le_of_ble_eq_true rfl, Nat.le_of_ble_eq_true rfl⟩) ⟨hx, hb, hml, hown, hts⟩ hE hW.sw hS hA (wMd_adr g d _ _) 7 rfl (wMd_at g d _) rfl rfl hl.1 rfl (Nat.le_of_ble_eq_true rfl) dL_law_1018 (Nat.le_refl _) (Nat.le_refl _) (fun H locs hW hS => ?_)
  exact lv_icmp_eq (tgt := 1533) hx hb dL_law_1021 (by decide) (fun hc => kk V2 M2 H locs hI2 hW.sw hS) (fun hc => absurd rfl hc)
set_option maxHeartbeats 4000000 in
set_option maxRecDepth 100000 in
theorem s_sides : StepAt 1026 := by
  intro p e s m below meth c l b L xs hL C0 g d V M i hi H locs ls hE hI hW hS hl kk
  obtain ⟨hx, hb, hr, hml, hown, hts, hX, hbl, hlocks, hgv⟩ := C0
  have hA : ∀ q : Nat, s.heap.size ≤ q → (fun q : Nat => s.heap.size ≤ q) q := fun _ h => h
  have hbA : ¬ (fun q : Nat => s.heap.size ≤ q) b := Nat.not_le.mpr hbl
  obtain ⟨r, V2, M2, hI2, c6, c7⟩ := b_sides l g d V M hI (xs (nI i + (1 : Int32)).toNatClampNeg) (xs (nI i + (2 : Int32)).toNatClampNeg)
  refine lv_aload_n hx hb dL_law_1026 rfl (lv_at hl 1 rfl) ?_
  refine lv_aload_n hx hb dL_law_1027 rfl (lv_at hl 0 rfl) ?_
  refine lv_iload_n hx hb dL_law_1028 rfl (lv_at hl 3 rfl) ?_
  refine lv_iconst (v := (1 : Int32)) hx hb dL_law_1029 (by decide) ?_
  refine lv_iadd hx hb dL_law_1030 ?_
  refine va_sld hx hb hX hbl hbA hS (law_in (k := 1) hi hL (by decide) rfl) dL_law_1031 ?_
  refine lv_aload_n hx hb dL_law_1032 rfl (lv_at hl 0 rfl) ?_
  refine lv_iload_n hx hb dL_law_1033 rfl (lv_at hl 3 rfl) ?_
  refine lv_iconst (v := (2 : Int32)) hx hb dL_law_1034 (by decide) ?_
  refine lv_iadd hx hb dL_law_1035 ?_
  refine va_sld hx hb hX hbl hbA hS (law_in (k := 2) hi hL (by decide) rfl) dL_law_1036 ?_
  refine law_call (As := [.int (xs (nI i + (1 : Int32)).toNatClampNeg), .int (xs (nI i + (2 : Int32)).toNatClampNeg)]) (rest := []) c6 (cwV 2 hts gL_X6_sides rfl rfl rfl (by decide +kernel) ⟨Nat.le_of_ble_eq_true rfl, Nat.le_of_ble_eq_true rfl⟩) ⟨hx, hb, hml, hown, hts⟩ hE hW hS hA (wVd_adr g d _ _) 6 rfl (wVd_at g d _) rfl rfl hl.1 rfl (Nat.le_of_ble_eq_true rfl) dL_law_1037 (Nat.le_refl _) (Nat.le_refl _) (fun H locs hW hS => ?_)
  refine lv_aload_n hx hb dL_law_1040 rfl (lv_at hl 2 rfl) ?_
  refine lv_aload_n hx hb dL_law_1041 rfl (lv_at hl 0 rfl) ?_
  refine lv_iload_n hx hb dL_law_1042 rfl (lv_at hl 3 rfl) ?_
  refine lv_iconst (v := (1 : Int32)) hx hb dL_law_1043 (by decide) ?_
  refine lv_iadd hx hb dL_law_1044 ?_
  refine va_sld hx hb hX hbl hbA hS (law_in (k := 1) hi hL (by decide) rfl) dL_law_1045 ?_
  refine lv_aload_n hx hb dL_law_1046 rfl (lv_at hl 0 rfl) ?_
  refine lv_iload_n hx hb dL_law_1047 rfl (lv_at hl 3 rfl) ?_
  refine lv_iconst (v := (2 : Int32)) hx hb dL_law_1048 (by decide) ?_
  refine lv_iadd hx hb dL_law_1049 ?_
  refine va_sld hx hb hX hbl hbA hS (law_in (k := 2) hi hL (by decide) rfl) dL_law_1050 ?_
  refine law_call (As := [.int (xs (nI i + (1 : Int32)).toNatClampNeg), .int (xs (nI i + (2 : Int32)).toNatClampNeg)]) (rest := [.int r]) c7 (cwV 2 hts gL_X7_sides rfl rfl rfl (by decide +kernel) ⟨Nat.le_of_ble_eq_true rfl, Nat.le_of_ble_eq_true rfl⟩) ⟨hx, hb, hml, hown, hts⟩ hE hW.sw hS hA (wMd_adr g d _ _) 7 rfl (wMd_at g d _) rfl rfl hl.1 rfl (Nat.le_of_ble_eq_true rfl) dL_law_1051 (Nat.le_refl _) (Nat.le_refl _) (fun H locs hW hS => ?_)
  exact lv_icmp_eq (tgt := 1533) hx hb dL_law_1054 (by decide) (fun hc => kk V2 M2 H locs hI2 hW.sw hS) (fun hc => absurd rfl hc)
set_option maxHeartbeats 4000000 in
set_option maxRecDepth 100000 in
theorem s_cat : StepAt 1059 := by
  intro p e s m below meth c l b L xs hL C0 g d V M i hi H locs ls hE hI hW hS hl kk
  obtain ⟨hx, hb, hr, hml, hown, hts, hX, hbl, hlocks, hgv⟩ := C0
  have hA : ∀ q : Nat, s.heap.size ≤ q → (fun q : Nat => s.heap.size ≤ q) q := fun _ h => h
  have hbA : ¬ (fun q : Nat => s.heap.size ≤ q) b := Nat.not_le.mpr hbl
  obtain ⟨r, V2, M2, hI2, c6, c7⟩ := b_cat l g d V M hI
  refine lv_aload_n hx hb dL_law_1059 rfl (lv_at hl 1 rfl) ?_
  refine law_call (As := []) (rest := []) c6 (cwV 0 hts gL_X6_cat rfl rfl rfl (by decide +kernel) ⟨Nat.le_of_ble_eq_true rfl, Nat.le_of_ble_eq_true rfl⟩) ⟨hx, hb, hml, hown, hts⟩ hE hW hS hA (wVd_adr g d _ _) 6 rfl (wVd_at g d _) rfl rfl hl.1 rfl (Nat.le_of_ble_eq_true rfl) dL_law_1060 (Nat.le_refl _) (Nat.le_refl _) (fun H locs hW hS => ?_)
  refine lv_aload_n hx hb dL_law_1063 rfl (lv_at hl 2 rfl) ?_
  refine law_call (As := []) (rest := [.int r]) c7 (cwV 0 hts gL_X7_cat rfl rfl rfl (by decide +kernel) ⟨Nat.le_of_ble_eq_true rfl, Nat.le_of_ble_eq_true rfl⟩) ⟨hx, hb, hml, hown, hts⟩ hE hW.sw hS hA (wMd_adr g d _ _) 7 rfl (wMd_at g d _) rfl rfl hl.1 rfl (Nat.le_of_ble_eq_true rfl) dL_law_1064 (Nat.le_refl _) (Nat.le_refl _) (fun H locs hW hS => ?_)
  exact lv_icmp_eq (tgt := 1533) hx hb dL_law_1067 (by decide) (fun hc => kk V2 M2 H locs hI2 hW.sw hS) (fun hc => absurd rfl hc)
set_option maxHeartbeats 4000000 in
set_option maxRecDepth 100000 in
theorem s_seed : StepAt 1072 := by
  intro p e s m below meth c l b L xs hL C0 g d V M i hi H locs ls hE hI hW hS hl kk
  obtain ⟨hx, hb, hr, hml, hown, hts, hX, hbl, hlocks, hgv⟩ := C0
  have hA : ∀ q : Nat, s.heap.size ≤ q → (fun q : Nat => s.heap.size ≤ q) q := fun _ h => h
  have hbA : ¬ (fun q : Nat => s.heap.size ≤ q) b := Nat.not_le.mpr hbl
  obtain ⟨r, V2, M2, hI2, c6, c7⟩ := b_seed l g d V M hI (xs (nI i + (1 : Int32)).toNatClampNeg)
  refine lv_aload_n hx hb dL_law_1072 rfl (lv_at hl 1 rfl) ?_
  refine lv_aload_n hx hb dL_law_1073 rfl (lv_at hl 0 rfl) ?_
  refine lv_iload_n hx hb dL_law_1074 rfl (lv_at hl 3 rfl) ?_
  refine lv_iconst (v := (1 : Int32)) hx hb dL_law_1075 (by decide) ?_
  refine lv_iadd hx hb dL_law_1076 ?_
  refine va_sld hx hb hX hbl hbA hS (law_in (k := 1) hi hL (by decide) rfl) dL_law_1077 ?_
  refine law_call (As := [.int (xs (nI i + (1 : Int32)).toNatClampNeg)]) (rest := []) c6 (cwV 1 hts gL_X6_seed rfl rfl rfl (by decide +kernel) ⟨Nat.le_of_ble_eq_true rfl, Nat.le_of_ble_eq_true rfl⟩) ⟨hx, hb, hml, hown, hts⟩ hE hW hS hA (wVd_adr g d _ _) 6 rfl (wVd_at g d _) rfl rfl hl.1 rfl (Nat.le_of_ble_eq_true rfl) dL_law_1078 (Nat.le_refl _) (Nat.le_refl _) (fun H locs hW hS => ?_)
  refine lv_aload_n hx hb dL_law_1081 rfl (lv_at hl 2 rfl) ?_
  refine lv_aload_n hx hb dL_law_1082 rfl (lv_at hl 0 rfl) ?_
  refine lv_iload_n hx hb dL_law_1083 rfl (lv_at hl 3 rfl) ?_
  refine lv_iconst (v := (1 : Int32)) hx hb dL_law_1084 (by decide) ?_
  refine lv_iadd hx hb dL_law_1085 ?_
  refine va_sld hx hb hX hbl hbA hS (law_in (k := 1) hi hL (by decide) rfl) dL_law_1086 ?_
  refine law_call (As := [.int (xs (nI i + (1 : Int32)).toNatClampNeg)]) (rest := [.int r]) c7 (cwV 1 hts gL_X7_seed rfl rfl rfl (by decide +kernel) ⟨Nat.le_of_ble_eq_true rfl, Nat.le_of_ble_eq_true rfl⟩) ⟨hx, hb, hml, hown, hts⟩ hE hW.sw hS hA (wMd_adr g d _ _) 7 rfl (wMd_at g d _) rfl rfl hl.1 rfl (Nat.le_of_ble_eq_true rfl) dL_law_1087 (Nat.le_refl _) (Nat.le_refl _) (fun H locs hW hS => ?_)
  exact lv_icmp_eq (tgt := 1533) hx hb dL_law_1090 (by decide) (fun hc => kk V2 M2 H locs hI2 hW.sw hS) (fun hc => absurd rfl hc)
set_option maxHeartbeats 4000000 in
set_option maxRecDepth 100000 in
theorem s_feed : StepAt 1095 := by
  intro p e s m below meth c l b L xs hL C0 g d V M i hi H locs ls hE hI hW hS hl kk
  obtain ⟨hx, hb, hr, hml, hown, hts, hX, hbl, hlocks, hgv⟩ := C0
  have hA : ∀ q : Nat, s.heap.size ≤ q → (fun q : Nat => s.heap.size ≤ q) q := fun _ h => h
  have hbA : ¬ (fun q : Nat => s.heap.size ≤ q) b := Nat.not_le.mpr hbl
  obtain ⟨r, V2, M2, hI2, c6, c7⟩ := b_feed l g d V M hI (xs (nI i + (1 : Int32)).toNatClampNeg) (xs (nI i + (2 : Int32)).toNatClampNeg)
  refine lv_aload_n hx hb dL_law_1095 rfl (lv_at hl 1 rfl) ?_
  refine lv_aload_n hx hb dL_law_1096 rfl (lv_at hl 0 rfl) ?_
  refine lv_iload_n hx hb dL_law_1097 rfl (lv_at hl 3 rfl) ?_
  refine lv_iconst (v := (1 : Int32)) hx hb dL_law_1098 (by decide) ?_
  refine lv_iadd hx hb dL_law_1099 ?_
  refine va_sld hx hb hX hbl hbA hS (law_in (k := 1) hi hL (by decide) rfl) dL_law_1100 ?_
  refine lv_aload_n hx hb dL_law_1101 rfl (lv_at hl 0 rfl) ?_
  refine lv_iload_n hx hb dL_law_1102 rfl (lv_at hl 3 rfl) ?_
  refine lv_iconst (v := (2 : Int32)) hx hb dL_law_1103 (by decide) ?_
  refine lv_iadd hx hb dL_law_1104 ?_
  refine va_sld hx hb hX hbl hbA hS (law_in (k := 2) hi hL (by decide) rfl) dL_law_1105 ?_
  refine law_call (As := [.int (xs (nI i + (1 : Int32)).toNatClampNeg), .int (xs (nI i + (2 : Int32)).toNatClampNeg)]) (rest := []) c6 (cwV 2 hts gL_X6_feed rfl rfl rfl (by decide +kernel) ⟨Nat.le_of_ble_eq_true rfl, Nat.le_of_ble_eq_true rfl⟩) ⟨hx, hb, hml, hown, hts⟩ hE hW hS hA (wVd_adr g d _ _) 6 rfl (wVd_at g d _) rfl rfl hl.1 rfl (Nat.le_of_ble_eq_true rfl) dL_law_1106 (Nat.le_refl _) (Nat.le_refl _) (fun H locs hW hS => ?_)
  refine lv_aload_n hx hb dL_law_1109 rfl (lv_at hl 2 rfl) ?_
  refine lv_aload_n hx hb dL_law_1110 rfl (lv_at hl 0 rfl) ?_
  refine lv_iload_n hx hb dL_law_1111 rfl (lv_at hl 3 rfl) ?_
  refine lv_iconst (v := (1 : Int32)) hx hb dL_law_1112 (by decide) ?_
  refine lv_iadd hx hb dL_law_1113 ?_
  refine va_sld hx hb hX hbl hbA hS (law_in (k := 1) hi hL (by decide) rfl) dL_law_1114 ?_
  refine lv_aload_n hx hb dL_law_1115 rfl (lv_at hl 0 rfl) ?_
  refine lv_iload_n hx hb dL_law_1116 rfl (lv_at hl 3 rfl) ?_
  refine lv_iconst (v := (2 : Int32)) hx hb dL_law_1117 (by decide) ?_
  refine lv_iadd hx hb dL_law_1118 ?_
  refine va_sld hx hb hX hbl hbA hS (law_in (k := 2) hi hL (by decide) rfl) dL_law_1119 ?_
  refine law_call (As := [.int (xs (nI i + (1 : Int32)).toNatClampNeg), .int (xs (nI i + (2 : Int32)).toNatClampNeg)]) (rest := [.int r]) c7 (cwV 2 hts gL_X7_feed rfl rfl rfl (by decide +kernel) ⟨Nat.le_of_ble_eq_true rfl, Nat.le_of_ble_eq_true rfl⟩) ⟨hx, hb, hml, hown, hts⟩ hE hW.sw hS hA (wMd_adr g d _ _) 7 rfl (wMd_at g d _) rfl rfl hl.1 rfl (Nat.le_of_ble_eq_true rfl) dL_law_1120 (Nat.le_refl _) (Nat.le_refl _) (fun H locs hW hS => ?_)
  exact lv_icmp_eq (tgt := 1533) hx hb dL_law_1123 (by decide) (fun hc => kk V2 M2 H locs hI2 hW.sw hS) (fun hc => absurd rfl hc)
