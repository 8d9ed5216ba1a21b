def fX1_spill (R : Rf) (a1 : Int32) : Option (Rf) := o1 (fX1_get R a1 (2 : Int32)) (fun x101 => o1 (fX1_get R a1 (1 : Int32)) (fun x102 => o1 (fX1_raise R a1 (-(if (0 : Int32) < (x101 - x102) then (x101 - x102) else (0 : Int32)))) (fun R103 => some (R103.1, R103.2.1, R103.2.2.1, R103.2.2.2.1, R103.2.2.2.2.1, R103.2.2.2.2.2.1, R103.2.2.2.2.2.2.1, (R103.2.2.2.2.2.2.2.1 + (if (0 : Int32) < (x101 - x102) then (x101 - x102) else (0 : Int32))), R103.2.2.2.2.2.2.2.2))))
theorem q_X1_spill : yX1_spill.cls = RX1 ∧ yX1_spill.cls ≠ "java/lang/invoke/MethodHandle" ∧ yX1_spill.cls ≠ "java/lang/invoke/VarHandle" ∧ (parseMethodDescriptor yX1_spill.desc).map (fun d => d.parameters.length) = some 1 := by decide +kernel
theorem i_X1_spill_X1 : ∀ w ∈ u_ws RX1 TX1 9, w ∈ wsX1_spill := fun _ h => List.mem_cons_of_mem _ (List.mem_append_right _ (h))
set_option maxHeartbeats 4000000 in
set_option maxRecDepth 100000 in
theorem c_X1_spill (l : Launch) (g : gG) (h0 h1 h2 h3 : Nat) (R : Rf) (a1 : Int32) {R' : Rf} (hf : fX1_spill R a1 = some R') : Ct l yX1_spill wsX1_spill (rmm 2 46) g (wRf g h0 h1 h2 h3 R) (wRf g h0 h1 h2 h3 (R')) [.ref h0, .int a1] none := by
  refine Ct.mk (by decide) rfl (Nat.le_of_ble_eq_true rfl) ?_
  intro p e s m args below meth c A ls hx hb hr hml hts hown hlocks hA hE hP hD hS hl hAe
  obtain ⟨Qx, hQ⟩ : ∃ Qx : State → Prop, Qx = MQ below (QcG g (wRf g h0 h1 h2 h3 R) (wRf g h0 h1 h2 h3 (R')) none s.heap.size) args s 0 0 A := ⟨_, rfl⟩
  rw [← hQ]
  have hown : s.vm.findClass RX1 = some m.cls := hown
  have hl : lv_has ls 3 [(0, .ref h0), (1, .int a1)] := hl
  have w1 := hts (.methodLink RX1 53 Lib.Math.max.name) (List.mem_of_getElem? (i := 1) rfl)
  have w2 := hts (.static Lib.Math.max.name) (List.mem_of_getElem? (i := 2) rfl)
  have w3 := hts (.initialized "java/lang/Math") (List.mem_of_getElem? (i := 3) rfl)
  have w4 := hts (.code Lib.Math.max.name Lib.Math.max.code 2 (some .int)) (List.mem_of_getElem? (i := 4) rfl)
  have w5 := hts (.fieldLink RX1 35 "RainVault$Roof" "ranOff" "I") (List.mem_of_getElem? (i := 5) rfl)
  unfold fX1_spill at hf
  refine lv_iconst (v := (0 : Int32)) hx hb dX1_spill_0 (by decide) ?_
  refine lv_aload_n hx hb dX1_spill_1 rfl (lv_at hl 0 rfl) ?_
  refine lv_iload_n hx hb dX1_spill_2 rfl (lv_at hl 1 rfl) ?_
  refine lv_iconst (v := (2 : Int32)) hx hb dX1_spill_3 (by decide) ?_
  obtain ⟨x101, hg, hf⟩ := o1_s hf
  refine Ct.callV0 (ws' := wRf g h0 h1 h2 h3 R) (As := [.int a1, .int (2 : Int32)]) (rest := [.int (0 : Int32)]) (st1 := [.int x101, .int (0 : Int32)]) (c_X1_get l g h0 h1 h2 h3 R a1 (2 : Int32) hg) (cwV 2 hts gX1_spill_X1_get rfl rfl rfl q_X1_get ⟨Nat.le_of_ble_eq_true rfl, Nat.le_of_ble_eq_true rfl⟩) ⟨hx, hb, hml, hown, hts⟩ hE hP hD hS hA 1 0 rfl rfl rfl rfl hl.1 rfl rfl (Nat.le_of_ble_eq_true rfl) dX1_spill_4 (fun H locs hP hD hS => ?_)
  refine lv_aload_n hx hb dX1_spill_7 rfl (lv_at hl 0 rfl) ?_
  refine lv_iload_n hx hb dX1_spill_8 rfl (lv_at hl 1 rfl) ?_
  refine lv_iconst (v := (1 : Int32)) hx hb dX1_spill_9 (by decide) ?_
  obtain ⟨x102, hg, hf⟩ := o1_s hf
  refine Ct.callV0 (ws' := wRf g h0 h1 h2 h3 R) (As := [.int a1, .int (1 : Int32)]) (rest := [.int x101, .int (0 : Int32)]) (st1 := [.int x102, .int x101, .int (0 : Int32)]) (c_X1_get l g h0 h1 h2 h3 R a1 (1 : Int32) hg) (cwV 2 hts gX1_spill_X1_get rfl rfl rfl q_X1_get ⟨Nat.le_of_ble_eq_true rfl, Nat.le_of_ble_eq_true rfl⟩) ⟨hx, hb, hml, hown, hts⟩ hE hP hD hS hA 1 0 rfl rfl rfl rfl hl.1 rfl rfl (Nat.le_of_ble_eq_true rfl) dX1_spill_10 (fun H locs hP hD hS => ?_)
  refine lv_isub hx hb dX1_spill_13 ?_
  refine va_mmax hx hb (hml.trans hl.1.symm) hown w1 w2 w3 w4 (Nat.le_of_ble_eq_true rfl) (Nat.le_of_ble_eq_true rfl) (Nat.zero_le _) (Nat.zero_le _) dX1_spill_14 ?_
  refine lv_istore_n (lv' := [(2, .int (if (0 : Int32) < (x101 - x102) then (x101 - x102) else (0 : Int32))), (0, .ref h0), (1, .int a1)]) hx hb dX1_spill_17 rfl hl (by decide) rfl (fun ls hl => ?_)
  refine lv_aload_n hx hb dX1_spill_18 rfl (lv_at hl 1 rfl) ?_
  refine lv_iload_n hx hb dX1_spill_19 rfl (lv_at hl 2 rfl) ?_
  refine lv_iload_n hx hb dX1_spill_20 rfl (lv_at hl 0 rfl) ?_
  refine lv_ineg hx hb dX1_spill_21 ?_
  obtain ⟨R103, hg, hf⟩ := o1_s hf
  refine Ct.callV0 (ws' := wRf g h0 h1 h2 h3 R103) (As := [.int a1, .int (-(if (0 : Int32) < (x101 - x102) then (x101 - x102) else (0 : Int32)))]) (rest := []) (st1 := []) (c_X1_raise l g h0 h1 h2 h3 R a1 (-(if (0 : Int32) < (x101 - x102) then (x101 - x102) else (0 : Int32))) hg) (cwV 2 hts gX1_spill_X1_raise rfl rfl rfl q_X1_raise ⟨Nat.le_of_ble_eq_true rfl, Nat.le_of_ble_eq_true rfl⟩) ⟨hx, hb, hml, hown, hts⟩ hE hP hD hS hA 1 0 rfl rfl rfl rfl hl.1 rfl rfl (Nat.le_of_ble_eq_true rfl) dX1_spill_22 (fun H locs hP hD hS => ?_)
  refine lv_aload_n hx hb dX1_spill_25 rfl (lv_at hl 1 rfl) ?_
  refine lv_dup hx hb dX1_spill_26 rfl ?_
  refine va_get (D := g.1) (ci := 1) (v := .int R103.2.2.2.2.2.2.2.1) (C := RX1) (T := TX1) (N := 9) hx hb hts i_X1_spill_X1 hown hE.1 hP 0 rfl rfl 7 (by decide) w5 (fun _ h9 => h9) rfl dX1_spill_27 ?_
  refine lv_iload_n hx hb dX1_spill_30 rfl (lv_at hl 0 rfl) ?_
  refine lv_iadd hx hb dX1_spill_31 ?_
  refine va_put (D := g.1) (ci := 1) (v := .int (R103.2.2.2.2.2.2.2.1 + (if (0 : Int32) < (x101 - x102) then (x101 - x102) else (0 : Int32)))) (ty := .int) (C := RX1) (T := TX1) (N := 9) hx hb hts i_X1_spill_X1 tyX1 tyX1_ok nmX1 hown hE.1 hP hD hS 0 rfl rfl 7 (by decide) w5 (fun _ h9 => h9) rfl (by decide +kernel) rfl rfl (Nat.le_of_ble_eq_true rfl) dX1_spill_32 (fun H locs hP hD hS => ?_)
  have hP : va_P g.1 vwK (wRf g h0 h1 h2 h3 (R103.1, R103.2.1, R103.2.2.1, R103.2.2.2.1, R103.2.2.2.2.1, R103.2.2.2.2.2.1, R103.2.2.2.2.2.2.1, (R103.2.2.2.2.2.2.2.1 + (if (0 : Int32) < (x101 - x102) then (x101 - x102) else (0 : Int32))), R103.2.2.2.2.2.2.2.2)) H := hP
  have hD : va_D A (wRf g h0 h1 h2 h3 (R103.1, R103.2.1, R103.2.2.1, R103.2.2.2.1, R103.2.2.2.2.1, R103.2.2.2.2.2.1, R103.2.2.2.2.2.2.1, (R103.2.2.2.2.2.2.2.1 + (if (0 : Int32) < (x101 - x102) then (x101 - x102) else (0 : Int32))), R103.2.2.2.2.2.2.2.2)) := hD
  obtain rfl := Option.some.inj hf
  rw [hQ]; exact Ct.vret hx hb hr hlocks hAe hP hD hS dX1_spill_35
def fX1_passHour_L2 (x1 : Int32) (x2 : Int32) (kx : Rf → Option (Rf)) : Nat → Rf → Int32 → Option (Rf)
  | 0, _, _ => none
  | k + 1, R, x3 => if R.2.2.2.1 ≤ x3 then (kx R) else (o1 (fX1_caught R x3 x1 x2) (fun x103 => o1 (fX1_raise R x3 x103) (fun R104 => fX1_passHour_L2 x1 x2 kx k R104 (x3 + (1 : Int32)))))
def fX1_passHour_L30 (kx : Rf → Option (Rf)) : Nat → Rf → Int32 → Option (Rf)
  | 0, _, _ => none
  | k + 1, R, x3 => if R.2.2.2.1 ≤ x3 then (kx R) else (o1 (fX1_runningOver R x3) (fun x108 => o1 (fX1_runOver R x3 x108) (fun R109 => fX1_passHour_L30 kx k R109 (x3 + (1 : Int32)))))
def fX1_passHour_L56 (kx : Rf → Option (Rf)) : Nat → Rf → Int32 → Option (Rf)
  | 0, _, _ => none
  | k + 1, R, x3 => if R.2.2.2.1 ≤ x3 then (kx R) else (o1 (fX1_spill R x3) (fun R112 => fX1_passHour_L56 kx k R112 (x3 + (1 : Int32))))
def fX1_passHour_L77 (kx : Rf → Option (Rf)) : Nat → Rf → Int32 → Option (Rf)
  | 0, _, _ => none
  | k + 1, R, x3 => if R.2.2.2.1 ≤ x3 then (kx R) else (o1 (fX1_leaked R x3) (fun x116 => o1 (fX1_raise R x3 (-x116)) (fun R117 => fX1_passHour_L77 kx k R117 (x3 + (1 : Int32)))))
def fX1_passHour (R : Rf) (a1 : Int32) (a2 : Int32) : Option (Rf) := fX1_passHour_L2 a1 a2 (fun R105 => fX1_passHour_L30 (fun R110 => fX1_passHour_L56 (fun R113 => fX1_passHour_L77 (fun R118 => some (R118.1, R118.2.1, R118.2.2.1, R118.2.2.2.1, R118.2.2.2.2.1, R118.2.2.2.2.2.1, (R118.2.2.2.2.2.2.1 + (1 : Int32)), R118.2.2.2.2.2.2.2.1, R118.2.2.2.2.2.2.2.2)) fu R113 (0 : Int32)) fu R110 (0 : Int32)) fu R105 (0 : Int32)) fu R (0 : Int32)
theorem q_X1_passHour : yX1_passHour.cls = RX1 ∧ yX1_passHour.cls ≠ "java/lang/invoke/MethodHandle" ∧ yX1_passHour.cls ≠ "java/lang/invoke/VarHandle" ∧ (parseMethodDescriptor yX1_passHour.desc).map (fun d => d.parameters.length) = some 2 := by decide +kernel
theorem i_X1_passHour_X1 : ∀ w ∈ u_ws RX1 TX1 9, w ∈ wsX1_passHour := fun _ h => List.mem_cons_of_mem _ (List.mem_append_right _ (h))
set_option maxHeartbeats 4000000 in
set_option maxRecDepth 100000 in
theorem c_X1_passHour (l : Launch) (g : gG) (h0 h1 h2 h3 : Nat) (R : Rf) (a1 : Int32) (a2 : Int32) {R' : Rf} (hf : fX1_passHour R a1 a2 = some R') : Ct l yX1_passHour wsX1_passHour (rmm 3 70) g (wRf g h0 h1 h2 h3 R) (wRf g h0 h1 h2 h3 (R')) [.ref h0, .int a1, .int a2] none := by
  refine Ct.mk (by decide) rfl (Nat.le_of_ble_eq_true rfl) ?_
  intro p e s m args below meth c A ls hx hb hr hml hts hown hlocks hA hE hP hD hS hl hAe
  obtain ⟨Qx, hQ⟩ : ∃ Qx : State → Prop, Qx = MQ below (QcG g (wRf g h0 h1 h2 h3 R) (wRf g h0 h1 h2 h3 (R')) none s.heap.size) args s 0 0 A := ⟨_, rfl⟩
  rw [← hQ]
  have hown : s.vm.findClass RX1 = some m.cls := hown
  have hl : lv_has ls 4 [(0, .ref h0), (1, .int a1), (2, .int a2)] := hl
  have w1 := hts (.fieldLink RX1 21 "RainVault$Roof" "cisterns" "I") (List.mem_of_getElem? (i := 1) rfl)
  have w2 := hts (.fieldLink RX1 32 "RainVault$Roof" "hour" "I") (List.mem_of_getElem? (i := 2) rfl)
  have L2 : ∀ (x1 : Int32) (x2 : Int32) (kx : Rf → Option (Rf)) (k : Nat) (R : Rf) (x3 : Int32) (H : Heap) (locs : List Loc) (ls : Array Slot), fX1_passHour_L2 x1 x2 kx k R x3 = some R' → va_P g.1 vwK (wRf g h0 h1 h2 h3 R) H → va_D A (wRf g h0 h1 h2 h3 R) → va_S A s.heap H locs → lv_has ls 4 [(0, .ref h0), (1, .int x1), (2, .int x2), (3, .int x3)] → (∀ (R : Rf) (H : Heap) (locs : List Loc) (ls : Array Slot), kx R = some R' → va_P g.1 vwK (wRf g h0 h1 h2 h3 R) H → va_D A (wRf g h0 h1 h2 h3 R) → va_S A s.heap H locs → lv_has ls 4 [(0, .ref h0)] → W p l e (rmm 3 70) s m args below meth c H locs 0 0 Qx (F0 m 28 ls [])) → W p l e (rmm 3 70) s m args below meth c H locs 0 0 Qx (F0 m 2 ls []) := by
    intro x1 x2 kx k
    induction k with
    | zero => intro R x3 H locs ls hf; exact nomatch (show (none : Option (Rf)) = some _ from hf)
    | succ k ih =>
      intro R x3 H locs ls hf hP hD hS hl hk
      rw [fX1_passHour_L2] at hf
      refine lv_iload_n hx hb dX1_passHour_2 rfl (lv_at hl 3 rfl) ?_
      refine lv_aload_n hx hb dX1_passHour_3 rfl (lv_at hl 0 rfl) ?_
      refine va_get (D := g.1) (ci := 1) (v := .int R.2.2.2.1) (C := RX1) (T := TX1) (N := 9) hx hb hts i_X1_passHour_X1 hown hE.1 hP 0 rfl rfl 3 (by decide) w1 (fun _ h9 => h9) rfl dX1_passHour_4 ?_
      refine lv_icmp_ge (tgt := 28) hx hb dX1_passHour_7 (by decide) (fun hc => ?_) (fun hc => ?_)
      · have hf := if_t hf hc
        exact hk _ _ _ _  hf hP hD hS (lv_sub hl [0] rfl)
      · have hf := if_f hf hc
        refine lv_aload_n hx hb dX1_passHour_10 rfl (lv_at hl 0 rfl) ?_
        refine lv_iload_n hx hb dX1_passHour_11 rfl (lv_at hl 3 rfl) ?_
        refine lv_aload_n hx hb dX1_passHour_12 rfl (lv_at hl 0 rfl) ?_
        refine lv_iload_n hx hb dX1_passHour_13 rfl (lv_at hl 3 rfl) ?_
        refine lv_iload_n hx hb dX1_passHour_14 rfl (lv_at hl 1 rfl) ?_
        refine lv_iload_n hx hb dX1_passHour_15 rfl (lv_at hl 2 rfl) ?_
        obtain ⟨x103, hg, hf⟩ := o1_s hf
        refine Ct.callV0 (ws' := wRf g h0 h1 h2 h3 R) (As := [.int x3, .int x1, .int x2]) (rest := [.int x3, .ref h0]) (st1 := [.int x103, .int x3, .ref h0]) (c_X1_caught l g h0 h1 h2 h3 R x3 x1 x2 hg) (cwV 3 hts gX1_passHour_X1_caught rfl rfl rfl q_X1_caught ⟨Nat.le_of_ble_eq_true rfl, Nat.le_of_ble_eq_true rfl⟩) ⟨hx, hb, hml, hown, hts⟩ hE hP hD hS hA 1 0 rfl rfl rfl rfl hl.1 rfl rfl (Nat.le_of_ble_eq_true rfl) dX1_passHour_16 (fun H locs hP hD hS => ?_)
        obtain ⟨R104, hg, hf⟩ := o1_s hf
        refine Ct.callV0 (ws' := wRf g h0 h1 h2 h3 R104) (As := [.int x3, .int x103]) (rest := []) (st1 := []) (c_X1_raise l g h0 h1 h2 h3 R x3 x103 hg) (cwV 2 hts gX1_passHour_X1_raise rfl rfl rfl q_X1_raise ⟨Nat.le_of_ble_eq_true rfl, Nat.le_of_ble_eq_true rfl⟩) ⟨hx, hb, hml, hown, hts⟩ hE hP hD hS hA 1 0 rfl rfl rfl rfl hl.1 rfl rfl (Nat.le_of_ble_eq_true rfl) dX1_passHour_19 (fun H locs hP hD hS => ?_)
        refine lv_iinc (v := (x3 + (1 : Int32))) (lv' := [(3, .int (x3 + (1 : Int32))), (0, .ref h0), (1, .int x1), (2, .int x2)]) hx hb dX1_passHour_22 hl (k := 3) rfl rfl (by decide) rfl (fun ls hl => ?_)
        refine lv_goto (tgt := 2) hx hb dX1_passHour_25 (by decide) ?_
        exact ih _ _ _ _ _  hf hP hD hS (lv_sub hl [1, 2, 3, 0] rfl) hk
  have L30 : ∀ (kx : Rf → Option (Rf)) (k : Nat) (R : Rf) (x3 : Int32) (H : Heap) (locs : List Loc) (ls : Array Slot), fX1_passHour_L30 kx k R x3 = some R' → va_P g.1 vwK (wRf g h0 h1 h2 h3 R) H → va_D A (wRf g h0 h1 h2 h3 R) → va_S A s.heap H locs → lv_has ls 4 [(0, .ref h0), (3, .int x3)] → (∀ (R : Rf) (H : Heap) (locs : List Loc) (ls : Array Slot), kx R = some R' → va_P g.1 vwK (wRf g h0 h1 h2 h3 R) H → va_D A (wRf g h0 h1 h2 h3 R) → va_S A s.heap H locs → lv_has ls 4 [(0, .ref h0)] → W p l e (rmm 3 70) s m args below meth c H locs 0 0 Qx (F0 m 54 ls [])) → W p l e (rmm 3 70) s m args below meth c H locs 0 0 Qx (F0 m 30 ls []) := by
    intro kx k
    induction k with
    | zero => intro R x3 H locs ls hf; exact nomatch (show (none : Option (Rf)) = some _ from hf)
    | succ k ih =>
      intro R x3 H locs ls hf hP hD hS hl hk
      rw [fX1_passHour_L30] at hf
      refine lv_iload_n hx hb dX1_passHour_30 rfl (lv_at hl 1 rfl) ?_
      refine lv_aload_n hx hb dX1_passHour_31 rfl (lv_at hl 0 rfl) ?_
      refine va_get (D := g.1) (ci := 1) (v := .int R.2.2.2.1) (C := RX1) (T := TX1) (N := 9) hx hb hts i_X1_passHour_X1 hown hE.1 hP 0 rfl rfl 3 (by decide) w1 (fun _ h9 => h9) rfl dX1_passHour_32 ?_
      refine lv_icmp_ge (tgt := 54) hx hb dX1_passHour_35 (by decide) (fun hc => ?_) (fun hc => ?_)
      · have hf := if_t hf hc
        exact hk _ _ _ _  hf hP hD hS (lv_sub hl [0] rfl)
      · have hf := if_f hf hc
        refine lv_aload_n hx hb dX1_passHour_38 rfl (lv_at hl 0 rfl) ?_
        refine lv_iload_n hx hb dX1_passHour_39 rfl (lv_at hl 1 rfl) ?_
        refine lv_aload_n hx hb dX1_passHour_40 rfl (lv_at hl 0 rfl) ?_
        refine lv_iload_n hx hb dX1_passHour_41 rfl (lv_at hl 1 rfl) ?_
        obtain ⟨x108, hg, hf⟩ := o1_s hf
        refine Ct.callV0 (ws' := wRf g h0 h1 h2 h3 R) (As := [.int x3]) (rest := [.int x3, .ref h0]) (st1 := [.int x108, .int x3, .ref h0]) (c_X1_runningOver l g h0 h1 h2 h3 R x3 hg) (cwV 1 hts gX1_passHour_X1_runningOver rfl rfl rfl q_X1_runningOver ⟨Nat.le_of_ble_eq_true rfl, Nat.le_of_ble_eq_true rfl⟩) ⟨hx, hb, hml, hown, hts⟩ hE hP hD hS hA 1 0 rfl rfl rfl rfl hl.1 rfl rfl (Nat.le_of_ble_eq_true rfl) dX1_passHour_42 (fun H locs hP hD hS => ?_)
        obtain ⟨R109, hg, hf⟩ := o1_s hf
        refine Ct.callV0 (ws' := wRf g h0 h1 h2 h3 R109) (As := [.int x3, .int x108]) (rest := []) (st1 := []) (c_X1_runOver l g h0 h1 h2 h3 R x3 x108 hg) (cwV 2 hts gX1_passHour_X1_runOver rfl rfl rfl q_X1_runOver ⟨Nat.le_of_ble_eq_true rfl, Nat.le_of_ble_eq_true rfl⟩) ⟨hx, hb, hml, hown, hts⟩ hE hP hD hS hA 1 0 rfl rfl rfl rfl hl.1 rfl rfl (Nat.le_of_ble_eq_true rfl) dX1_passHour_45 (fun H locs hP hD hS => ?_)
        refine lv_iinc (v := (x3 + (1 : Int32))) (lv' := [(3, .int (x3 + (1 : Int32))), (0, .ref h0)]) hx hb dX1_passHour_48 hl (k := 1) rfl rfl (by decide) rfl (fun ls hl => ?_)
        refine lv_goto (tgt := 30) hx hb dX1_passHour_51 (by decide) ?_
        exact ih _ _ _ _ _  hf hP hD hS (lv_sub hl [1, 0] rfl) hk
  have L56 : ∀ (kx : Rf → Option (Rf)) (k : Nat) (R : Rf) (x3 : Int32) (H : Heap) (locs : List Loc) (ls : Array Slot), fX1_passHour_L56 kx k R x3 = some R' → va_P g.1 vwK (wRf g h0 h1 h2 h3 R) H → va_D A (wRf g h0 h1 h2 h3 R) → va_S A s.heap H locs → lv_has ls 4 [(0, .ref h0), (3, .int x3)] → (∀ (R : Rf) (H : Heap) (locs : List Loc) (ls : Array Slot), kx R = some R' → va_P g.1 vwK (wRf g h0 h1 h2 h3 R) H → va_D A (wRf g h0 h1 h2 h3 R) → va_S A s.heap H locs → lv_has ls 4 [(0, .ref h0)] → W p l e (rmm 3 70) s m args below meth c H locs 0 0 Qx (F0 m 75 ls [])) → W p l e (rmm 3 70) s m args below meth c H locs 0 0 Qx (F0 m 56 ls []) := by
    intro kx k
    induction k with
    | zero => intro R x3 H locs ls hf; exact nomatch (show (none : Option (Rf)) = some _ from hf)
    | succ k ih =>
      intro R x3 H locs ls hf hP hD hS hl hk
      rw [fX1_passHour_L56] at hf
      refine lv_iload_n hx hb dX1_passHour_56 rfl (lv_at hl 1 rfl) ?_
      refine lv_aload_n hx hb dX1_passHour_57 rfl (lv_at hl 0 rfl) ?_
      refine va_get (D := g.1) (ci := 1) (v := .int R.2.2.2.1) (C := RX1) (T := TX1) (N := 9) hx hb hts i_X1_passHour_X1 hown hE.1 hP 0 rfl rfl 3 (by decide) w1 (fun _ h9 => h9) rfl dX1_passHour_58 ?_
      refine lv_icmp_ge (tgt := 75) hx hb dX1_passHour_61 (by decide) (fun hc => ?_) (fun hc => ?_)
      · have hf := if_t hf hc
        exact hk _ _ _ _  hf hP hD hS (lv_sub hl [0] rfl)
      · have hf := if_f hf hc
        refine lv_aload_n hx hb dX1_passHour_64 rfl (lv_at hl 0 rfl) ?_
        refine lv_iload_n hx hb dX1_passHour_65 rfl (lv_at hl 1 rfl) ?_
        obtain ⟨R112, hg, hf⟩ := o1_s hf
        refine Ct.callV0 (ws' := wRf g h0 h1 h2 h3 R112) (As := [.int x3]) (rest := []) (st1 := []) (c_X1_spill l g h0 h1 h2 h3 R x3 hg) (cwV 1 hts gX1_passHour_X1_spill rfl rfl rfl q_X1_spill ⟨Nat.le_of_ble_eq_true rfl, Nat.le_of_ble_eq_true rfl⟩) ⟨hx, hb, hml, hown, hts⟩ hE hP hD hS hA 1 0 rfl rfl rfl rfl hl.1 rfl rfl (Nat.le_of_ble_eq_true rfl) dX1_passHour_66 (fun H locs hP hD hS => ?_)
        refine lv_iinc (v := (x3 + (1 : Int32))) (lv' := [(3, .int (x3 + (1 : Int32))), (0, .ref h0)]) hx hb dX1_passHour_69 hl (k := 1) rfl rfl (by decide) rfl (fun ls hl => ?_)
        refine lv_goto (tgt := 56) hx hb dX1_passHour_72 (by decide) ?_
        exact ih _ _ _ _ _  hf hP hD hS (lv_sub hl [1, 0] rfl) hk
  have L77 : ∀ (kx : Rf → Option (Rf)) (k : Nat) (R : Rf) (x3 : Int32) (H : Heap) (locs : List Loc) (ls : Array Slot), fX1_passHour_L77 kx k R x3 = some R' → va_P g.1 vwK (wRf g h0 h1 h2 h3 R) H → va_D A (wRf g h0 h1 h2 h3 R) → va_S A s.heap H locs → lv_has ls 4 [(0, .ref h0), (3, .int x3)] → (∀ (R : Rf) (H : Heap) (locs : List Loc) (ls : Array Slot), kx R = some R' → va_P g.1 vwK (wRf g h0 h1 h2 h3 R) H → va_D A (wRf g h0 h1 h2 h3 R) → va_S A s.heap H locs → lv_has ls 4 [(0, .ref h0)] → W p l e (rmm 3 70) s m args below meth c H locs 0 0 Qx (F0 m 102 ls [])) → W p l e (rmm 3 70) s m args below meth c H locs 0 0 Qx (F0 m 77 ls []) := by
    intro kx k
    induction k with
    | zero => intro R x3 H locs ls hf; exact nomatch (show (none : Option (Rf)) = some _ from hf)
    | succ k ih =>
      intro R x3 H locs ls hf hP hD hS hl hk
      rw [fX1_passHour_L77] at hf
      refine lv_iload_n hx hb dX1_passHour_77 rfl (lv_at hl 1 rfl) ?_
      refine lv_aload_n hx hb dX1_passHour_78 rfl (lv_at hl 0 rfl) ?_
      refine va_get (D := g.1) (ci := 1) (v := .int R.2.2.2.1) (C := RX1) (T := TX1) (N := 9) hx hb hts i_X1_passHour_X1 hown hE.1 hP 0 rfl rfl 3 (by decide) w1 (fun _ h9 => h9) rfl dX1_passHour_79 ?_
      refine lv_icmp_ge (tgt := 102) hx hb dX1_passHour_82 (by decide) (fun hc => ?_) (fun hc => ?_)
      · have hf := if_t hf hc
        exact hk _ _ _ _  hf hP hD hS (lv_sub hl [0] rfl)
      · have hf := if_f hf hc
        refine lv_aload_n hx hb dX1_passHour_85 rfl (lv_at hl 0 rfl) ?_
        refine lv_iload_n hx hb dX1_passHour_86 rfl (lv_at hl 1 rfl) ?_
        refine lv_aload_n hx hb dX1_passHour_87 rfl (lv_at hl 0 rfl) ?_
        refine lv_iload_n hx hb dX1_passHour_88 rfl (lv_at hl 1 rfl) ?_
        obtain ⟨x116, hg, hf⟩ := o1_s hf
        refine Ct.callV0 (ws' := wRf g h0 h1 h2 h3 R) (As := [.int x3]) (rest := [.int x3, .ref h0]) (st1 := [.int x116, .int x3, .ref h0]) (c_X1_leaked l g h0 h1 h2 h3 R x3 hg) (cwV 1 hts gX1_passHour_X1_leaked rfl rfl rfl q_X1_leaked ⟨Nat.le_of_ble_eq_true rfl, Nat.le_of_ble_eq_true rfl⟩) ⟨hx, hb, hml, hown, hts⟩ hE hP hD hS hA 1 0 rfl rfl rfl rfl hl.1 rfl rfl (Nat.le_of_ble_eq_true rfl) dX1_passHour_89 (fun H locs hP hD hS => ?_)
        refine lv_ineg hx hb dX1_passHour_92 ?_
        obtain ⟨R117, hg, hf⟩ := o1_s hf
        refine Ct.callV0 (ws' := wRf g h0 h1 h2 h3 R117) (As := [.int x3, .int (-x116)]) (rest := []) (st1 := []) (c_X1_raise l g h0 h1 h2 h3 R x3 (-x116) hg) (cwV 2 hts gX1_passHour_X1_raise rfl rfl rfl q_X1_raise ⟨Nat.le_of_ble_eq_true rfl, Nat.le_of_ble_eq_true rfl⟩) ⟨hx, hb, hml, hown, hts⟩ hE hP hD hS hA 1 0 rfl rfl rfl rfl hl.1 rfl rfl (Nat.le_of_ble_eq_true rfl) dX1_passHour_93 (fun H locs hP hD hS => ?_)
        refine lv_iinc (v := (x3 + (1 : Int32))) (lv' := [(3, .int (x3 + (1 : Int32))), (0, .ref h0)]) hx hb dX1_passHour_96 hl (k := 1) rfl rfl (by decide) rfl (fun ls hl => ?_)
        refine lv_goto (tgt := 77) hx hb dX1_passHour_99 (by decide) ?_
        exact ih _ _ _ _ _  hf hP hD hS (lv_sub hl [1, 0] rfl) hk
  unfold fX1_passHour at hf
  refine lv_iconst (v := (0 : Int32)) hx hb dX1_passHour_0 (by decide) ?_
  refine lv_istore_n (lv' := [(3, .int (0 : Int32)), (0, .ref h0), (1, .int a1), (2, .int a2)]) hx hb dX1_passHour_1 rfl hl (by decide) rfl (fun ls hl => ?_)
  refine L2 _ _ _ _ _ _ _ _ _  hf hP hD hS (lv_sub hl [1, 2, 3, 0] rfl) (fun R105 H locs ls hf hP hD hS hl => ?_)
  refine lv_iconst (v := (0 : Int32)) hx hb dX1_passHour_28 (by decide) ?_
  refine lv_istore_n (lv' := [(3, .int (0 : Int32)), (0, .ref h0)]) hx hb dX1_passHour_29 rfl hl (by decide) rfl (fun ls hl => ?_)
  refine L30 _ _ _ _ _ _ _  hf hP hD hS (lv_sub hl [1, 0] rfl) (fun R110 H locs ls hf hP hD hS hl => ?_)
  refine lv_iconst (v := (0 : Int32)) hx hb dX1_passHour_54 (by decide) ?_
  refine lv_istore_n (lv' := [(3, .int (0 : Int32)), (0, .ref h0)]) hx hb dX1_passHour_55 rfl hl (by decide) rfl (fun ls hl => ?_)
  refine L56 _ _ _ _ _ _ _  hf hP hD hS (lv_sub hl [1, 0] rfl) (fun R113 H locs ls hf hP hD hS hl => ?_)
  refine lv_iconst (v := (0 : Int32)) hx hb dX1_passHour_75 (by decide) ?_
  refine lv_istore_n (lv' := [(3, .int (0 : Int32)), (0, .ref h0)]) hx hb dX1_passHour_76 rfl hl (by decide) rfl (fun ls hl => ?_)
  refine L77 _ _ _ _ _ _ _  hf hP hD hS (lv_sub hl [1, 0] rfl) (fun R118 H locs ls hf hP hD hS hl => ?_)
  refine lv_aload_n hx hb dX1_passHour_102 rfl (lv_at hl 0 rfl) ?_
  refine lv_dup hx hb dX1_passHour_103 rfl ?_
  refine va_get (D := g.1) (ci := 1) (v := .int R118.2.2.2.2.2.2.1) (C := RX1) (T := TX1) (N := 9) hx hb hts i_X1_passHour_X1 hown hE.1 hP 0 rfl rfl 6 (by decide) w2 (fun _ h9 => h9) rfl dX1_passHour_104 ?_
  refine lv_iconst (v := (1 : Int32)) hx hb dX1_passHour_107 (by decide) ?_
  refine lv_iadd hx hb dX1_passHour_108 ?_
  refine va_put (D := g.1) (ci := 1) (v := .int (R118.2.2.2.2.2.2.1 + (1 : Int32))) (ty := .int) (C := RX1) (T := TX1) (N := 9) hx hb hts i_X1_passHour_X1 tyX1 tyX1_ok nmX1 hown hE.1 hP hD hS 0 rfl rfl 6 (by decide) w2 (fun _ h9 => h9) rfl (by decide +kernel) rfl rfl (Nat.le_of_ble_eq_true rfl) dX1_passHour_109 (fun H locs hP hD hS => ?_)
  have hP : va_P g.1 vwK (wRf g h0 h1 h2 h3 (R118.1, R118.2.1, R118.2.2.1, R118.2.2.2.1, R118.2.2.2.2.1, R118.2.2.2.2.2.1, (R118.2.2.2.2.2.2.1 + (1 : Int32)), R118.2.2.2.2.2.2.2.1, R118.2.2.2.2.2.2.2.2)) H := hP
  have hD : va_D A (wRf g h0 h1 h2 h3 (R118.1, R118.2.1, R118.2.2.1, R118.2.2.2.1, R118.2.2.2.2.1, R118.2.2.2.2.2.1, (R118.2.2.2.2.2.2.1 + (1 : Int32)), R118.2.2.2.2.2.2.2.1, R118.2.2.2.2.2.2.2.2)) := hD
  obtain rfl := Option.some.inj hf
  rw [hQ]; exact Ct.vret hx hb hr hlocks hAe hP hD hS dX1_passHour_112
def fX1_passHours_L6 (x1 : Int32) (x2 : Int32) (x3 : Int32) (kx : Rf → Int32 → Option (Int32 × Rf)) : Nat → Rf → Int32 → Int32 → Option (Int32 × Rf)
  | 0, _, _, _ => none
  | k + 1, R, x4, x5 => if x3 ≤ x5 then (kx R x4) else (o1 (fX1_passHour R x1 x2) (fun R103 => o1 (fX1_isOpen R103) (fun x104 => if x104 = 0 then (fX1_passHours_L6 x1 x2 x3 kx k R103 x4 (x5 + (1 : Int32))) else (fX1_passHours_L6 x1 x2 x3 kx k R103 (x4 + (1 : Int32)) (x5 + (1 : Int32))))))
def fX1_passHours (R : Rf) (a1 : Int32) (a2 : Int32) (a3 : Int32) : Option (Int32 × Rf) := fX1_passHours_L6 a1 a2 a3 (fun R105 x106 => some (x106, R105)) fu R (0 : Int32) (0 : Int32)
theorem q_X1_passHours : yX1_passHours.cls = RX1 ∧ yX1_passHours.cls ≠ "java/lang/invoke/MethodHandle" ∧ yX1_passHours.cls ≠ "java/lang/invoke/VarHandle" ∧ (parseMethodDescriptor yX1_passHours.desc).map (fun d => d.parameters.length) = some 3 := by decide +kernel
set_option maxHeartbeats 4000000 in
set_option maxRecDepth 100000 in
theorem c_X1_passHours (l : Launch) (g : gG) (h0 h1 h2 h3 : Nat) (R : Rf) (a1 : Int32) (a2 : Int32) (a3 : Int32) {r : Int32} {R' : Rf} (hf : fX1_passHours R a1 a2 a3 = some (r, R')) : Ct l yX1_passHours wsX1_passHours (rmm 5 112) g (wRf g h0 h1 h2 h3 R) (wRf g h0 h1 h2 h3 (R')) [.ref h0, .int a1, .int a2, .int a3] (some (.int r)) := by
  refine Ct.mk (by decide) rfl (Nat.le_of_ble_eq_true rfl) ?_
  intro p e s m args below meth c A ls hx hb hr hml hts hown hlocks hA hE hP hD hS hl hAe
  obtain ⟨Qx, hQ⟩ : ∃ Qx : State → Prop, Qx = MQ below (QcG g (wRf g h0 h1 h2 h3 R) (wRf g h0 h1 h2 h3 (R')) (some (.int r)) s.heap.size) args s 0 0 A := ⟨_, rfl⟩
  rw [← hQ]
  have hown : s.vm.findClass RX1 = some m.cls := hown
  have hl : lv_has ls 6 [(0, .ref h0), (1, .int a1), (2, .int a2), (3, .int a3)] := hl
  have L6 : ∀ (x1 : Int32) (x2 : Int32) (x3 : Int32) (kx : Rf → Int32 → Option (Int32 × Rf)) (k : Nat) (R : Rf) (x4 : Int32) (x5 : Int32) (H : Heap) (locs : List Loc) (ls : Array Slot), fX1_passHours_L6 x1 x2 x3 kx k R x4 x5 = some (r, R') → va_P g.1 vwK (wRf g h0 h1 h2 h3 R) H → va_D A (wRf g h0 h1 h2 h3 R) → va_S A s.heap H locs → lv_has ls 6 [(0, .ref h0), (1, .int x1), (2, .int x2), (3, .int x3), (4, .int x4), (5, .int x5)] → (∀ (R : Rf) (x4 : Int32) (H : Heap) (locs : List Loc) (ls : Array Slot), kx R x4 = some (r, R') → va_P g.1 vwK (wRf g h0 h1 h2 h3 R) H → va_D A (wRf g h0 h1 h2 h3 R) → va_S A s.heap H locs → lv_has ls 6 [(4, .int x4)] → W p l e (rmm 5 112) s m args below meth c H locs 0 0 Qx (F0 m 34 ls [])) → W p l e (rmm 5 112) s m args below meth c H locs 0 0 Qx (F0 m 6 ls []) := by
    intro x1 x2 x3 kx k
    induction k with
    | zero => intro R x4 x5 H locs ls hf; exact nomatch (show (none : Option (Int32 × Rf)) = some _ from hf)
    | succ k ih =>
      intro R x4 x5 H locs ls hf hP hD hS hl hk
      rw [fX1_passHours_L6] at hf
      refine lv_iload hx hb dX1_passHours_6 (lv_at hl 5 rfl) ?_
      refine lv_iload_n hx hb dX1_passHours_8 rfl (lv_at hl 3 rfl) ?_
      refine lv_icmp_ge (tgt := 34) hx hb dX1_passHours_9 (by decide) (fun hc => ?_) (fun hc => ?_)
      · have hf := if_t hf hc
        exact hk _ _ _ _ _  hf hP hD hS (lv_sub hl [4] rfl)
      · have hf := if_f hf hc
        refine lv_aload_n hx hb dX1_passHours_12 rfl (lv_at hl 0 rfl) ?_
        refine lv_iload_n hx hb dX1_passHours_13 rfl (lv_at hl 1 rfl) ?_
        refine lv_iload_n hx hb dX1_passHours_14 rfl (lv_at hl 2 rfl) ?_
        obtain ⟨R103, hg, hf⟩ := o1_s hf
        refine Ct.callV0 (ws' := wRf g h0 h1 h2 h3 R103) (As := [.int x1, .int x2]) (rest := []) (st1 := []) (c_X1_passHour l g h0 h1 h2 h3 R x1 x2 hg) (cwV 2 hts gX1_passHours_X1_passHour rfl rfl rfl q_X1_passHour ⟨Nat.le_of_ble_eq_true rfl, Nat.le_of_ble_eq_true rfl⟩) ⟨hx, hb, hml, hown, hts⟩ hE hP hD hS hA 1 0 rfl rfl rfl rfl hl.1 rfl rfl (Nat.le_of_ble_eq_true rfl) dX1_passHours_15 (fun H locs hP hD hS => ?_)
        refine lv_aload_n hx hb dX1_passHours_18 rfl (lv_at hl 0 rfl) ?_
        obtain ⟨x104, hg, hf⟩ := o1_s hf
        refine Ct.callV0 (ws' := wRf g h0 h1 h2 h3 R103) (As := []) (rest := []) (st1 := [.int x104]) (c_X1_isOpen l g h0 h1 h2 h3 R103 hg) (cwV 0 hts gX1_passHours_X1_isOpen rfl rfl rfl q_X1_isOpen ⟨Nat.le_of_ble_eq_true rfl, Nat.le_of_ble_eq_true rfl⟩) ⟨hx, hb, hml, hown, hts⟩ hE hP hD hS hA 1 0 rfl rfl rfl rfl hl.1 rfl rfl (Nat.le_of_ble_eq_true rfl) dX1_passHours_19 (fun H locs hP hD hS => ?_)
        refine lv_if_eq (tgt := 28) hx hb dX1_passHours_22 (by decide) (fun hc => ?_) (fun hc => ?_)
        · have hf := if_t hf hc
          refine lv_iinc (v := (x5 + (1 : Int32))) (lv' := [(5, .int (x5 + (1 : Int32))), (0, .ref h0), (1, .int x1), (2, .int x2), (3, .int x3), (4, .int x4)]) hx hb dX1_passHours_28 hl (k := 5) rfl rfl (by decide) rfl (fun ls hl => ?_)
          refine lv_goto (tgt := 6) hx hb dX1_passHours_31 (by decide) ?_
          exact ih _ _ _ _ _ _  hf hP hD hS (lv_sub hl [1, 2, 3, 4, 5, 0] rfl) hk
        · have hf := if_f hf hc
          refine lv_iinc (v := (x4 + (1 : Int32))) (lv' := [(4, .int (x4 + (1 : Int32))), (0, .ref h0), (1, .int x1), (2, .int x2), (3, .int x3), (5, .int x5)]) hx hb dX1_passHours_25 hl (k := 4) rfl rfl (by decide) rfl (fun ls hl => ?_)
          refine lv_iinc (v := (x5 + (1 : Int32))) (lv' := [(5, .int (x5 + (1 : Int32))), (4, .int (x4 + (1 : Int32))), (0, .ref h0), (1, .int x1), (2, .int x2), (3, .int x3)]) hx hb dX1_passHours_28 hl (k := 5) rfl rfl (by decide) rfl (fun ls hl => ?_)
          refine lv_goto (tgt := 6) hx hb dX1_passHours_31 (by decide) ?_
          exact ih _ _ _ _ _ _  hf hP hD hS (lv_sub hl [2, 3, 4, 5, 1, 0] rfl) hk
  unfold fX1_passHours at hf
  refine lv_iconst (v := (0 : Int32)) hx hb dX1_passHours_0 (by decide) ?_
  refine lv_istore (lv' := [(4, .int (0 : Int32)), (0, .ref h0), (1, .int a1), (2, .int a2), (3, .int a3)]) hx hb dX1_passHours_1 hl (by decide) rfl (fun ls hl => ?_)
  refine lv_iconst (v := (0 : Int32)) hx hb dX1_passHours_3 (by decide) ?_
  refine lv_istore (lv' := [(5, .int (0 : Int32)), (4, .int (0 : Int32)), (0, .ref h0), (1, .int a1), (2, .int a2), (3, .int a3)]) hx hb dX1_passHours_4 hl (by decide) rfl (fun ls hl => ?_)
  refine L6 _ _ _ _ _ _ _ _ _ _ _  hf hP hD hS (lv_sub hl [2, 3, 4, 5, 1, 0] rfl) (fun R105 x106 H locs ls hf hP hD hS hl => ?_)
  refine lv_iload hx hb dX1_passHours_34 (lv_at hl 0 rfl) ?_
  obtain ⟨rfl, rfl⟩ := some_p2 hf
  rw [hQ]; exact Ct.iret hx hb hr hlocks hAe hP hD hS dX1_passHours_36
def fX1_draw (R : Rf) : Option (Int32 × Rf) := lt1 ((R.2.2.2.2.2.2.2.2 * (1103515245 : Int32)) + (12345 : Int32)) (fun x101 => some (((x101.toUInt32 >>> ((8 : Int32).toUInt32 &&& Int32.toUInt32 31)).toInt32), (R.1, R.2.1, R.2.2.1, R.2.2.2.1, R.2.2.2.2.1, R.2.2.2.2.2.1, R.2.2.2.2.2.2.1, R.2.2.2.2.2.2.2.1, x101)))
theorem q_X1_draw : yX1_draw.cls = RX1 ∧ yX1_draw.cls ≠ "java/lang/invoke/MethodHandle" ∧ yX1_draw.cls ≠ "java/lang/invoke/VarHandle" ∧ (parseMethodDescriptor yX1_draw.desc).map (fun d => d.parameters.length) = some 0 := by decide +kernel
theorem i_X1_draw_X1 : ∀ w ∈ u_ws RX1 TX1 9, w ∈ wsX1_draw := fun _ h => List.mem_cons_of_mem _ (List.mem_append_right _ (h))
set_option maxHeartbeats 4000000 in
set_option maxRecDepth 100000 in
theorem c_X1_draw (l : Launch) (g : gG) (h0 h1 h2 h3 : Nat) (R : Rf) {r : Int32} {R' : Rf} (hf : fX1_draw R = some (r, R')) : Ct l yX1_draw wsX1_draw (rmm 0 0) g (wRf g h0 h1 h2 h3 R) (wRf g h0 h1 h2 h3 (R')) [.ref h0] (some (.int r)) := by
  refine Ct.mk (by decide) rfl (Nat.le_of_ble_eq_true rfl) ?_
  intro p e s m args below meth c A ls hx hb hr hml hts hown hlocks hA hE hP hD hS hl hAe
  obtain ⟨Qx, hQ⟩ : ∃ Qx : State → Prop, Qx = MQ below (QcG g (wRf g h0 h1 h2 h3 R) (wRf g h0 h1 h2 h3 (R')) (some (.int r)) s.heap.size) args s 0 0 A := ⟨_, rfl⟩
  rw [← hQ]
  have hown : s.vm.findClass RX1 = some m.cls := hown
  have hl : lv_has ls 1 [(0, .ref h0)] := hl
  have w1 := hts (.fieldLink RX1 38 "RainVault$Roof" "z" "I") (List.mem_of_getElem? (i := 1) rfl)
  have w2 := hts (.constant RX1 125 (1103515245)) (List.mem_of_getElem? (i := 2) rfl)
  unfold fX1_draw at hf
  refine lv_aload_n hx hb dX1_draw_0 rfl (lv_at hl 0 rfl) ?_
  refine lv_aload_n hx hb dX1_draw_1 rfl (lv_at hl 0 rfl) ?_
  refine va_get (D := g.1) (ci := 1) (v := .int R.2.2.2.2.2.2.2.2) (C := RX1) (T := TX1) (N := 9) hx hb hts i_X1_draw_X1 hown hE.1 hP 0 rfl rfl 8 (by decide) w1 (fun _ h9 => h9) rfl dX1_draw_2 ?_
  refine lv_ldc hx hb hown w2 dX1_draw_5 ?_
  refine lv_imul hx hb dX1_draw_7 ?_
  refine lv_sipush (v := (12345 : Int32)) hx hb dX1_draw_8 (by decide) ?_
  refine lv_iadd hx hb dX1_draw_11 ?_
  obtain ⟨x101, ex, hf⟩ := lt1_s hf
  refine st_name ex ?_
  refine va_put (D := g.1) (ci := 1) (v := .int x101) (ty := .int) (C := RX1) (T := TX1) (N := 9) hx hb hts i_X1_draw_X1 tyX1 tyX1_ok nmX1 hown hE.1 hP hD hS 0 rfl rfl 8 (by decide) w1 (fun _ h9 => h9) rfl (by decide +kernel) rfl rfl (Nat.le_of_ble_eq_true rfl) dX1_draw_12 (fun H locs hP hD hS => ?_)
  have hP : va_P g.1 vwK (wRf g h0 h1 h2 h3 (R.1, R.2.1, R.2.2.1, R.2.2.2.1, R.2.2.2.2.1, R.2.2.2.2.2.1, R.2.2.2.2.2.2.1, R.2.2.2.2.2.2.2.1, x101)) H := hP
  have hD : va_D A (wRf g h0 h1 h2 h3 (R.1, R.2.1, R.2.2.1, R.2.2.2.1, R.2.2.2.2.1, R.2.2.2.2.2.1, R.2.2.2.2.2.2.1, R.2.2.2.2.2.2.2.1, x101)) := hD
  refine lv_aload_n hx hb dX1_draw_15 rfl (lv_at hl 0 rfl) ?_
  refine va_get (D := g.1) (ci := 1) (v := .int x101) (C := RX1) (T := TX1) (N := 9) hx hb hts i_X1_draw_X1 hown hE.1 hP 0 rfl rfl 8 (by decide) w1 (fun _ h9 => h9) rfl dX1_draw_16 ?_
  refine lv_bipush (v := (8 : Int32)) hx hb dX1_draw_19 (by decide) ?_
  refine lv_iushr (v := (x101.toUInt32 >>> ((8 : Int32).toUInt32 &&& Int32.toUInt32 31)).toInt32) hx hb dX1_draw_21 rfl ?_
  obtain ⟨rfl, rfl⟩ := some_p2 hf
  rw [hQ]; exact Ct.iret hx hb hr hlocks hAe hP hD hS dX1_draw_22
def fX6_sideOf (a1 : Int32) : Option (Int32) := if a1 ≤ 0 then (some (0 : Int32)) else (some (a1 - (1 : Int32)))
theorem q_X6_sideOf : yX6_sideOf.cls = RX6 ∧ yX6_sideOf.cls ≠ "java/lang/invoke/MethodHandle" ∧ yX6_sideOf.cls ≠ "java/lang/invoke/VarHandle" ∧ (parseMethodDescriptor yX6_sideOf.desc).map (fun d => d.parameters.length) = some 1 := by decide +kernel
set_option maxHeartbeats 4000000 in
set_option maxRecDepth 100000 in
theorem c_X6_sideOf (l : Launch) (g : gG) (a1 : Int32) {r : Int32} (hf : fX6_sideOf a1 = some r) : Ct l yX6_sideOf wsX6_sideOf (rmm 0 0) g (wNil g  ) (wNil g  ) [.int a1] (some (.int r)) := by
  refine Ct.mk (by decide) rfl (Nat.le_of_ble_eq_true rfl) ?_
  intro p e s m args below meth c A ls hx hb hr hml hts hown hlocks hA hE hP hD hS hl hAe
  obtain ⟨Qx, hQ⟩ : ∃ Qx : State → Prop, Qx = MQ below (QcG g (wNil g  ) (wNil g  ) (some (.int r)) s.heap.size) args s 0 0 A := ⟨_, rfl⟩
  rw [← hQ]
  have hown : s.vm.findClass RX6 = some m.cls := hown
  have hl : lv_has ls 1 [(0, .int a1)] := hl
  unfold fX6_sideOf at hf
  refine lv_iload_n hx hb dX6_sideOf_0 rfl (lv_at hl 0 rfl) ?_
  refine lv_if_le (tgt := 10) hx hb dX6_sideOf_1 (by decide) (fun hc => ?_) (fun hc => ?_)
  · have hf := if_t hf hc
    refine lv_iconst (v := (0 : Int32)) hx hb dX6_sideOf_10 (by decide) ?_
    obtain rfl := Option.some.inj hf
    rw [hQ]; exact Ct.iret hx hb hr hlocks hAe hP hD hS dX6_sideOf_11
  · have hf := if_f hf hc
    refine lv_iload_n hx hb dX6_sideOf_4 rfl (lv_at hl 0 rfl) ?_
    refine lv_iconst (v := (1 : Int32)) hx hb dX6_sideOf_5 (by decide) ?_
    refine lv_isub hx hb dX6_sideOf_6 ?_
    refine lv_goto (tgt := 11) hx hb dX6_sideOf_7 (by decide) ?_
    obtain rfl := Option.some.inj hf
    rw [hQ]; exact Ct.iret hx hb hr hlocks hAe hP hD hS dX6_sideOf_11
def fX1_passDrawnHour (R : Rf) : Option (Rf) := o2 (fX1_draw R) (fun x101 R102 => if (x101 - x101 / (5 : Int32) * (5 : Int32)) = 0 then (o1 (fX6_sideOf (x101 - x101 / (5 : Int32) * (5 : Int32))) (fun x107 => o1 (fX1_passHour R102 x107 (0 : Int32)) (fun R108 => some R108))) else (o2 (fX1_draw R102) (fun x103 R104 => o1 (fX6_sideOf (x101 - x101 / (5 : Int32) * (5 : Int32))) (fun x105 => o1 (fX1_passHour R104 x105 (x103 - x103 / (10 : Int32) * (10 : Int32))) (fun R106 => some R106)))))
theorem q_X1_passDrawnHour : yX1_passDrawnHour.cls = RX1 ∧ yX1_passDrawnHour.cls ≠ "java/lang/invoke/MethodHandle" ∧ yX1_passDrawnHour.cls ≠ "java/lang/invoke/VarHandle" ∧ (parseMethodDescriptor yX1_passDrawnHour.desc).map (fun d => d.parameters.length) = some 0 := by decide +kernel
set_option maxHeartbeats 4000000 in
set_option maxRecDepth 100000 in
theorem c_X1_passDrawnHour (l : Launch) (g : gG) (h0 h1 h2 h3 : Nat) (R : Rf) {R' : Rf} (hf : fX1_passDrawnHour R = some R') : Ct l yX1_passDrawnHour wsX1_passDrawnHour (rmm 4 93) g (wRf g h0 h1 h2 h3 R) (wRf g h0 h1 h2 h3 (R')) [.ref h0] none := by
  refine Ct.mk (by decide) rfl (Nat.le_of_ble_eq_true rfl) ?_
  intro p e s m args below meth c A ls hx hb hr hml hts hown hlocks hA hE hP hD hS hl hAe
  obtain ⟨Qx, hQ⟩ : ∃ Qx : State → Prop, Qx = MQ below (QcG g (wRf g h0 h1 h2 h3 R) (wRf g h0 h1 h2 h3 (R')) none s.heap.size) args s 0 0 A := ⟨_, rfl⟩
  rw [← hQ]
  have hown : s.vm.findClass RX1 = some m.cls := hown
  have hl : lv_has ls 3 [(0, .ref h0)] := hl
  have w1 := hts (.initialized RX6) (List.mem_of_getElem? (i := 9) rfl)
  have w2 := hts (.static yX6_sideOf) (List.mem_of_getElem? (i := 8) rfl)
  unfold fX1_passDrawnHour at hf
  refine lv_aload_n hx hb dX1_passDrawnHour_0 rfl (lv_at hl 0 rfl) ?_
  obtain ⟨x101, R102, hg, hf⟩ := o2_s hf
  refine Ct.callV0 (ws' := wRf g h0 h1 h2 h3 R102) (As := []) (rest := []) (st1 := [.int x101]) (c_X1_draw l g h0 h1 h2 h3 R hg) (cwV 0 hts gX1_passDrawnHour_X1_draw rfl rfl rfl q_X1_draw ⟨Nat.le_of_ble_eq_true rfl, Nat.le_of_ble_eq_true rfl⟩) ⟨hx, hb, hml, hown, hts⟩ hE hP hD hS hA 1 0 rfl rfl rfl rfl hl.1 rfl rfl (Nat.le_of_ble_eq_true rfl) dX1_passDrawnHour_1 (fun H locs hP hD hS => ?_)
  refine lv_iconst (v := (5 : Int32)) hx hb dX1_passDrawnHour_4 (by decide) ?_
  refine lv_irem hx hb dX1_passDrawnHour_5 (by decide) ?_
  refine lv_istore_n (lv' := [(1, .int (x101 - x101 / (5 : Int32) * (5 : Int32))), (0, .ref h0)]) hx hb dX1_passDrawnHour_6 rfl hl (by decide) rfl (fun ls hl => ?_)
  refine lv_iload_n hx hb dX1_passDrawnHour_7 rfl (lv_at hl 0 rfl) ?_
  refine lv_if_ne (tgt := 15) hx hb dX1_passDrawnHour_8 (by decide) (fun hc => ?_) (fun hc => ?_)
  · have hf := if_f hf hc
    refine lv_aload_n hx hb dX1_passDrawnHour_15 rfl (lv_at hl 1 rfl) ?_
    obtain ⟨x103, R104, hg, hf⟩ := o2_s hf
    refine Ct.callV0 (ws' := wRf g h0 h1 h2 h3 R104) (As := []) (rest := []) (st1 := [.int x103]) (c_X1_draw l g h0 h1 h2 h3 R102 hg) (cwV 0 hts gX1_passDrawnHour_X1_draw rfl rfl rfl q_X1_draw ⟨Nat.le_of_ble_eq_true rfl, Nat.le_of_ble_eq_true rfl⟩) ⟨hx, hb, hml, hown, hts⟩ hE hP hD hS hA 1 0 rfl rfl rfl rfl hl.1 rfl rfl (Nat.le_of_ble_eq_true rfl) dX1_passDrawnHour_16 (fun H locs hP hD hS => ?_)
    refine lv_bipush (v := (10 : Int32)) hx hb dX1_passDrawnHour_19 (by decide) ?_
    refine lv_irem hx hb dX1_passDrawnHour_21 (by decide) ?_
    refine lv_istore_n (lv' := [(2, .int (x103 - x103 / (10 : Int32) * (10 : Int32))), (1, .int (x101 - x101 / (5 : Int32) * (5 : Int32))), (0, .ref h0)]) hx hb dX1_passDrawnHour_22 rfl hl (by decide) rfl (fun ls hl => ?_)
    refine lv_aload_n hx hb dX1_passDrawnHour_23 rfl (lv_at hl 2 rfl) ?_
    refine lv_iload_n hx hb dX1_passDrawnHour_24 rfl (lv_at hl 1 rfl) ?_
    obtain ⟨x105, hg, hf⟩ := o1_s hf
    refine Ct.callSN (ws' := wRf g h0 h1 h2 h3 R104) (As := [.int (x101 - x101 / (5 : Int32) * (5 : Int32))]) (rest := [.ref h0]) (st1 := [.int x105, .ref h0]) (c_X6_sideOf l g (x101 - x101 / (5 : Int32) * (5 : Int32)) hg) (⟨va_cnB 1 hts gX1_passDrawnHour_X6_sideOf_n122 rfl rfl rfl (hE.2.1 _ (List.mem_of_getElem? (i := 29) rfl)) w1 q_X6_sideOf.2 ⟨Nat.le_of_ble_eq_true rfl, Nat.le_of_ble_eq_true rfl⟩, w2, trivial⟩) ⟨hx, hb, hml, hown, hts⟩ hE hP hD hS hA [] rfl rfl rfl rfl rfl hl.1 rfl rfl (Nat.le_of_ble_eq_true rfl) dX1_passDrawnHour_25 (fun H locs hP hD hS => ?_)
    refine lv_iload_n hx hb dX1_passDrawnHour_28 rfl (lv_at hl 0 rfl) ?_
    obtain ⟨R106, hg, hf⟩ := o1_s hf
    refine Ct.callV0 (ws' := wRf g h0 h1 h2 h3 R106) (As := [.int x105, .int (x103 - x103 / (10 : Int32) * (10 : Int32))]) (rest := []) (st1 := []) (c_X1_passHour l g h0 h1 h2 h3 R104 x105 (x103 - x103 / (10 : Int32) * (10 : Int32)) hg) (cwV 2 hts gX1_passDrawnHour_X1_passHour rfl rfl rfl q_X1_passHour ⟨Nat.le_of_ble_eq_true rfl, Nat.le_of_ble_eq_true rfl⟩) ⟨hx, hb, hml, hown, hts⟩ hE hP hD hS hA 1 0 rfl rfl rfl rfl hl.1 rfl rfl (Nat.le_of_ble_eq_true rfl) dX1_passDrawnHour_29 (fun H locs hP hD hS => ?_)
    obtain rfl := Option.some.inj hf
    rw [hQ]; exact Ct.vret hx hb hr hlocks hAe hP hD hS dX1_passDrawnHour_32
  · have hf := if_t hf hc
    refine lv_iconst (v := (0 : Int32)) hx hb dX1_passDrawnHour_11 (by decide) ?_
    refine lv_goto (tgt := 22) hx hb dX1_passDrawnHour_12 (by decide) ?_
    refine lv_istore_n (lv' := [(2, .int (0 : Int32)), (1, .int (x101 - x101 / (5 : Int32) * (5 : Int32))), (0, .ref h0)]) hx hb dX1_passDrawnHour_22 rfl hl (by decide) rfl (fun ls hl => ?_)
    refine lv_aload_n hx hb dX1_passDrawnHour_23 rfl (lv_at hl 2 rfl) ?_
    refine lv_iload_n hx hb dX1_passDrawnHour_24 rfl (lv_at hl 1 rfl) ?_
    obtain ⟨x107, hg, hf⟩ := o1_s hf
    refine Ct.callSN (ws' := wRf g h0 h1 h2 h3 R102) (As := [.int (x101 - x101 / (5 : Int32) * (5 : Int32))]) (rest := [.ref h0]) (st1 := [.int x107, .ref h0]) (c_X6_sideOf l g (x101 - x101 / (5 : Int32) * (5 : Int32)) hg) (⟨va_cnB 1 hts gX1_passDrawnHour_X6_sideOf_n122 rfl rfl rfl (hE.2.1 _ (List.mem_of_getElem? (i := 29) rfl)) w1 q_X6_sideOf.2 ⟨Nat.le_of_ble_eq_true rfl, Nat.le_of_ble_eq_true rfl⟩, w2, trivial⟩) ⟨hx, hb, hml, hown, hts⟩ hE hP hD hS hA [] rfl rfl rfl rfl rfl hl.1 rfl rfl (Nat.le_of_ble_eq_true rfl) dX1_passDrawnHour_25 (fun H locs hP hD hS => ?_)
    refine lv_iload_n hx hb dX1_passDrawnHour_28 rfl (lv_at hl 0 rfl) ?_
    obtain ⟨R108, hg, hf⟩ := o1_s hf
    refine Ct.callV0 (ws' := wRf g h0 h1 h2 h3 R108) (As := [.int x107, .int (0 : Int32)]) (rest := []) (st1 := []) (c_X1_passHour l g h0 h1 h2 h3 R102 x107 (0 : Int32) hg) (cwV 2 hts gX1_passDrawnHour_X1_passHour rfl rfl rfl q_X1_passHour ⟨Nat.le_of_ble_eq_true rfl, Nat.le_of_ble_eq_true rfl⟩) ⟨hx, hb, hml, hown, hts⟩ hE hP hD hS hA 1 0 rfl rfl rfl rfl hl.1 rfl rfl (Nat.le_of_ble_eq_true rfl) dX1_passDrawnHour_29 (fun H locs hP hD hS => ?_)
    obtain rfl := Option.some.inj hf
    rw [hQ]; exact Ct.vret hx hb hr hlocks hAe hP hD hS dX1_passDrawnHour_32
def fX1_coverJust_L2 (x1 : Int32) (kx : Rf → Option (Rf)) : Nat → Rf → Int32 → Option (Rf)
  | 0, _, _ => none
  | k + 1, R, x2 => if R.2.2.2.1 ≤ x2 then (kx R) else (o1 (fX1_set R x2 (5 : Int32) ((x1 >>> (x2 &&& 31)) &&& (1 : Int32))) (fun R102 => fX1_coverJust_L2 x1 kx k R102 (x2 + (1 : Int32))))
def fX1_coverJust (R : Rf) (a1 : Int32) : Option (Rf) := fX1_coverJust_L2 a1 (fun R103 => some R103) fu R (0 : Int32)
theorem q_X1_coverJust : yX1_coverJust.cls = RX1 ∧ yX1_coverJust.cls ≠ "java/lang/invoke/MethodHandle" ∧ yX1_coverJust.cls ≠ "java/lang/invoke/VarHandle" ∧ (parseMethodDescriptor yX1_coverJust.desc).map (fun d => d.parameters.length) = some 1 := by decide +kernel
theorem i_X1_coverJust_X1 : ∀ w ∈ u_ws RX1 TX1 9, w ∈ wsX1_coverJust := fun _ h => List.mem_cons_of_mem _ (List.mem_append_right _ (h))
set_option maxHeartbeats 4000000 in
set_option maxRecDepth 100000 in
theorem c_X1_coverJust (l : Launch) (g : gG) (h0 h1 h2 h3 : Nat) (R : Rf) (a1 : Int32) {R' : Rf} (hf : fX1_coverJust R a1 = some R') : Ct l yX1_coverJust wsX1_coverJust (rmm 1 24) g (wRf g h0 h1 h2 h3 R) (wRf g h0 h1 h2 h3 (R')) [.ref h0, .int a1] none := by
  refine Ct.mk (by decide) rfl (Nat.le_of_ble_eq_true rfl) ?_
  intro p e s m args below meth c A ls hx hb hr hml hts hown hlocks hA hE hP hD hS hl hAe
  obtain ⟨Qx, hQ⟩ : ∃ Qx : State → Prop, Qx = MQ below (QcG g (wRf g h0 h1 h2 h3 R) (wRf g h0 h1 h2 h3 (R')) none s.heap.size) args s 0 0 A := ⟨_, rfl⟩
  rw [← hQ]
  have hown : s.vm.findClass RX1 = some m.cls := hown
  have hl : lv_has ls 3 [(0, .ref h0), (1, .int a1)] := hl
  have w1 := hts (.fieldLink RX1 21 "RainVault$Roof" "cisterns" "I") (List.mem_of_getElem? (i := 1) rfl)
  have L2 : ∀ (x1 : Int32) (kx : Rf → Option (Rf)) (k : Nat) (R : Rf) (x2 : Int32) (H : Heap) (locs : List Loc) (ls : Array Slot), fX1_coverJust_L2 x1 kx k R x2 = some R' → va_P g.1 vwK (wRf g h0 h1 h2 h3 R) H → va_D A (wRf g h0 h1 h2 h3 R) → va_S A s.heap H locs → lv_has ls 3 [(0, .ref h0), (1, .int x1), (2, .int x2)] → (∀ (R : Rf) (H : Heap) (locs : List Loc) (ls : Array Slot), kx R = some R' → va_P g.1 vwK (wRf g h0 h1 h2 h3 R) H → va_D A (wRf g h0 h1 h2 h3 R) → va_S A s.heap H locs → lv_has ls 3 [] → W p l e (rmm 1 24) s m args below meth c H locs 0 0 Qx (F0 m 27 ls [])) → W p l e (rmm 1 24) s m args below meth c H locs 0 0 Qx (F0 m 2 ls []) := by
    intro x1 kx k
    induction k with
    | zero => intro R x2 H locs ls hf; exact nomatch (show (none : Option (Rf)) = some _ from hf)
    | succ k ih =>
      intro R x2 H locs ls hf hP hD hS hl hk
      rw [fX1_coverJust_L2] at hf
      refine lv_iload_n hx hb dX1_coverJust_2 rfl (lv_at hl 2 rfl) ?_
      refine lv_aload_n hx hb dX1_coverJust_3 rfl (lv_at hl 0 rfl) ?_
      refine va_get (D := g.1) (ci := 1) (v := .int R.2.2.2.1) (C := RX1) (T := TX1) (N := 9) hx hb hts i_X1_coverJust_X1 hown hE.1 hP 0 rfl rfl 3 (by decide) w1 (fun _ h9 => h9) rfl dX1_coverJust_4 ?_
      refine lv_icmp_ge (tgt := 27) hx hb dX1_coverJust_7 (by decide) (fun hc => ?_) (fun hc => ?_)
      · have hf := if_t hf hc
        exact hk _ _ _ _  hf hP hD hS (lv_sub hl [] rfl)
      · have hf := if_f hf hc
        refine lv_aload_n hx hb dX1_coverJust_10 rfl (lv_at hl 0 rfl) ?_
        refine lv_iload_n hx hb dX1_coverJust_11 rfl (lv_at hl 2 rfl) ?_
        refine lv_iconst (v := (5 : Int32)) hx hb dX1_coverJust_12 (by decide) ?_
        refine lv_iload_n hx hb dX1_coverJust_13 rfl (lv_at hl 1 rfl) ?_
        refine lv_iload_n hx hb dX1_coverJust_14 rfl (lv_at hl 2 rfl) ?_
        refine lv_ishr hx hb dX1_coverJust_15 ?_
        refine lv_iconst (v := (1 : Int32)) hx hb dX1_coverJust_16 (by decide) ?_
        refine lv_iand hx hb dX1_coverJust_17 ?_
        obtain ⟨R102, hg, hf⟩ := o1_s hf
        refine Ct.callV0 (ws' := wRf g h0 h1 h2 h3 R102) (As := [.int x2, .int (5 : Int32), .int ((x1 >>> (x2 &&& 31)) &&& (1 : Int32))]) (rest := []) (st1 := []) (c_X1_set l g h0 h1 h2 h3 R x2 (5 : Int32) ((x1 >>> (x2 &&& 31)) &&& (1 : Int32)) hg) (cwV 3 hts gX1_coverJust_X1_set rfl rfl rfl q_X1_set ⟨Nat.le_of_ble_eq_true rfl, Nat.le_of_ble_eq_true rfl⟩) ⟨hx, hb, hml, hown, hts⟩ hE hP hD hS hA 1 0 rfl rfl rfl rfl hl.1 rfl rfl (Nat.le_of_ble_eq_true rfl) dX1_coverJust_18 (fun H locs hP hD hS => ?_)
        refine lv_iinc (v := (x2 + (1 : Int32))) (lv' := [(2, .int (x2 + (1 : Int32))), (0, .ref h0), (1, .int x1)]) hx hb dX1_coverJust_21 hl (k := 2) rfl rfl (by decide) rfl (fun ls hl => ?_)
        refine lv_goto (tgt := 2) hx hb dX1_coverJust_24 (by decide) ?_
        exact ih _ _ _ _ _  hf hP hD hS (lv_sub hl [1, 2, 0] rfl) hk
  unfold fX1_coverJust at hf
  refine lv_iconst (v := (0 : Int32)) hx hb dX1_coverJust_0 (by decide) ?_
  refine lv_istore_n (lv' := [(2, .int (0 : Int32)), (0, .ref h0), (1, .int a1)]) hx hb dX1_coverJust_1 rfl hl (by decide) rfl (fun ls hl => ?_)
  refine L2 _ _ _ _ _ _ _ _  hf hP hD hS (lv_sub hl [1, 2, 0] rfl) (fun R103 H locs ls hf hP hD hS hl => ?_)
  obtain rfl := Option.some.inj hf
  rw [hQ]; exact Ct.vret hx hb hr hlocks hAe hP hD hS dX1_coverJust_27
def fX1_levelsTogether_L4 (R : Rf) (kx : Int32 → Option (Int32)) : Nat → Int32 → Int32 → Option (Int32)
  | 0, _, _ => none
  | k + 1, x1, x2 => if R.2.2.2.1 ≤ x2 then (kx x1) else (o1 (fX1_get R x2 (2 : Int32)) (fun x102 => fX1_levelsTogether_L4 R kx k (x1 + x102) (x2 + (1 : Int32))))
def fX1_levelsTogether (R : Rf) : Option (Int32) := fX1_levelsTogether_L4 R (fun x103 => some x103) fu (0 : Int32) (0 : Int32)
theorem q_X1_levelsTogether : yX1_levelsTogether.cls = RX1 ∧ yX1_levelsTogether.cls ≠ "java/lang/invoke/MethodHandle" ∧ yX1_levelsTogether.cls ≠ "java/lang/invoke/VarHandle" ∧ (parseMethodDescriptor yX1_levelsTogether.desc).map (fun d => d.parameters.length) = some 0 := by decide +kernel
theorem i_X1_levelsTogether_X1 : ∀ w ∈ u_ws RX1 TX1 9, w ∈ wsX1_levelsTogether := fun _ h => List.mem_cons_of_mem _ (List.mem_append_right _ (h))
set_option maxHeartbeats 4000000 in
set_option maxRecDepth 100000 in
theorem c_X1_levelsTogether (l : Launch) (g : gG) (h0 h1 h2 h3 : Nat) (R : Rf) {r : Int32} (hf : fX1_levelsTogether R = some r) : Ct l yX1_levelsTogether wsX1_levelsTogether (rmm 1 23) g (wRf g h0 h1 h2 h3 R) (wRf g h0 h1 h2 h3 R) [.ref h0] (some (.int r)) := by
  refine Ct.mk (by decide) rfl (Nat.le_of_ble_eq_true rfl) ?_
  intro p e s m args below meth c A ls hx hb hr hml hts hown hlocks hA hE hP hD hS hl hAe
  obtain ⟨Qx, hQ⟩ : ∃ Qx : State → Prop, Qx = MQ below (QcG g (wRf g h0 h1 h2 h3 R) (wRf g h0 h1 h2 h3 R) (some (.int r)) s.heap.size) args s 0 0 A := ⟨_, rfl⟩
  rw [← hQ]
  have hown : s.vm.findClass RX1 = some m.cls := hown
  have hl : lv_has ls 3 [(0, .ref h0)] := hl
  have w1 := hts (.fieldLink RX1 21 "RainVault$Roof" "cisterns" "I") (List.mem_of_getElem? (i := 1) rfl)
  have L4 : ∀ (kx : Int32 → Option (Int32)) (k : Nat) (x1 : Int32) (x2 : Int32) (H : Heap) (locs : List Loc) (ls : Array Slot), fX1_levelsTogether_L4 R kx k x1 x2 = some r → va_P g.1 vwK (wRf g h0 h1 h2 h3 R) H → va_D A (wRf g h0 h1 h2 h3 R) → va_S A s.heap H locs → lv_has ls 3 [(0, .ref h0), (1, .int x1), (2, .int x2)] → (∀ (x1 : Int32) (H : Heap) (locs : List Loc) (ls : Array Slot), kx x1 = some r → va_P g.1 vwK (wRf g h0 h1 h2 h3 R) H → va_D A (wRf g h0 h1 h2 h3 R) → va_S A s.heap H locs → lv_has ls 3 [(1, .int x1)] → W p l e (rmm 1 23) s m args below meth c H locs 0 0 Qx (F0 m 27 ls [])) → W p l e (rmm 1 23) s m args below meth c H locs 0 0 Qx (F0 m 4 ls []) := by
    intro kx k
    induction k with
    | zero => intro x1 x2 H locs ls hf; exact nomatch (show (none : Option (Int32)) = some _ from hf)
    | succ k ih =>
      intro x1 x2 H locs ls hf hP hD hS hl hk
      rw [fX1_levelsTogether_L4] at hf
      refine lv_iload_n hx hb dX1_levelsTogether_4 rfl (lv_at hl 2 rfl) ?_
      refine lv_aload_n hx hb dX1_levelsTogether_5 rfl (lv_at hl 0 rfl) ?_
      refine va_get (D := g.1) (ci := 1) (v := .int R.2.2.2.1) (C := RX1) (T := TX1) (N := 9) hx hb hts i_X1_levelsTogether_X1 hown hE.1 hP 0 rfl rfl 3 (by decide) w1 (fun _ h9 => h9) rfl dX1_levelsTogether_6 ?_
      refine lv_icmp_ge (tgt := 27) hx hb dX1_levelsTogether_9 (by decide) (fun hc => ?_) (fun hc => ?_)
      · have hf := if_t hf hc
        exact hk _ _ _ _  hf hP hD hS (lv_sub hl [1] rfl)
      · have hf := if_f hf hc
        refine lv_iload_n hx hb dX1_levelsTogether_12 rfl (lv_at hl 1 rfl) ?_
        refine lv_aload_n hx hb dX1_levelsTogether_13 rfl (lv_at hl 0 rfl) ?_
        refine lv_iload_n hx hb dX1_levelsTogether_14 rfl (lv_at hl 2 rfl) ?_
        refine lv_iconst (v := (2 : Int32)) hx hb dX1_levelsTogether_15 (by decide) ?_
        obtain ⟨x102, hg, hf⟩ := o1_s hf
        refine Ct.callV0 (ws' := wRf g h0 h1 h2 h3 R) (As := [.int x2, .int (2 : Int32)]) (rest := [.int x1]) (st1 := [.int x102, .int x1]) (c_X1_get l g h0 h1 h2 h3 R x2 (2 : Int32) hg) (cwV 2 hts gX1_levelsTogether_X1_get rfl rfl rfl q_X1_get ⟨Nat.le_of_ble_eq_true rfl, Nat.le_of_ble_eq_true rfl⟩) ⟨hx, hb, hml, hown, hts⟩ hE hP hD hS hA 1 0 rfl rfl rfl rfl hl.1 rfl rfl (Nat.le_of_ble_eq_true rfl) dX1_levelsTogether_16 (fun H locs hP hD hS => ?_)
        refine lv_iadd hx hb dX1_levelsTogether_19 ?_
        refine lv_istore_n (lv' := [(1, .int (x1 + x102)), (0, .ref h0), (2, .int x2)]) hx hb dX1_levelsTogether_20 rfl hl (by decide) rfl (fun ls hl => ?_)
        refine lv_iinc (v := (x2 + (1 : Int32))) (lv' := [(2, .int (x2 + (1 : Int32))), (1, .int (x1 + x102)), (0, .ref h0)]) hx hb dX1_levelsTogether_21 hl (k := 2) rfl rfl (by decide) rfl (fun ls hl => ?_)
        refine lv_goto (tgt := 4) hx hb dX1_levelsTogether_24 (by decide) ?_
        exact ih _ _ _ _ _  hf hP hD hS (lv_sub hl [2, 1, 0] rfl) hk
  unfold fX1_levelsTogether at hf
  refine lv_iconst (v := (0 : Int32)) hx hb dX1_levelsTogether_0 (by decide) ?_
  refine lv_istore_n (lv' := [(1, .int (0 : Int32)), (0, .ref h0)]) hx hb dX1_levelsTogether_1 rfl hl (by decide) rfl (fun ls hl => ?_)
  refine lv_iconst (v := (0 : Int32)) hx hb dX1_levelsTogether_2 (by decide) ?_
  refine lv_istore_n (lv' := [(2, .int (0 : Int32)), (1, .int (0 : Int32)), (0, .ref h0)]) hx hb dX1_levelsTogether_3 rfl hl (by decide) rfl (fun ls hl => ?_)
  refine L4 _ _ _ _ _ _ _  hf hP hD hS (lv_sub hl [2, 1, 0] rfl) (fun x103 H locs ls hf hP hD hS hl => ?_)
  refine lv_iload_n hx hb dX1_levelsTogether_27 rfl (lv_at hl 0 rfl) ?_
  obtain rfl := Option.some.inj hf
  rw [hQ]; exact Ct.iret hx hb hr hlocks hAe hP hD hS dX1_levelsTogether_28
def fX1_setCondition (R : Rf) (a1 : Int32) (a2 : Int32) (a3 : Int32) (a4 : Int32) : Option (Rf) := o1 (fX6_put 24 R.2.1 ((a1 * (3 : Int32)) + (0 : Int32)) a2) (fun f101 => o1 (fX6_put 24 f101 ((a1 * (3 : Int32)) + (1 : Int32)) a3) (fun f102 => o1 (fX6_put 24 f102 ((a1 * (3 : Int32)) + (2 : Int32)) a4) (fun f103 => some (R.1, f103, R.2.2.1, R.2.2.2.1, R.2.2.2.2.1, R.2.2.2.2.2.1, R.2.2.2.2.2.2.1, R.2.2.2.2.2.2.2.1, R.2.2.2.2.2.2.2.2))))
theorem q_X1_setCondition : yX1_setCondition.cls = RX1 ∧ yX1_setCondition.cls ≠ "java/lang/invoke/MethodHandle" ∧ yX1_setCondition.cls ≠ "java/lang/invoke/VarHandle" ∧ (parseMethodDescriptor yX1_setCondition.desc).map (fun d => d.parameters.length) = some 4 := by decide +kernel
theorem i_X1_setCondition_X1 : ∀ w ∈ u_ws RX1 TX1 9, w ∈ wsX1_setCondition := fun _ h => List.mem_cons_of_mem _ (List.mem_append_right _ (h))
set_option maxHeartbeats 4000000 in
set_option maxRecDepth 100000 in
theorem c_X1_setCondition (l : Launch) (g : gG) (h0 h1 h2 h3 : Nat) (R : Rf) (a1 : Int32) (a2 : Int32) (a3 : Int32) (a4 : Int32) {R' : Rf} (hf : fX1_setCondition R a1 a2 a3 a4 = some R') : Ct l yX1_setCondition wsX1_setCondition (rmm 1 22) g (wRf g h0 h1 h2 h3 R) (wRf g h0 h1 h2 h3 (R')) [.ref h0, .int a1, .int a2, .int a3, .int a4] none := by
  refine Ct.mk (by decide) rfl (Nat.le_of_ble_eq_true rfl) ?_
  intro p e s m args below meth c A ls hx hb hr hml hts hown hlocks hA hE hP hD hS hl hAe
  obtain ⟨Qx, hQ⟩ : ∃ Qx : State → Prop, Qx = MQ below (QcG g (wRf g h0 h1 h2 h3 R) (wRf g h0 h1 h2 h3 (R')) none s.heap.size) args s 0 0 A := ⟨_, rfl⟩
  rw [← hQ]
  have hown : s.vm.findClass RX1 = some m.cls := hown
  have hl : lv_has ls 5 [(0, .ref h0), (1, .int a1), (2, .int a2), (3, .int a3), (4, .int a4)] := hl
  have w1 := hts (.fieldLink RX1 15 "RainVault$Roof" "conditionFacts" "[I") (List.mem_of_getElem? (i := 1) rfl)
  have w2 := hts (.initialized RX6) (List.mem_of_getElem? (i := 3) rfl)
  have w3 := hts (.static yX6_put) (List.mem_of_getElem? (i := 2) rfl)
  unfold fX1_setCondition at hf
  refine lv_aload_n hx hb dX1_setCondition_0 rfl (lv_at hl 0 rfl) ?_
  refine va_get (D := g.1) (ci := 1) (v := .ref h2) (C := RX1) (T := TX1) (N := 9) hx hb hts i_X1_setCondition_X1 hown hE.1 hP 0 rfl rfl 1 (by decide) w1 (fun _ h9 => h9) rfl dX1_setCondition_1 ?_
  refine lv_iload_n hx hb dX1_setCondition_4 rfl (lv_at hl 1 rfl) ?_
  refine lv_iconst (v := (3 : Int32)) hx hb dX1_setCondition_5 (by decide) ?_
  refine lv_imul hx hb dX1_setCondition_6 ?_
  refine lv_iconst (v := (0 : Int32)) hx hb dX1_setCondition_7 (by decide) ?_
  refine lv_iadd hx hb dX1_setCondition_8 ?_
  refine lv_iload_n hx hb dX1_setCondition_9 rfl (lv_at hl 2 rfl) ?_
  obtain ⟨f101, hg, hf⟩ := o1_s hf
  refine Ct.callSN (ws' := wRf g h0 h1 h2 h3 (R.1, f101, R.2.2.1, R.2.2.2.1, R.2.2.2.2.1, R.2.2.2.2.2.1, R.2.2.2.2.2.2.1, R.2.2.2.2.2.2.2.1, R.2.2.2.2.2.2.2.2)) (As := [.ref h2, .int ((a1 * (3 : Int32)) + (0 : Int32)), .int a2]) (rest := []) (st1 := []) (c_X6_put l g h2 24 R.2.1 ((a1 * (3 : Int32)) + (0 : Int32)) a2 hg) (⟨va_cnB 3 hts gX1_setCondition_X6_put_n126 rfl rfl rfl (hE.2.1 _ (List.mem_of_getElem? (i := 28) rfl)) w2 q_X6_put.2 ⟨Nat.le_of_ble_eq_true rfl, Nat.le_of_ble_eq_true rfl⟩, w3, trivial⟩) ⟨hx, hb, hml, hown, hts⟩ hE hP hD hS hA [2] rfl rfl rfl rfl rfl hl.1 rfl rfl (Nat.le_of_ble_eq_true rfl) dX1_setCondition_10 (fun H locs hP hD hS => ?_)
  refine lv_aload_n hx hb dX1_setCondition_13 rfl (lv_at hl 0 rfl) ?_
  refine va_get (D := g.1) (ci := 1) (v := .ref h2) (C := RX1) (T := TX1) (N := 9) hx hb hts i_X1_setCondition_X1 hown hE.1 hP 0 rfl rfl 1 (by decide) w1 (fun _ h9 => h9) rfl dX1_setCondition_14 ?_
  refine lv_iload_n hx hb dX1_setCondition_17 rfl (lv_at hl 1 rfl) ?_
  refine lv_iconst (v := (3 : Int32)) hx hb dX1_setCondition_18 (by decide) ?_
  refine lv_imul hx hb dX1_setCondition_19 ?_
  refine lv_iconst (v := (1 : Int32)) hx hb dX1_setCondition_20 (by decide) ?_
  refine lv_iadd hx hb dX1_setCondition_21 ?_
  refine lv_iload_n hx hb dX1_setCondition_22 rfl (lv_at hl 3 rfl) ?_
  obtain ⟨f102, hg, hf⟩ := o1_s hf
  refine Ct.callSN (ws' := wRf g h0 h1 h2 h3 (R.1, f102, R.2.2.1, R.2.2.2.1, R.2.2.2.2.1, R.2.2.2.2.2.1, R.2.2.2.2.2.2.1, R.2.2.2.2.2.2.2.1, R.2.2.2.2.2.2.2.2)) (As := [.ref h2, .int ((a1 * (3 : Int32)) + (1 : Int32)), .int a3]) (rest := []) (st1 := []) (c_X6_put l g h2 24 f101 ((a1 * (3 : Int32)) + (1 : Int32)) a3 hg) (⟨va_cnB 3 hts gX1_setCondition_X6_put_n126 rfl rfl rfl (hE.2.1 _ (List.mem_of_getElem? (i := 28) rfl)) w2 q_X6_put.2 ⟨Nat.le_of_ble_eq_true rfl, Nat.le_of_ble_eq_true rfl⟩, w3, trivial⟩) ⟨hx, hb, hml, hown, hts⟩ hE hP hD hS hA [2] rfl rfl rfl rfl rfl hl.1 rfl rfl (Nat.le_of_ble_eq_true rfl) dX1_setCondition_23 (fun H locs hP hD hS => ?_)
  refine lv_aload_n hx hb dX1_setCondition_26 rfl (lv_at hl 0 rfl) ?_
  refine va_get (D := g.1) (ci := 1) (v := .ref h2) (C := RX1) (T := TX1) (N := 9) hx hb hts i_X1_setCondition_X1 hown hE.1 hP 0 rfl rfl 1 (by decide) w1 (fun _ h9 => h9) rfl dX1_setCondition_27 ?_
  refine lv_iload_n hx hb dX1_setCondition_30 rfl (lv_at hl 1 rfl) ?_
  refine lv_iconst (v := (3 : Int32)) hx hb dX1_setCondition_31 (by decide) ?_
  refine lv_imul hx hb dX1_setCondition_32 ?_
  refine lv_iconst (v := (2 : Int32)) hx hb dX1_setCondition_33 (by decide) ?_
  refine lv_iadd hx hb dX1_setCondition_34 ?_
  refine lv_iload hx hb dX1_setCondition_35 (lv_at hl 4 rfl) ?_
  obtain ⟨f103, hg, hf⟩ := o1_s hf
  refine Ct.callSN (ws' := wRf g h0 h1 h2 h3 (R.1, f103, R.2.2.1, R.2.2.2.1, R.2.2.2.2.1, R.2.2.2.2.2.1, R.2.2.2.2.2.2.1, R.2.2.2.2.2.2.2.1, R.2.2.2.2.2.2.2.2)) (As := [.ref h2, .int ((a1 * (3 : Int32)) + (2 : Int32)), .int a4]) (rest := []) (st1 := []) (c_X6_put l g h2 24 f102 ((a1 * (3 : Int32)) + (2 : Int32)) a4 hg) (⟨va_cnB 3 hts gX1_setCondition_X6_put_n126 rfl rfl rfl (hE.2.1 _ (List.mem_of_getElem? (i := 28) rfl)) w2 q_X6_put.2 ⟨Nat.le_of_ble_eq_true rfl, Nat.le_of_ble_eq_true rfl⟩, w3, trivial⟩) ⟨hx, hb, hml, hown, hts⟩ hE hP hD hS hA [2] rfl rfl rfl rfl rfl hl.1 rfl rfl (Nat.le_of_ble_eq_true rfl) dX1_setCondition_37 (fun H locs hP hD hS => ?_)
  obtain rfl := Option.some.inj hf
  rw [hQ]; exact Ct.vret hx hb hr hlocks hAe hP hD hS dX1_setCondition_40
def fX1_addCondition (R : Rf) (a1 : Int32) (a2 : Int32) (a3 : Int32) : Option (Int32 × Rf) := o1 (fX1_setCondition (R.1, R.2.1, R.2.2.1, R.2.2.2.1, (R.2.2.2.2.1 + (1 : Int32)), R.2.2.2.2.2.1, R.2.2.2.2.2.2.1, R.2.2.2.2.2.2.2.1, R.2.2.2.2.2.2.2.2) R.2.2.2.2.1 a1 a2 a3) (fun R101 => some (R.2.2.2.2.1, R101))
theorem q_X1_addCondition : yX1_addCondition.cls = RX1 ∧ yX1_addCondition.cls ≠ "java/lang/invoke/MethodHandle" ∧ yX1_addCondition.cls ≠ "java/lang/invoke/VarHandle" ∧ (parseMethodDescriptor yX1_addCondition.desc).map (fun d => d.parameters.length) = some 3 := by decide +kernel
theorem i_X1_addCondition_X1 : ∀ w ∈ u_ws RX1 TX1 9, w ∈ wsX1_addCondition := fun _ h => List.mem_cons_of_mem _ (List.mem_append_right _ (h))
set_option maxHeartbeats 4000000 in
set_option maxRecDepth 100000 in
theorem c_X1_addCondition (l : Launch) (g : gG) (h0 h1 h2 h3 : Nat) (R : Rf) (a1 : Int32) (a2 : Int32) (a3 : Int32) {r : Int32} {R' : Rf} (hf : fX1_addCondition R a1 a2 a3 = some (r, R')) : Ct l yX1_addCondition wsX1_addCondition (rmm 2 46) g (wRf g h0 h1 h2 h3 R) (wRf g h0 h1 h2 h3 (R')) [.ref h0, .int a1, .int a2, .int a3] (some (.int r)) := by
  refine Ct.mk (by decide) rfl (Nat.le_of_ble_eq_true rfl) ?_
  intro p e s m args below meth c A ls hx hb hr hml hts hown hlocks hA hE hP hD hS hl hAe
  obtain ⟨Qx, hQ⟩ : ∃ Qx : State → Prop, Qx = MQ below (QcG g (wRf g h0 h1 h2 h3 R) (wRf g h0 h1 h2 h3 (R')) (some (.int r)) s.heap.size) args s 0 0 A := ⟨_, rfl⟩
  rw [← hQ]
  have hown : s.vm.findClass RX1 = some m.cls := hown
  have hl : lv_has ls 5 [(0, .ref h0), (1, .int a1), (2, .int a2), (3, .int a3)] := hl
  have w1 := hts (.fieldLink RX1 25 "RainVault$Roof" "conditions" "I") (List.mem_of_getElem? (i := 1) rfl)
  unfold fX1_addCondition at hf
  refine lv_aload_n hx hb dX1_addCondition_0 rfl (lv_at hl 0 rfl) ?_
  refine va_get (D := g.1) (ci := 1) (v := .int R.2.2.2.2.1) (C := RX1) (T := TX1) (N := 9) hx hb hts i_X1_addCondition_X1 hown hE.1 hP 0 rfl rfl 4 (by decide) w1 (fun _ h9 => h9) rfl dX1_addCondition_1 ?_
  refine lv_istore (lv' := [(4, .int R.2.2.2.2.1), (0, .ref h0), (1, .int a1), (2, .int a2), (3, .int a3)]) hx hb dX1_addCondition_4 hl (by decide) rfl (fun ls hl => ?_)
  refine lv_aload_n hx hb dX1_addCondition_6 rfl (lv_at hl 1 rfl) ?_
  refine lv_dup hx hb dX1_addCondition_7 rfl ?_
  refine va_get (D := g.1) (ci := 1) (v := .int R.2.2.2.2.1) (C := RX1) (T := TX1) (N := 9) hx hb hts i_X1_addCondition_X1 hown hE.1 hP 0 rfl rfl 4 (by decide) w1 (fun _ h9 => h9) rfl dX1_addCondition_8 ?_
  refine lv_iconst (v := (1 : Int32)) hx hb dX1_addCondition_11 (by decide) ?_
  refine lv_iadd hx hb dX1_addCondition_12 ?_
  refine va_put (D := g.1) (ci := 1) (v := .int (R.2.2.2.2.1 + (1 : Int32))) (ty := .int) (C := RX1) (T := TX1) (N := 9) hx hb hts i_X1_addCondition_X1 tyX1 tyX1_ok nmX1 hown hE.1 hP hD hS 0 rfl rfl 4 (by decide) w1 (fun _ h9 => h9) rfl (by decide +kernel) rfl rfl (Nat.le_of_ble_eq_true rfl) dX1_addCondition_13 (fun H locs hP hD hS => ?_)
  have hP : va_P g.1 vwK (wRf g h0 h1 h2 h3 (R.1, R.2.1, R.2.2.1, R.2.2.2.1, (R.2.2.2.2.1 + (1 : Int32)), R.2.2.2.2.2.1, R.2.2.2.2.2.2.1, R.2.2.2.2.2.2.2.1, R.2.2.2.2.2.2.2.2)) H := hP
  have hD : va_D A (wRf g h0 h1 h2 h3 (R.1, R.2.1, R.2.2.1, R.2.2.2.1, (R.2.2.2.2.1 + (1 : Int32)), R.2.2.2.2.2.1, R.2.2.2.2.2.2.1, R.2.2.2.2.2.2.2.1, R.2.2.2.2.2.2.2.2)) := hD
  refine lv_aload_n hx hb dX1_addCondition_16 rfl (lv_at hl 1 rfl) ?_
  refine lv_iload hx hb dX1_addCondition_17 (lv_at hl 0 rfl) ?_
  refine lv_iload_n hx hb dX1_addCondition_19 rfl (lv_at hl 2 rfl) ?_
  refine lv_iload_n hx hb dX1_addCondition_20 rfl (lv_at hl 3 rfl) ?_
  refine lv_iload_n hx hb dX1_addCondition_21 rfl (lv_at hl 4 rfl) ?_
  obtain ⟨R101, hg, hf⟩ := o1_s hf
  refine Ct.callV0 (ws' := wRf g h0 h1 h2 h3 R101) (As := [.int R.2.2.2.2.1, .int a1, .int a2, .int a3]) (rest := []) (st1 := []) (c_X1_setCondition l g h0 h1 h2 h3 (R.1, R.2.1, R.2.2.1, R.2.2.2.1, (R.2.2.2.2.1 + (1 : Int32)), R.2.2.2.2.2.1, R.2.2.2.2.2.2.1, R.2.2.2.2.2.2.2.1, R.2.2.2.2.2.2.2.2) R.2.2.2.2.1 a1 a2 a3 hg) (cwV 4 hts gX1_addCondition_X1_setCondition rfl rfl rfl q_X1_setCondition ⟨Nat.le_of_ble_eq_true rfl, Nat.le_of_ble_eq_true rfl⟩) ⟨hx, hb, hml, hown, hts⟩ hE hP hD hS hA 1 0 rfl rfl rfl rfl hl.1 rfl rfl (Nat.le_of_ble_eq_true rfl) dX1_addCondition_22 (fun H locs hP hD hS => ?_)
  refine lv_iload hx hb dX1_addCondition_25 (lv_at hl 0 rfl) ?_
  obtain ⟨rfl, rfl⟩ := some_p2 hf
  rw [hQ]; exact Ct.iret hx hb hr hlocks hAe hP hD hS dX1_addCondition_27
