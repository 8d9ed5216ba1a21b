def fX1_removeCondition_L12 (kx : Rf → Option (Rf)) : Nat → Rf → Int32 → Option (Rf)
  | 0, _, _ => none
  | k + 1, R, x2 => if R.2.2.2.2.1 ≤ x2 then (kx R) else (o1 (fX1_conditionFact R (x2 + (1 : Int32)) (0 : Int32)) (fun x105 => o1 (fX1_conditionFact R (x2 + (1 : Int32)) (1 : Int32)) (fun x106 => o1 (fX1_conditionFact R (x2 + (1 : Int32)) (2 : Int32)) (fun x107 => o1 (fX1_setCondition R x2 x105 x106 x107) (fun R108 => fX1_removeCondition_L12 kx k R108 (x2 + (1 : Int32)))))))
def fX1_removeCondition (R : Rf) (a1 : Int32) : Option (Rf) := fX1_removeCondition_L12 (fun R109 => some R109) fu (R.1, R.2.1, R.2.2.1, R.2.2.2.1, (R.2.2.2.2.1 - (1 : Int32)), R.2.2.2.2.2.1, R.2.2.2.2.2.2.1, R.2.2.2.2.2.2.2.1, R.2.2.2.2.2.2.2.2) a1
theorem q_X1_removeCondition : yX1_removeCondition.cls = RX1 ∧ yX1_removeCondition.cls ≠ "java/lang/invoke/MethodHandle" ∧ yX1_removeCondition.cls ≠ "java/lang/invoke/VarHandle" ∧ (parseMethodDescriptor yX1_removeCondition.desc).map (fun d => d.parameters.length) = some 1 := by decide +kernel
theorem i_X1_removeCondition_X1 : ∀ w ∈ u_ws RX1 TX1 9, w ∈ wsX1_removeCondition := fun _ h => List.mem_cons_of_mem _ (List.mem_append_right _ (h))
set_option maxHeartbeats 4000000 in
set_option maxRecDepth 100000 in
theorem c_X1_removeCondition (l : Launch) (g : gG) (h0 h1 h2 h3 : Nat) (R : Rf) (a1 : Int32) {R' : Rf} (hf : fX1_removeCondition R a1 = some R') : Ct l yX1_removeCondition wsX1_removeCondition (rmm 2 46) g (wRf g h0 h1 h2 h3 R) (wRf g h0 h1 h2 h3 (R')) [.ref h0, .int a1] none := by
  refine Ct.mk (by decide) rfl (Nat.le_of_ble_eq_true rfl) ?_
  intro p e s m args below meth c A ls hx hb hr hml hts hown hlocks hA hE hP hD hS hl hAe
  obtain ⟨Qx, hQ⟩ : ∃ Qx : State → Prop, Qx = MQ below (QcG g (wRf g h0 h1 h2 h3 R) (wRf g h0 h1 h2 h3 (R')) none s.heap.size) args s 0 0 A := ⟨_, rfl⟩
  rw [← hQ]
  have hown : s.vm.findClass RX1 = some m.cls := hown
  have hl : lv_has ls 3 [(0, .ref h0), (1, .int a1)] := hl
  have w1 := hts (.fieldLink RX1 25 "RainVault$Roof" "conditions" "I") (List.mem_of_getElem? (i := 1) rfl)
  have L12 : ∀ (kx : Rf → Option (Rf)) (k : Nat) (R : Rf) (x2 : Int32) (H : Heap) (locs : List Loc) (ls : Array Slot), fX1_removeCondition_L12 kx k R x2 = some R' → va_P g.1 vwK (wRf g h0 h1 h2 h3 R) H → va_D A (wRf g h0 h1 h2 h3 R) → va_S A s.heap H locs → lv_has ls 3 [(0, .ref h0), (2, .int x2)] → (∀ (R : Rf) (H : Heap) (locs : List Loc) (ls : Array Slot), kx R = some R' → va_P g.1 vwK (wRf g h0 h1 h2 h3 R) H → va_D A (wRf g h0 h1 h2 h3 R) → va_S A s.heap H locs → lv_has ls 3 [] → W p l e (rmm 2 46) s m args below meth c H locs 0 0 Qx (F0 m 55 ls [])) → W p l e (rmm 2 46) s m args below meth c H locs 0 0 Qx (F0 m 12 ls []) := by
    intro kx k
    induction k with
    | zero => intro R x2 H locs ls hf; exact nomatch (show (none : Option (Rf)) = some _ from hf)
    | succ k ih =>
      intro R x2 H locs ls hf hP hD hS hl hk
      rw [fX1_removeCondition_L12] at hf
      refine lv_iload_n hx hb dX1_removeCondition_12 rfl (lv_at hl 1 rfl) ?_
      refine lv_aload_n hx hb dX1_removeCondition_13 rfl (lv_at hl 0 rfl) ?_
      refine va_get (D := g.1) (ci := 1) (v := .int R.2.2.2.2.1) (C := RX1) (T := TX1) (N := 9) hx hb hts i_X1_removeCondition_X1 hown hE.1 hP 0 rfl rfl 4 (by decide) w1 (fun _ h9 => h9) rfl dX1_removeCondition_14 ?_
      refine lv_icmp_ge (tgt := 55) hx hb dX1_removeCondition_17 (by decide) (fun hc => ?_) (fun hc => ?_)
      · have hf := if_t hf hc
        exact hk _ _ _ _  hf hP hD hS (lv_sub hl [] rfl)
      · have hf := if_f hf hc
        refine lv_aload_n hx hb dX1_removeCondition_20 rfl (lv_at hl 0 rfl) ?_
        refine lv_iload_n hx hb dX1_removeCondition_21 rfl (lv_at hl 1 rfl) ?_
        refine lv_aload_n hx hb dX1_removeCondition_22 rfl (lv_at hl 0 rfl) ?_
        refine lv_iload_n hx hb dX1_removeCondition_23 rfl (lv_at hl 1 rfl) ?_
        refine lv_iconst (v := (1 : Int32)) hx hb dX1_removeCondition_24 (by decide) ?_
        refine lv_iadd hx hb dX1_removeCondition_25 ?_
        refine lv_iconst (v := (0 : Int32)) hx hb dX1_removeCondition_26 (by decide) ?_
        obtain ⟨x105, hg, hf⟩ := o1_s hf
        refine Ct.callV0 (ws' := wRf g h0 h1 h2 h3 R) (As := [.int (x2 + (1 : Int32)), .int (0 : Int32)]) (rest := [.int x2, .ref h0]) (st1 := [.int x105, .int x2, .ref h0]) (c_X1_conditionFact l g h0 h1 h2 h3 R (x2 + (1 : Int32)) (0 : Int32) hg) (cwV 2 hts gX1_removeCondition_X1_conditionFact rfl rfl rfl q_X1_conditionFact ⟨Nat.le_of_ble_eq_true rfl, Nat.le_of_ble_eq_true rfl⟩) ⟨hx, hb, hml, hown, hts⟩ hE hP hD hS hA 1 0 rfl rfl rfl rfl hl.1 rfl rfl (Nat.le_of_ble_eq_true rfl) dX1_removeCondition_27 (fun H locs hP hD hS => ?_)
        refine lv_aload_n hx hb dX1_removeCondition_30 rfl (lv_at hl 0 rfl) ?_
        refine lv_iload_n hx hb dX1_removeCondition_31 rfl (lv_at hl 1 rfl) ?_
        refine lv_iconst (v := (1 : Int32)) hx hb dX1_removeCondition_32 (by decide) ?_
        refine lv_iadd hx hb dX1_removeCondition_33 ?_
        refine lv_iconst (v := (1 : Int32)) hx hb dX1_removeCondition_34 (by decide) ?_
        obtain ⟨x106, hg, hf⟩ := o1_s hf
        refine Ct.callV0 (ws' := wRf g h0 h1 h2 h3 R) (As := [.int (x2 + (1 : Int32)), .int (1 : Int32)]) (rest := [.int x105, .int x2, .ref h0]) (st1 := [.int x106, .int x105, .int x2, .ref h0]) (c_X1_conditionFact l g h0 h1 h2 h3 R (x2 + (1 : Int32)) (1 : Int32) hg) (cwV 2 hts gX1_removeCondition_X1_conditionFact rfl rfl rfl q_X1_conditionFact ⟨Nat.le_of_ble_eq_true rfl, Nat.le_of_ble_eq_true rfl⟩) ⟨hx, hb, hml, hown, hts⟩ hE hP hD hS hA 1 0 rfl rfl rfl rfl hl.1 rfl rfl (Nat.le_of_ble_eq_true rfl) dX1_removeCondition_35 (fun H locs hP hD hS => ?_)
        refine lv_aload_n hx hb dX1_removeCondition_38 rfl (lv_at hl 0 rfl) ?_
        refine lv_iload_n hx hb dX1_removeCondition_39 rfl (lv_at hl 1 rfl) ?_
        refine lv_iconst (v := (1 : Int32)) hx hb dX1_removeCondition_40 (by decide) ?_
        refine lv_iadd hx hb dX1_removeCondition_41 ?_
        refine lv_iconst (v := (2 : Int32)) hx hb dX1_removeCondition_42 (by decide) ?_
        obtain ⟨x107, hg, hf⟩ := o1_s hf
        refine Ct.callV0 (ws' := wRf g h0 h1 h2 h3 R) (As := [.int (x2 + (1 : Int32)), .int (2 : Int32)]) (rest := [.int x106, .int x105, .int x2, .ref h0]) (st1 := [.int x107, .int x106, .int x105, .int x2, .ref h0]) (c_X1_conditionFact l g h0 h1 h2 h3 R (x2 + (1 : Int32)) (2 : Int32) hg) (cwV 2 hts gX1_removeCondition_X1_conditionFact rfl rfl rfl q_X1_conditionFact ⟨Nat.le_of_ble_eq_true rfl, Nat.le_of_ble_eq_true rfl⟩) ⟨hx, hb, hml, hown, hts⟩ hE hP hD hS hA 1 0 rfl rfl rfl rfl hl.1 rfl rfl (Nat.le_of_ble_eq_true rfl) dX1_removeCondition_43 (fun H locs hP hD hS => ?_)
        obtain ⟨R108, hg, hf⟩ := o1_s hf
        refine Ct.callV0 (ws' := wRf g h0 h1 h2 h3 R108) (As := [.int x2, .int x105, .int x106, .int x107]) (rest := []) (st1 := []) (c_X1_setCondition l g h0 h1 h2 h3 R x2 x105 x106 x107 hg) (cwV 4 hts gX1_removeCondition_X1_setCondition rfl rfl rfl q_X1_setCondition ⟨Nat.le_of_ble_eq_true rfl, Nat.le_of_ble_eq_true rfl⟩) ⟨hx, hb, hml, hown, hts⟩ hE hP hD hS hA 1 0 rfl rfl rfl rfl hl.1 rfl rfl (Nat.le_of_ble_eq_true rfl) dX1_removeCondition_46 (fun H locs hP hD hS => ?_)
        refine lv_iinc (v := (x2 + (1 : Int32))) (lv' := [(2, .int (x2 + (1 : Int32))), (0, .ref h0)]) hx hb dX1_removeCondition_49 hl (k := 1) rfl rfl (by decide) rfl (fun ls hl => ?_)
        refine lv_goto (tgt := 12) hx hb dX1_removeCondition_52 (by decide) ?_
        exact ih _ _ _ _ _  hf hP hD hS (lv_sub hl [1, 0] rfl) hk
  unfold fX1_removeCondition at hf
  refine lv_aload_n hx hb dX1_removeCondition_0 rfl (lv_at hl 0 rfl) ?_
  refine lv_dup hx hb dX1_removeCondition_1 rfl ?_
  refine va_get (D := g.1) (ci := 1) (v := .int R.2.2.2.2.1) (C := RX1) (T := TX1) (N := 9) hx hb hts i_X1_removeCondition_X1 hown hE.1 hP 0 rfl rfl 4 (by decide) w1 (fun _ h9 => h9) rfl dX1_removeCondition_2 ?_
  refine lv_iconst (v := (1 : Int32)) hx hb dX1_removeCondition_5 (by decide) ?_
  refine lv_isub hx hb dX1_removeCondition_6 ?_
  refine va_put (D := g.1) (ci := 1) (v := .int (R.2.2.2.2.1 - (1 : Int32))) (ty := .int) (C := RX1) (T := TX1) (N := 9) hx hb hts i_X1_removeCondition_X1 tyX1 tyX1_ok nmX1 hown hE.1 hP hD hS 0 rfl rfl 4 (by decide) w1 (fun _ h9 => h9) rfl (by decide +kernel) rfl rfl (Nat.le_of_ble_eq_true rfl) dX1_removeCondition_7 (fun H locs hP hD hS => ?_)
  have hP : va_P g.1 vwK (wRf g h0 h1 h2 h3 (R.1, R.2.1, R.2.2.1, R.2.2.2.1, (R.2.2.2.2.1 - (1 : Int32)), R.2.2.2.2.2.1, R.2.2.2.2.2.2.1, R.2.2.2.2.2.2.2.1, R.2.2.2.2.2.2.2.2)) H := hP
  have hD : va_D A (wRf g h0 h1 h2 h3 (R.1, R.2.1, R.2.2.1, R.2.2.2.1, (R.2.2.2.2.1 - (1 : Int32)), R.2.2.2.2.2.1, R.2.2.2.2.2.2.1, R.2.2.2.2.2.2.2.1, R.2.2.2.2.2.2.2.2)) := hD
  refine lv_iload_n hx hb dX1_removeCondition_10 rfl (lv_at hl 1 rfl) ?_
  refine lv_istore_n (lv' := [(2, .int a1), (0, .ref h0), (1, .int a1)]) hx hb dX1_removeCondition_11 rfl hl (by decide) rfl (fun ls hl => ?_)
  refine L12 _ _ _ _ _ _ _  hf hP hD hS (lv_sub hl [1, 0] rfl) (fun R109 H locs ls hf hP hD hS hl => ?_)
  obtain rfl := Option.some.inj hf
  rw [hQ]; exact Ct.vret hx hb hr hlocks hAe hP hD hS dX1_removeCondition_55
def fX1_spotsInUse_L4 (R : Rf) (kx : Int32 → Option (Int32)) : Nat → Int32 → Int32 → Option (Int32)
  | 0, _, _ => none
  | k + 1, x1, x2 => if (10 : Int32) ≤ x2 then (kx x1) else (rd R.2.2.1 10 x2 (fun x102 => if x102 < 0 then (fX1_spotsInUse_L4 R kx k x1 (x2 + (1 : Int32))) else (fX1_spotsInUse_L4 R kx k (x1 + (1 : Int32)) (x2 + (1 : Int32)))))
def fX1_spotsInUse (R : Rf) : Option (Int32) := fX1_spotsInUse_L4 R (fun x103 => some x103) fu (0 : Int32) (0 : Int32)
theorem q_X1_spotsInUse : yX1_spotsInUse.cls = RX1 ∧ yX1_spotsInUse.cls ≠ "java/lang/invoke/MethodHandle" ∧ yX1_spotsInUse.cls ≠ "java/lang/invoke/VarHandle" ∧ (parseMethodDescriptor yX1_spotsInUse.desc).map (fun d => d.parameters.length) = some 0 := by decide +kernel
theorem i_X1_spotsInUse_X1 : ∀ w ∈ u_ws RX1 TX1 9, w ∈ wsX1_spotsInUse := fun _ h => List.mem_cons_of_mem _ (List.mem_append_right _ (h))
set_option maxHeartbeats 4000000 in
set_option maxRecDepth 100000 in
theorem c_X1_spotsInUse (l : Launch) (g : gG) (h0 h1 h2 h3 : Nat) (R : Rf) {r : Int32} (hf : fX1_spotsInUse R = some r) : Ct l yX1_spotsInUse wsX1_spotsInUse (rmm 0 0) g (wRf g h0 h1 h2 h3 R) (wRf g h0 h1 h2 h3 R) [.ref h0] (some (.int r)) := by
  refine Ct.mk (by decide) rfl (Nat.le_of_ble_eq_true rfl) ?_
  intro p e s m args below meth c A ls hx hb hr hml hts hown hlocks hA hE hP hD hS hl hAe
  obtain ⟨Qx, hQ⟩ : ∃ Qx : State → Prop, Qx = MQ below (QcG g (wRf g h0 h1 h2 h3 R) (wRf g h0 h1 h2 h3 R) (some (.int r)) s.heap.size) args s 0 0 A := ⟨_, rfl⟩
  rw [← hQ]
  have hown : s.vm.findClass RX1 = some m.cls := hown
  have hl : lv_has ls 3 [(0, .ref h0)] := hl
  have w1 := hts (.fieldLink RX1 18 "RainVault$Roof" "spots" "[I") (List.mem_of_getElem? (i := 1) rfl)
  have L4 : ∀ (kx : Int32 → Option (Int32)) (k : Nat) (x1 : Int32) (x2 : Int32) (H : Heap) (locs : List Loc) (ls : Array Slot), fX1_spotsInUse_L4 R kx k x1 x2 = some r → va_P g.1 vwK (wRf g h0 h1 h2 h3 R) H → va_D A (wRf g h0 h1 h2 h3 R) → va_S A s.heap H locs → lv_has ls 3 [(0, .ref h0), (1, .int x1), (2, .int x2)] → (∀ (x1 : Int32) (H : Heap) (locs : List Loc) (ls : Array Slot), kx x1 = some r → va_P g.1 vwK (wRf g h0 h1 h2 h3 R) H → va_D A (wRf g h0 h1 h2 h3 R) → va_S A s.heap H locs → lv_has ls 3 [(1, .int x1)] → W p l e (rmm 0 0) s m args below meth c H locs 0 0 Qx (F0 m 31 ls [])) → W p l e (rmm 0 0) s m args below meth c H locs 0 0 Qx (F0 m 4 ls []) := by
    intro kx k
    induction k with
    | zero => intro x1 x2 H locs ls hf; exact nomatch (show (none : Option (Int32)) = some _ from hf)
    | succ k ih =>
      intro x1 x2 H locs ls hf hP hD hS hl hk
      rw [fX1_spotsInUse_L4] at hf
      refine lv_iload_n hx hb dX1_spotsInUse_4 rfl (lv_at hl 2 rfl) ?_
      refine lv_aload_n hx hb dX1_spotsInUse_5 rfl (lv_at hl 0 rfl) ?_
      refine va_get (D := g.1) (ci := 1) (v := .ref h3) (C := RX1) (T := TX1) (N := 9) hx hb hts i_X1_spotsInUse_X1 hown hE.1 hP 0 rfl rfl 2 (by decide) w1 (fun _ h9 => h9) rfl dX1_spotsInUse_6 ?_
      refine va_alen (v := (10 : Int32)) hx hb hE.1 hP 3 0 rfl rfl (show Int32.ofNat 10 = (10 : Int32) by decide) dX1_spotsInUse_9 ?_
      refine lv_icmp_ge (tgt := 31) hx hb dX1_spotsInUse_10 (by decide) (fun hc => ?_) (fun hc => ?_)
      · have hf := if_t hf hc
        exact hk _ _ _ _  hf hP hD hS (lv_sub hl [1] rfl)
      · have hf := if_f hf hc
        refine lv_aload_n hx hb dX1_spotsInUse_13 rfl (lv_at hl 0 rfl) ?_
        refine va_get (D := g.1) (ci := 1) (v := .ref h3) (C := RX1) (T := TX1) (N := 9) hx hb hts i_X1_spotsInUse_X1 hown hE.1 hP 0 rfl rfl 2 (by decide) w1 (fun _ h9 => h9) rfl dX1_spotsInUse_14 ?_
        refine lv_iload_n hx hb dX1_spotsInUse_17 rfl (lv_at hl 2 rfl) ?_
        obtain ⟨x102, ex, hin, hf⟩ := rd_s hf
        refine st_iald (f := R.2.2.1) hx hb hE.1 hP 3 0 rfl rfl hin ex dX1_spotsInUse_18 ?_
        refine lv_if_lt (tgt := 25) hx hb dX1_spotsInUse_19 (by decide) (fun hc => ?_) (fun hc => ?_)
        · have hf := if_t hf hc
          refine lv_iinc (v := (x2 + (1 : Int32))) (lv' := [(2, .int (x2 + (1 : Int32))), (0, .ref h0), (1, .int x1)]) hx hb dX1_spotsInUse_25 hl (k := 2) rfl rfl (by decide) rfl (fun ls hl => ?_)
          refine lv_goto (tgt := 4) hx hb dX1_spotsInUse_28 (by decide) ?_
          exact ih _ _ _ _ _  hf hP hD hS (lv_sub hl [1, 2, 0] rfl) hk
        · have hf := if_f hf hc
          refine lv_iinc (v := (x1 + (1 : Int32))) (lv' := [(1, .int (x1 + (1 : Int32))), (0, .ref h0), (2, .int x2)]) hx hb dX1_spotsInUse_22 hl (k := 1) rfl rfl (by decide) rfl (fun ls hl => ?_)
          refine lv_iinc (v := (x2 + (1 : Int32))) (lv' := [(2, .int (x2 + (1 : Int32))), (1, .int (x1 + (1 : Int32))), (0, .ref h0)]) hx hb dX1_spotsInUse_25 hl (k := 2) rfl rfl (by decide) rfl (fun ls hl => ?_)
          refine lv_goto (tgt := 4) hx hb dX1_spotsInUse_28 (by decide) ?_
          exact ih _ _ _ _ _  hf hP hD hS (lv_sub hl [2, 1, 0] rfl) hk
  unfold fX1_spotsInUse at hf
  refine lv_iconst (v := (0 : Int32)) hx hb dX1_spotsInUse_0 (by decide) ?_
  refine lv_istore_n (lv' := [(1, .int (0 : Int32)), (0, .ref h0)]) hx hb dX1_spotsInUse_1 rfl hl (by decide) rfl (fun ls hl => ?_)
  refine lv_iconst (v := (0 : Int32)) hx hb dX1_spotsInUse_2 (by decide) ?_
  refine lv_istore_n (lv' := [(2, .int (0 : Int32)), (1, .int (0 : Int32)), (0, .ref h0)]) hx hb dX1_spotsInUse_3 rfl hl (by decide) rfl (fun ls hl => ?_)
  refine L4 _ _ _ _ _ _ _  hf hP hD hS (lv_sub hl [2, 1, 0] rfl) (fun x103 H locs ls hf hP hD hS hl => ?_)
  refine lv_iload_n hx hb dX1_spotsInUse_31 rfl (lv_at hl 0 rfl) ?_
  obtain rfl := Option.some.inj hf
  rw [hQ]; exact Ct.iret hx hb hr hlocks hAe hP hD hS dX1_spotsInUse_32
def fX2_begin_L12 (kx : Sh → Option (Sh)) : Nat → Sh → Int32 → Option (Sh)
  | 0, _, _ => none
  | k + 1, E, x3 => if (40 : Int32) ≤ x3 then (kx E) else (wr E.1 40 x3 (0 : Int32) (fun f102 => fX2_begin_L12 kx k (f102, E.2.1, E.2.2) (x3 + (1 : Int32))))
def fX2_begin (E : Sh) (a1 : Int32) (a2 : Int32) : Option (Sh) := fX2_begin_L12 (fun E103 => some E103) fu (E.1, a1, a2) (0 : Int32)
theorem q_X2_begin : yX2_begin.cls = RX2 ∧ yX2_begin.cls ≠ "java/lang/invoke/MethodHandle" ∧ yX2_begin.cls ≠ "java/lang/invoke/VarHandle" ∧ (parseMethodDescriptor yX2_begin.desc).map (fun d => d.parameters.length) = some 2 := by decide +kernel
theorem i_X2_begin_X2 : ∀ w ∈ u_ws RX2 TX2 3, w ∈ wsX2_begin := fun _ h => List.mem_cons_of_mem _ (List.mem_append_right _ (h))
set_option maxHeartbeats 4000000 in
set_option maxRecDepth 100000 in
theorem c_X2_begin (l : Launch) (g : gG) (e0 e1 : Nat) (E : Sh) (a1 : Int32) (a2 : Int32) {E' : Sh} (hf : fX2_begin E a1 a2 = some E') : Ct l yX2_begin wsX2_begin (rmm 0 0) g (wSh g e0 e1 E) (wSh g e0 e1 (E')) [.ref e0, .int a1, .int a2] none := by
  refine Ct.mk (by decide) rfl (Nat.le_of_ble_eq_true rfl) ?_
  intro p e s m args below meth c A ls hx hb hr hml hts hown hlocks hA hE hP hD hS hl hAe
  obtain ⟨Qx, hQ⟩ : ∃ Qx : State → Prop, Qx = MQ below (QcG g (wSh g e0 e1 E) (wSh g e0 e1 (E')) none s.heap.size) args s 0 0 A := ⟨_, rfl⟩
  rw [← hQ]
  have hown : s.vm.findClass RX2 = some m.cls := hown
  have hl : lv_has ls 4 [(0, .ref e0), (1, .int a1), (2, .int a2)] := hl
  have w1 := hts (.fieldLink RX2 15 "RainVault$Sheet" "bits" "I") (List.mem_of_getElem? (i := 1) rfl)
  have w2 := hts (.fieldLink RX2 19 "RainVault$Sheet" "length" "I") (List.mem_of_getElem? (i := 2) rfl)
  have w3 := hts (.fieldLink RX2 9 "RainVault$Sheet" "numbers" "[I") (List.mem_of_getElem? (i := 3) rfl)
  have L12 : ∀ (kx : Sh → Option (Sh)) (k : Nat) (E : Sh) (x3 : Int32) (H : Heap) (locs : List Loc) (ls : Array Slot), fX2_begin_L12 kx k E x3 = some E' → va_P g.1 vwK (wSh g e0 e1 E) H → va_D A (wSh g e0 e1 E) → va_S A s.heap H locs → lv_has ls 4 [(0, .ref e0), (3, .int x3)] → (∀ (E : Sh) (H : Heap) (locs : List Loc) (ls : Array Slot), kx E = some E' → va_P g.1 vwK (wSh g e0 e1 E) H → va_D A (wSh g e0 e1 E) → va_S A s.heap H locs → lv_has ls 4 [] → W p l e (rmm 0 0) s m args below meth c H locs 0 0 Qx (F0 m 34 ls [])) → W p l e (rmm 0 0) s m args below meth c H locs 0 0 Qx (F0 m 12 ls []) := by
    intro kx k
    induction k with
    | zero => intro E x3 H locs ls hf; exact nomatch (show (none : Option (Sh)) = some _ from hf)
    | succ k ih =>
      intro E x3 H locs ls hf hP hD hS hl hk
      rw [fX2_begin_L12] at hf
      refine lv_iload_n hx hb dX2_begin_12 rfl (lv_at hl 1 rfl) ?_
      refine lv_aload_n hx hb dX2_begin_13 rfl (lv_at hl 0 rfl) ?_
      refine va_get (D := g.1) (ci := 2) (v := .ref e1) (C := RX2) (T := TX2) (N := 3) hx hb hts i_X2_begin_X2 hown hE.1 hP 0 rfl rfl 0 (by decide) w3 (fun _ h9 => h9) rfl dX2_begin_14 ?_
      refine va_alen (v := (40 : Int32)) hx hb hE.1 hP 1 0 rfl rfl (show Int32.ofNat 40 = (40 : Int32) by decide) dX2_begin_17 ?_
      refine lv_icmp_ge (tgt := 34) hx hb dX2_begin_18 (by decide) (fun hc => ?_) (fun hc => ?_)
      · have hf := if_t hf hc
        exact hk _ _ _ _  hf hP hD hS (lv_sub hl [] rfl)
      · have hf := if_f hf hc
        refine lv_aload_n hx hb dX2_begin_21 rfl (lv_at hl 0 rfl) ?_
        refine va_get (D := g.1) (ci := 2) (v := .ref e1) (C := RX2) (T := TX2) (N := 3) hx hb hts i_X2_begin_X2 hown hE.1 hP 0 rfl rfl 0 (by decide) w3 (fun _ h9 => h9) rfl dX2_begin_22 ?_
        refine lv_iload_n hx hb dX2_begin_25 rfl (lv_at hl 1 rfl) ?_
        refine lv_iconst (v := (0 : Int32)) hx hb dX2_begin_26 (by decide) ?_
        obtain ⟨f102, ef, hin, hf⟩ := wr_s hf
        refine st_iast (ws' := wSh g e0 e1 (f102, E.2.1, E.2.2)) (f := E.1) (f2 := f102) hx hb hE.1 hP hD hS 1 0 rfl rfl hin ef rfl dX2_begin_27 (fun H locs hP hD hS => ?_)
        refine lv_iinc (v := (x3 + (1 : Int32))) (lv' := [(3, .int (x3 + (1 : Int32))), (0, .ref e0)]) hx hb dX2_begin_28 hl (k := 1) rfl rfl (by decide) rfl (fun ls hl => ?_)
        refine lv_goto (tgt := 12) hx hb dX2_begin_31 (by decide) ?_
        exact ih _ _ _ _ _  hf hP hD hS (lv_sub hl [1, 0] rfl) hk
  unfold fX2_begin at hf
  refine lv_aload_n hx hb dX2_begin_0 rfl (lv_at hl 0 rfl) ?_
  refine lv_iload_n hx hb dX2_begin_1 rfl (lv_at hl 1 rfl) ?_
  refine va_put (D := g.1) (ci := 2) (v := .int a1) (ty := .int) (C := RX2) (T := TX2) (N := 3) hx hb hts i_X2_begin_X2 tyX2 tyX2_ok nmX2 hown hE.1 hP hD hS 0 rfl rfl 1 (by decide) w1 (fun _ h9 => h9) rfl (by decide +kernel) rfl rfl (Nat.le_of_ble_eq_true rfl) dX2_begin_2 (fun H locs hP hD hS => ?_)
  have hP : va_P g.1 vwK (wSh g e0 e1 (E.1, a1, E.2.2)) H := hP
  have hD : va_D A (wSh g e0 e1 (E.1, a1, E.2.2)) := hD
  refine lv_aload_n hx hb dX2_begin_5 rfl (lv_at hl 0 rfl) ?_
  refine lv_iload_n hx hb dX2_begin_6 rfl (lv_at hl 2 rfl) ?_
  refine va_put (D := g.1) (ci := 2) (v := .int a2) (ty := .int) (C := RX2) (T := TX2) (N := 3) hx hb hts i_X2_begin_X2 tyX2 tyX2_ok nmX2 hown hE.1 hP hD hS 0 rfl rfl 2 (by decide) w2 (fun _ h9 => h9) rfl (by decide +kernel) rfl rfl (Nat.le_of_ble_eq_true rfl) dX2_begin_7 (fun H locs hP hD hS => ?_)
  have hP : va_P g.1 vwK (wSh g e0 e1 (E.1, a1, a2)) H := hP
  have hD : va_D A (wSh g e0 e1 (E.1, a1, a2)) := hD
  refine lv_iconst (v := (0 : Int32)) hx hb dX2_begin_10 (by decide) ?_
  refine lv_istore_n (lv' := [(3, .int (0 : Int32)), (0, .ref e0), (1, .int a1), (2, .int a2)]) hx hb dX2_begin_11 rfl hl (by decide) rfl (fun ls hl => ?_)
  refine L12 _ _ _ _ _ _ _  hf hP hD hS (lv_sub hl [1, 0] rfl) (fun E103 H locs ls hf hP hD hS hl => ?_)
  obtain rfl := Option.some.inj hf
  rw [hQ]; exact Ct.vret hx hb hr hlocks hAe hP hD hS dX2_begin_34
def fX2_isMissing (E : Sh) : Option (Int32) := if E.2.1 = 0 then (some (1 : Int32)) else (some (0 : Int32))
theorem q_X2_isMissing : yX2_isMissing.cls = RX2 ∧ yX2_isMissing.cls ≠ "java/lang/invoke/MethodHandle" ∧ yX2_isMissing.cls ≠ "java/lang/invoke/VarHandle" ∧ (parseMethodDescriptor yX2_isMissing.desc).map (fun d => d.parameters.length) = some 0 := by decide +kernel
theorem i_X2_isMissing_X2 : ∀ w ∈ u_ws RX2 TX2 3, w ∈ wsX2_isMissing := fun _ h => List.mem_cons_of_mem _ (List.mem_append_right _ (h))
set_option maxHeartbeats 4000000 in
set_option maxRecDepth 100000 in
theorem c_X2_isMissing (l : Launch) (g : gG) (e0 e1 : Nat) (E : Sh) {r : Int32} (hf : fX2_isMissing E = some r) : Ct l yX2_isMissing wsX2_isMissing (rmm 0 0) g (wSh g e0 e1 E) (wSh g e0 e1 E) [.ref e0] (some (.int r)) := by
  refine Ct.mk (by decide) rfl (Nat.le_of_ble_eq_true rfl) ?_
  intro p e s m args below meth c A ls hx hb hr hml hts hown hlocks hA hE hP hD hS hl hAe
  obtain ⟨Qx, hQ⟩ : ∃ Qx : State → Prop, Qx = MQ below (QcG g (wSh g e0 e1 E) (wSh g e0 e1 E) (some (.int r)) s.heap.size) args s 0 0 A := ⟨_, rfl⟩
  rw [← hQ]
  have hown : s.vm.findClass RX2 = some m.cls := hown
  have hl : lv_has ls 1 [(0, .ref e0)] := hl
  have w1 := hts (.fieldLink RX2 15 "RainVault$Sheet" "bits" "I") (List.mem_of_getElem? (i := 1) rfl)
  unfold fX2_isMissing at hf
  refine lv_aload_n hx hb dX2_isMissing_0 rfl (lv_at hl 0 rfl) ?_
  refine va_get (D := g.1) (ci := 2) (v := .int E.2.1) (C := RX2) (T := TX2) (N := 3) hx hb hts i_X2_isMissing_X2 hown hE.1 hP 0 rfl rfl 1 (by decide) w1 (fun _ h9 => h9) rfl dX2_isMissing_1 ?_
  refine lv_if_ne (tgt := 11) hx hb dX2_isMissing_4 (by decide) (fun hc => ?_) (fun hc => ?_)
  · have hf := if_f hf hc
    refine lv_iconst (v := (0 : Int32)) hx hb dX2_isMissing_11 (by decide) ?_
    obtain rfl := Option.some.inj hf
    rw [hQ]; exact Ct.zret hx hb hr (by decide) hlocks hAe hP hD hS dX2_isMissing_12
  · have hf := if_t hf hc
    refine lv_iconst (v := (1 : Int32)) hx hb dX2_isMissing_7 (by decide) ?_
    refine lv_goto (tgt := 12) hx hb dX2_isMissing_8 (by decide) ?_
    obtain rfl := Option.some.inj hf
    rw [hQ]; exact Ct.zret hx hb hr (by decide) hlocks hAe hP hD hS dX2_isMissing_12
def fX2_hasRange (E : Sh) (a1 : Int32) (a2 : Int32) : Option (Int32) := if a1 < 0 then (some (0 : Int32)) else (if a2 < 0 then (some (0 : Int32)) else (if (if (40 : Int32) < E.2.2 then (40 : Int32) else E.2.2) < a1 then (some (0 : Int32)) else (if ((if (40 : Int32) < E.2.2 then (40 : Int32) else E.2.2) - a1) < a2 then (some (0 : Int32)) else (some (1 : Int32)))))
theorem q_X2_hasRange : yX2_hasRange.cls = RX2 ∧ yX2_hasRange.cls ≠ "java/lang/invoke/MethodHandle" ∧ yX2_hasRange.cls ≠ "java/lang/invoke/VarHandle" ∧ (parseMethodDescriptor yX2_hasRange.desc).map (fun d => d.parameters.length) = some 2 := by decide +kernel
theorem i_X2_hasRange_X2 : ∀ w ∈ u_ws RX2 TX2 3, w ∈ wsX2_hasRange := fun _ h => List.mem_cons_of_mem _ (List.mem_append_right _ (h))
set_option maxHeartbeats 4000000 in
set_option maxRecDepth 100000 in
theorem c_X2_hasRange (l : Launch) (g : gG) (e0 e1 : Nat) (E : Sh) (a1 : Int32) (a2 : Int32) {r : Int32} (hf : fX2_hasRange E a1 a2 = some r) : Ct l yX2_hasRange wsX2_hasRange (rmm 1 40) g (wSh g e0 e1 E) (wSh g e0 e1 E) [.ref e0, .int a1, .int a2] (some (.int r)) := by
  refine Ct.mk (by decide) rfl (Nat.le_of_ble_eq_true rfl) ?_
  intro p e s m args below meth c A ls hx hb hr hml hts hown hlocks hA hE hP hD hS hl hAe
  obtain ⟨Qx, hQ⟩ : ∃ Qx : State → Prop, Qx = MQ below (QcG g (wSh g e0 e1 E) (wSh g e0 e1 E) (some (.int r)) s.heap.size) args s 0 0 A := ⟨_, rfl⟩
  rw [← hQ]
  have hown : s.vm.findClass RX2 = some m.cls := hown
  have hl : lv_has ls 4 [(0, .ref e0), (1, .int a1), (2, .int a2)] := hl
  have w1 := hts (.fieldLink RX2 19 "RainVault$Sheet" "length" "I") (List.mem_of_getElem? (i := 1) rfl)
  have w2 := hts (.fieldLink RX2 9 "RainVault$Sheet" "numbers" "[I") (List.mem_of_getElem? (i := 2) rfl)
  have w3 := hts (.methodLink RX2 22 Lib.Math.min.name) (List.mem_of_getElem? (i := 3) rfl)
  have w4 := hts (.static Lib.Math.min.name) (List.mem_of_getElem? (i := 4) rfl)
  have w5 := hts (.initialized "java/lang/Math") (List.mem_of_getElem? (i := 5) rfl)
  have w6 := hts (.code Lib.Math.min.name Lib.Math.min.code 2 (some .int)) (List.mem_of_getElem? (i := 6) rfl)
  unfold fX2_hasRange at hf
  refine lv_aload_n hx hb dX2_hasRange_0 rfl (lv_at hl 0 rfl) ?_
  refine va_get (D := g.1) (ci := 2) (v := .int E.2.2) (C := RX2) (T := TX2) (N := 3) hx hb hts i_X2_hasRange_X2 hown hE.1 hP 0 rfl rfl 2 (by decide) w1 (fun _ h9 => h9) rfl dX2_hasRange_1 ?_
  refine lv_aload_n hx hb dX2_hasRange_4 rfl (lv_at hl 0 rfl) ?_
  refine va_get (D := g.1) (ci := 2) (v := .ref e1) (C := RX2) (T := TX2) (N := 3) hx hb hts i_X2_hasRange_X2 hown hE.1 hP 0 rfl rfl 0 (by decide) w2 (fun _ h9 => h9) rfl dX2_hasRange_5 ?_
  refine va_alen (v := (40 : Int32)) hx hb hE.1 hP 1 0 rfl rfl (show Int32.ofNat 40 = (40 : Int32) by decide) dX2_hasRange_8 ?_
  refine va_mmin hx hb (hml.trans hl.1.symm) hown w3 w4 w5 w6 (Nat.le_of_ble_eq_true rfl) (Nat.le_of_ble_eq_true rfl) (Nat.zero_le _) (Nat.zero_le _) dX2_hasRange_9 ?_
  refine lv_istore_n (lv' := [(3, .int (if (40 : Int32) < E.2.2 then (40 : Int32) else E.2.2)), (0, .ref e0), (1, .int a1), (2, .int a2)]) hx hb dX2_hasRange_12 rfl hl (by decide) rfl (fun ls hl => ?_)
  refine lv_iload_n hx hb dX2_hasRange_13 rfl (lv_at hl 2 rfl) ?_
  refine lv_if_lt (tgt := 37) hx hb dX2_hasRange_14 (by decide) (fun hc => ?_) (fun hc => ?_)
  · have hf := if_t hf hc
    refine lv_iconst (v := (0 : Int32)) hx hb dX2_hasRange_37 (by decide) ?_
    obtain rfl := Option.some.inj hf
    rw [hQ]; exact Ct.zret hx hb hr (by decide) hlocks hAe hP hD hS dX2_hasRange_38
  · have hf := if_f hf hc
    refine lv_iload_n hx hb dX2_hasRange_17 rfl (lv_at hl 3 rfl) ?_
    refine lv_if_lt (tgt := 37) hx hb dX2_hasRange_18 (by decide) (fun hc => ?_) (fun hc => ?_)
    · have hf := if_t hf hc
      refine lv_iconst (v := (0 : Int32)) hx hb dX2_hasRange_37 (by decide) ?_
      obtain rfl := Option.some.inj hf
      rw [hQ]; exact Ct.zret hx hb hr (by decide) hlocks hAe hP hD hS dX2_hasRange_38
    · have hf := if_f hf hc
      refine lv_iload_n hx hb dX2_hasRange_21 rfl (lv_at hl 2 rfl) ?_
      refine lv_iload_n hx hb dX2_hasRange_22 rfl (lv_at hl 0 rfl) ?_
      refine lv_icmp_gt (tgt := 37) hx hb dX2_hasRange_23 (by decide) (fun hc => ?_) (fun hc => ?_)
      · have hf := if_t hf hc
        refine lv_iconst (v := (0 : Int32)) hx hb dX2_hasRange_37 (by decide) ?_
        obtain rfl := Option.some.inj hf
        rw [hQ]; exact Ct.zret hx hb hr (by decide) hlocks hAe hP hD hS dX2_hasRange_38
      · have hf := if_f hf hc
        refine lv_iload_n hx hb dX2_hasRange_26 rfl (lv_at hl 3 rfl) ?_
        refine lv_iload_n hx hb dX2_hasRange_27 rfl (lv_at hl 0 rfl) ?_
        refine lv_iload_n hx hb dX2_hasRange_28 rfl (lv_at hl 2 rfl) ?_
        refine lv_isub hx hb dX2_hasRange_29 ?_
        refine lv_icmp_gt (tgt := 37) hx hb dX2_hasRange_30 (by decide) (fun hc => ?_) (fun hc => ?_)
        · have hf := if_t hf hc
          refine lv_iconst (v := (0 : Int32)) hx hb dX2_hasRange_37 (by decide) ?_
          obtain rfl := Option.some.inj hf
          rw [hQ]; exact Ct.zret hx hb hr (by decide) hlocks hAe hP hD hS dX2_hasRange_38
        · have hf := if_f hf hc
          refine lv_iconst (v := (1 : Int32)) hx hb dX2_hasRange_33 (by decide) ?_
          refine lv_goto (tgt := 38) hx hb dX2_hasRange_34 (by decide) ?_
          obtain rfl := Option.some.inj hf
          rw [hQ]; exact Ct.zret hx hb hr (by decide) hlocks hAe hP hD hS dX2_hasRange_38
def fX2_putLowest (E : Sh) (a1 : Int32) (a2 : Int32) : Option (Sh) := if E.2.1 = (8 : Int32) then (o1 (fX6_put 40 E.1 a1 a2.toInt8.toInt32) (fun f103 => some (f103, E.2.1, E.2.2))) else (if E.2.1 = (16 : Int32) then (o1 (fX6_put 40 E.1 a1 a2.toInt16.toInt32) (fun f102 => some (f102, E.2.1, E.2.2))) else (o1 (fX6_put 40 E.1 a1 a2) (fun f101 => some (f101, E.2.1, E.2.2))))
theorem q_X2_putLowest : yX2_putLowest.cls = RX2 ∧ yX2_putLowest.cls ≠ "java/lang/invoke/MethodHandle" ∧ yX2_putLowest.cls ≠ "java/lang/invoke/VarHandle" ∧ (parseMethodDescriptor yX2_putLowest.desc).map (fun d => d.parameters.length) = some 2 := by decide +kernel
theorem i_X2_putLowest_X2 : ∀ w ∈ u_ws RX2 TX2 3, w ∈ wsX2_putLowest := fun _ h => List.mem_cons_of_mem _ (List.mem_append_right _ (h))
set_option maxHeartbeats 4000000 in
set_option maxRecDepth 100000 in
theorem c_X2_putLowest (l : Launch) (g : gG) (e0 e1 : Nat) (E : Sh) (a1 : Int32) (a2 : Int32) {E' : Sh} (hf : fX2_putLowest E a1 a2 = some E') : Ct l yX2_putLowest wsX2_putLowest (rmm 1 22) g (wSh g e0 e1 E) (wSh g e0 e1 (E')) [.ref e0, .int a1, .int a2] none := by
  refine Ct.mk (by decide) rfl (Nat.le_of_ble_eq_true rfl) ?_
  intro p e s m args below meth c A ls hx hb hr hml hts hown hlocks hA hE hP hD hS hl hAe
  obtain ⟨Qx, hQ⟩ : ∃ Qx : State → Prop, Qx = MQ below (QcG g (wSh g e0 e1 E) (wSh g e0 e1 (E')) none s.heap.size) args s 0 0 A := ⟨_, rfl⟩
  rw [← hQ]
  have hown : s.vm.findClass RX2 = some m.cls := hown
  have hl : lv_has ls 3 [(0, .ref e0), (1, .int a1), (2, .int a2)] := hl
  have w1 := hts (.fieldLink RX2 15 "RainVault$Sheet" "bits" "I") (List.mem_of_getElem? (i := 1) rfl)
  have w2 := hts (.fieldLink RX2 9 "RainVault$Sheet" "numbers" "[I") (List.mem_of_getElem? (i := 2) rfl)
  have w3 := hts (.initialized RX6) (List.mem_of_getElem? (i := 4) rfl)
  have w4 := hts (.static yX6_put) (List.mem_of_getElem? (i := 3) rfl)
  unfold fX2_putLowest at hf
  refine lv_aload_n hx hb dX2_putLowest_0 rfl (lv_at hl 0 rfl) ?_
  refine va_get (D := g.1) (ci := 2) (v := .int E.2.1) (C := RX2) (T := TX2) (N := 3) hx hb hts i_X2_putLowest_X2 hown hE.1 hP 0 rfl rfl 1 (by decide) w1 (fun _ h9 => h9) rfl dX2_putLowest_1 ?_
  refine lv_bipush (v := (8 : Int32)) hx hb dX2_putLowest_4 (by decide) ?_
  refine lv_icmp_ne (tgt := 22) hx hb dX2_putLowest_6 (by decide) (fun hc => ?_) (fun hc => ?_)
  · have hf := if_f hf hc
    refine lv_aload_n hx hb dX2_putLowest_22 rfl (lv_at hl 0 rfl) ?_
    refine va_get (D := g.1) (ci := 2) (v := .int E.2.1) (C := RX2) (T := TX2) (N := 3) hx hb hts i_X2_putLowest_X2 hown hE.1 hP 0 rfl rfl 1 (by decide) w1 (fun _ h9 => h9) rfl dX2_putLowest_23 ?_
    refine lv_bipush (v := (16 : Int32)) hx hb dX2_putLowest_26 (by decide) ?_
    refine lv_icmp_ne (tgt := 44) hx hb dX2_putLowest_28 (by decide) (fun hc => ?_) (fun hc => ?_)
    · have hf := if_f hf hc
      refine lv_aload_n hx hb dX2_putLowest_44 rfl (lv_at hl 0 rfl) ?_
      refine va_get (D := g.1) (ci := 2) (v := .ref e1) (C := RX2) (T := TX2) (N := 3) hx hb hts i_X2_putLowest_X2 hown hE.1 hP 0 rfl rfl 0 (by decide) w2 (fun _ h9 => h9) rfl dX2_putLowest_45 ?_
      refine lv_iload_n hx hb dX2_putLowest_48 rfl (lv_at hl 1 rfl) ?_
      refine lv_iload_n hx hb dX2_putLowest_49 rfl (lv_at hl 2 rfl) ?_
      obtain ⟨f101, hg, hf⟩ := o1_s hf
      refine Ct.callSN (ws' := wSh g e0 e1 (f101, E.2.1, E.2.2)) (As := [.ref e1, .int a1, .int a2]) (rest := []) (st1 := []) (c_X6_put l g e1 40 E.1 a1 a2 hg) (⟨va_cnB 3 hts gX2_putLowest_X6_put_n28 rfl rfl rfl (hE.2.1 _ (List.mem_of_getElem? (i := 42) rfl)) w3 q_X6_put.2 ⟨Nat.le_of_ble_eq_true rfl, Nat.le_of_ble_eq_true rfl⟩, w4, trivial⟩) ⟨hx, hb, hml, hown, hts⟩ hE hP hD hS hA [1] rfl rfl rfl rfl rfl hl.1 rfl rfl (Nat.le_of_ble_eq_true rfl) dX2_putLowest_50 (fun H locs hP hD hS => ?_)
      obtain rfl := Option.some.inj hf
      rw [hQ]; exact Ct.vret hx hb hr hlocks hAe hP hD hS dX2_putLowest_53
    · have hf := if_t hf hc
      refine lv_aload_n hx hb dX2_putLowest_31 rfl (lv_at hl 0 rfl) ?_
      refine va_get (D := g.1) (ci := 2) (v := .ref e1) (C := RX2) (T := TX2) (N := 3) hx hb hts i_X2_putLowest_X2 hown hE.1 hP 0 rfl rfl 0 (by decide) w2 (fun _ h9 => h9) rfl dX2_putLowest_32 ?_
      refine lv_iload_n hx hb dX2_putLowest_35 rfl (lv_at hl 1 rfl) ?_
      refine lv_iload_n hx hb dX2_putLowest_36 rfl (lv_at hl 2 rfl) ?_
      refine lv_i2s (v := a2.toInt16.toInt32) hx hb dX2_putLowest_37 rfl ?_
      obtain ⟨f102, hg, hf⟩ := o1_s hf
      refine Ct.callSN (ws' := wSh g e0 e1 (f102, E.2.1, E.2.2)) (As := [.ref e1, .int a1, .int a2.toInt16.toInt32]) (rest := []) (st1 := []) (c_X6_put l g e1 40 E.1 a1 a2.toInt16.toInt32 hg) (⟨va_cnB 3 hts gX2_putLowest_X6_put_n28 rfl rfl rfl (hE.2.1 _ (List.mem_of_getElem? (i := 42) rfl)) w3 q_X6_put.2 ⟨Nat.le_of_ble_eq_true rfl, Nat.le_of_ble_eq_true rfl⟩, w4, trivial⟩) ⟨hx, hb, hml, hown, hts⟩ hE hP hD hS hA [1] rfl rfl rfl rfl rfl hl.1 rfl rfl (Nat.le_of_ble_eq_true rfl) dX2_putLowest_38 (fun H locs hP hD hS => ?_)
      refine lv_goto (tgt := 53) hx hb dX2_putLowest_41 (by decide) ?_
      obtain rfl := Option.some.inj hf
      rw [hQ]; exact Ct.vret hx hb hr hlocks hAe hP hD hS dX2_putLowest_53
  · have hf := if_t hf hc
    refine lv_aload_n hx hb dX2_putLowest_9 rfl (lv_at hl 0 rfl) ?_
    refine va_get (D := g.1) (ci := 2) (v := .ref e1) (C := RX2) (T := TX2) (N := 3) hx hb hts i_X2_putLowest_X2 hown hE.1 hP 0 rfl rfl 0 (by decide) w2 (fun _ h9 => h9) rfl dX2_putLowest_10 ?_
    refine lv_iload_n hx hb dX2_putLowest_13 rfl (lv_at hl 1 rfl) ?_
    refine lv_iload_n hx hb dX2_putLowest_14 rfl (lv_at hl 2 rfl) ?_
    refine lv_i2b (v := a2.toInt8.toInt32) hx hb dX2_putLowest_15 rfl ?_
    obtain ⟨f103, hg, hf⟩ := o1_s hf
    refine Ct.callSN (ws' := wSh g e0 e1 (f103, E.2.1, E.2.2)) (As := [.ref e1, .int a1, .int a2.toInt8.toInt32]) (rest := []) (st1 := []) (c_X6_put l g e1 40 E.1 a1 a2.toInt8.toInt32 hg) (⟨va_cnB 3 hts gX2_putLowest_X6_put_n28 rfl rfl rfl (hE.2.1 _ (List.mem_of_getElem? (i := 42) rfl)) w3 q_X6_put.2 ⟨Nat.le_of_ble_eq_true rfl, Nat.le_of_ble_eq_true rfl⟩, w4, trivial⟩) ⟨hx, hb, hml, hown, hts⟩ hE hP hD hS hA [1] rfl rfl rfl rfl rfl hl.1 rfl rfl (Nat.le_of_ble_eq_true rfl) dX2_putLowest_16 (fun H locs hP hD hS => ?_)
    refine lv_goto (tgt := 53) hx hb dX2_putLowest_19 (by decide) ?_
    obtain rfl := Option.some.inj hf
    rw [hQ]; exact Ct.vret hx hb hr hlocks hAe hP hD hS dX2_putLowest_53
def fX3_begin (S : Sv) (R : Rf) (N : Rf) (a1 : Int32) : Option (Sv × Rf) := o1 (fX1_become R N) (fun R101 => o1 (fX1_keepLevels R101 48 S.2.1 (0 : Int32)) (fun f102 => some ((S.1, f102, S.2.2.1, a1, S.2.2.2.2.1, S.2.2.2.2.2.1, S.2.2.2.2.2.2), R101)))
theorem q_X3_begin : yX3_begin.cls = RX3 ∧ yX3_begin.cls ≠ "java/lang/invoke/MethodHandle" ∧ yX3_begin.cls ≠ "java/lang/invoke/VarHandle" ∧ (parseMethodDescriptor yX3_begin.desc).map (fun d => d.parameters.length) = some 2 := by decide +kernel
theorem i_X3_begin_X3 : ∀ w ∈ u_ws RX3 TX3 8, w ∈ wsX3_begin := fun _ h => List.mem_cons_of_mem _ (List.mem_append_left _ (List.mem_append_right _ (h)))
set_option maxHeartbeats 4000000 in
set_option maxRecDepth 100000 in
theorem c_X3_begin (l : Launch) (g : gG) (s0 s1 s2 s3 h0 h1 h2 h3 i0 i1 i2 i3 : Nat) (S : Sv) (R : Rf) (N : Rf) (a1 : Int32) {S' : Sv} {R' : Rf} (hf : fX3_begin S R N a1 = some (S', R')) : Ct l yX3_begin wsX3_begin (rmm 3 102) g (wSv2 g s0 s1 s2 s3 h0 h1 h2 h3 i0 i1 i2 i3 S R N) (wSv2 g s0 s1 s2 s3 h0 h1 h2 h3 i0 i1 i2 i3 (S') (R') N) [.ref s0, .ref i0, .int a1] none := by
  refine Ct.mk (by decide) rfl (Nat.le_of_ble_eq_true rfl) ?_
  intro p e s m args below meth c A ls hx hb hr hml hts hown hlocks hA hE hP hD hS hl hAe
  obtain ⟨Qx, hQ⟩ : ∃ Qx : State → Prop, Qx = MQ below (QcG g (wSv2 g s0 s1 s2 s3 h0 h1 h2 h3 i0 i1 i2 i3 S R N) (wSv2 g s0 s1 s2 s3 h0 h1 h2 h3 i0 i1 i2 i3 (S') (R') N) none s.heap.size) args s 0 0 A := ⟨_, rfl⟩
  rw [← hQ]
  have hown : s.vm.findClass RX3 = some m.cls := hown
  have hl : lv_has ls 3 [(0, .ref s0), (1, .ref i0), (2, .int a1)] := hl
  have w1 := hts (.fieldLink RX3 34 "RainVault$Survey" "trial" "LRainVault$Roof;") (List.mem_of_getElem? (i := 1) rfl)
  have w2 := hts (.fieldLink RX3 21 "RainVault$Survey" "hours" "I") (List.mem_of_getElem? (i := 2) rfl)
  have w3 := hts (.fieldLink RX3 15 "RainVault$Survey" "levels" "[I") (List.mem_of_getElem? (i := 3) rfl)
  unfold fX3_begin at hf
  refine lv_aload_n hx hb dX3_begin_0 rfl (lv_at hl 0 rfl) ?_
  refine va_get (D := g.1) (ci := 3) (v := .ref h0) (C := RX3) (T := TX3) (N := 8) hx hb hts i_X3_begin_X3 hown hE.1 hP 0 rfl rfl 0 (by decide) w1 (fun _ h9 => h9) rfl dX3_begin_1 ?_
  refine lv_aload_n hx hb dX3_begin_4 rfl (lv_at hl 1 rfl) ?_
  obtain ⟨R101, hg, hf⟩ := o1_s hf
  refine Ct.callV (ws' := wSv2 g s0 s1 s2 s3 h0 h1 h2 h3 i0 i1 i2 i3 S R101 N) (As := [.ref i0]) (rest := []) (st1 := []) (c_X1_become l g h0 h1 h2 h3 i0 i1 i2 i3 R N hg) (cwV 1 hts gX3_begin_X1_become rfl rfl rfl q_X1_become ⟨Nat.le_of_ble_eq_true rfl, Nat.le_of_ble_eq_true rfl⟩) ⟨hx, hb, hml, hown, hts⟩ hE hP hD hS hA [4, 5, 6, 7, 8, 9, 10, 11] rfl rfl rfl rfl 1 4 rfl rfl rfl rfl hl.1 rfl rfl (Nat.le_of_ble_eq_true rfl) dX3_begin_5 (fun H locs hP hD hS => ?_)
  refine lv_aload_n hx hb dX3_begin_8 rfl (lv_at hl 0 rfl) ?_
  refine lv_iload_n hx hb dX3_begin_9 rfl (lv_at hl 2 rfl) ?_
  refine va_put (D := g.1) (ci := 3) (v := .int a1) (ty := .int) (C := RX3) (T := TX3) (N := 8) hx hb hts i_X3_begin_X3 tyX3 tyX3_ok nmX3 hown hE.1 hP hD hS 0 rfl rfl 4 (by decide) w2 (fun _ h9 => h9) rfl (by decide +kernel) rfl rfl (Nat.le_of_ble_eq_true rfl) dX3_begin_10 (fun H locs hP hD hS => ?_)
  have hP : va_P g.1 vwK (wSv2 g s0 s1 s2 s3 h0 h1 h2 h3 i0 i1 i2 i3 (S.1, S.2.1, S.2.2.1, a1, S.2.2.2.2.1, S.2.2.2.2.2.1, S.2.2.2.2.2.2) R101 N) H := hP
  have hD : va_D A (wSv2 g s0 s1 s2 s3 h0 h1 h2 h3 i0 i1 i2 i3 (S.1, S.2.1, S.2.2.1, a1, S.2.2.2.2.1, S.2.2.2.2.2.1, S.2.2.2.2.2.2) R101 N) := hD
  refine lv_aload_n hx hb dX3_begin_13 rfl (lv_at hl 0 rfl) ?_
  refine va_get (D := g.1) (ci := 3) (v := .ref h0) (C := RX3) (T := TX3) (N := 8) hx hb hts i_X3_begin_X3 hown hE.1 hP 0 rfl rfl 0 (by decide) w1 (fun _ h9 => h9) rfl dX3_begin_14 ?_
  refine lv_aload_n hx hb dX3_begin_17 rfl (lv_at hl 0 rfl) ?_
  refine va_get (D := g.1) (ci := 3) (v := .ref s2) (C := RX3) (T := TX3) (N := 8) hx hb hts i_X3_begin_X3 hown hE.1 hP 0 rfl rfl 2 (by decide) w3 (fun _ h9 => h9) rfl dX3_begin_18 ?_
  refine lv_iconst (v := (0 : Int32)) hx hb dX3_begin_21 (by decide) ?_
  obtain ⟨f102, hg, hf⟩ := o1_s hf
  refine Ct.callV (ws' := wSv2 g s0 s1 s2 s3 h0 h1 h2 h3 i0 i1 i2 i3 (S.1, f102, S.2.2.1, a1, S.2.2.2.2.1, S.2.2.2.2.2.1, S.2.2.2.2.2.2) R101 N) (As := [.ref s2, .int (0 : Int32)]) (rest := []) (st1 := []) (c_X1_keepLevels l g h0 h1 h2 h3 s2 R101 48 S.2.1 (0 : Int32) hg) (cwV 2 hts gX3_begin_X1_keepLevels rfl rfl rfl q_X1_keepLevels ⟨Nat.le_of_ble_eq_true rfl, Nat.le_of_ble_eq_true rfl⟩) ⟨hx, hb, hml, hown, hts⟩ hE hP hD hS hA [4, 5, 6, 7, 2] rfl rfl rfl rfl 1 4 rfl rfl rfl rfl hl.1 rfl rfl (Nat.le_of_ble_eq_true rfl) dX3_begin_22 (fun H locs hP hD hS => ?_)
  obtain ⟨rfl, rfl⟩ := some_p2 hf
  rw [hQ]; exact Ct.vret hx hb hr hlocks hAe hP hD hS dX3_begin_25
def fX3_howMany_L4 (S : Sv) (kx : Int32 → Option (Int32)) : Nat → Int32 → Int32 → Option (Int32)
  | 0, _, _ => none
  | k + 1, x1, x2 => if S.2.2.2.1 ≤ x2 then (kx x1) else (fX3_howMany_L4 S kx k (x1 * (5 : Int32)) (x2 + (1 : Int32)))
def fX3_howMany (S : Sv) : Option (Int32) := fX3_howMany_L4 S (fun x101 => some x101) fu (1 : Int32) (0 : Int32)
theorem q_X3_howMany : yX3_howMany.cls = RX3 ∧ yX3_howMany.cls ≠ "java/lang/invoke/MethodHandle" ∧ yX3_howMany.cls ≠ "java/lang/invoke/VarHandle" ∧ (parseMethodDescriptor yX3_howMany.desc).map (fun d => d.parameters.length) = some 0 := by decide +kernel
theorem i_X3_howMany_X3 : ∀ w ∈ u_ws RX3 TX3 8, w ∈ wsX3_howMany := fun _ h => List.mem_cons_of_mem _ (List.mem_append_right _ (h))
set_option maxHeartbeats 4000000 in
set_option maxRecDepth 100000 in
theorem c_X3_howMany (l : Launch) (g : gG) (s0 s1 s2 s3 h0 h1 h2 h3 : Nat) (S : Sv) (R : Rf) {r : Int32} (hf : fX3_howMany S = some r) : Ct l yX3_howMany wsX3_howMany (rmm 0 0) g (wSv g s0 s1 s2 s3 h0 h1 h2 h3 S R) (wSv g s0 s1 s2 s3 h0 h1 h2 h3 S R) [.ref s0] (some (.int r)) := by
  refine Ct.mk (by decide) rfl (Nat.le_of_ble_eq_true rfl) ?_
  intro p e s m args below meth c A ls hx hb hr hml hts hown hlocks hA hE hP hD hS hl hAe
  obtain ⟨Qx, hQ⟩ : ∃ Qx : State → Prop, Qx = MQ below (QcG g (wSv g s0 s1 s2 s3 h0 h1 h2 h3 S R) (wSv g s0 s1 s2 s3 h0 h1 h2 h3 S R) (some (.int r)) s.heap.size) args s 0 0 A := ⟨_, rfl⟩
  rw [← hQ]
  have hown : s.vm.findClass RX3 = some m.cls := hown
  have hl : lv_has ls 3 [(0, .ref s0)] := hl
  have w1 := hts (.fieldLink RX3 21 "RainVault$Survey" "hours" "I") (List.mem_of_getElem? (i := 1) rfl)
  have L4 : ∀ (kx : Int32 → Option (Int32)) (k : Nat) (x1 : Int32) (x2 : Int32) (H : Heap) (locs : List Loc) (ls : Array Slot), fX3_howMany_L4 S kx k x1 x2 = some r → va_P g.1 vwK (wSv g s0 s1 s2 s3 h0 h1 h2 h3 S R) H → va_D A (wSv g s0 s1 s2 s3 h0 h1 h2 h3 S R) → va_S A s.heap H locs → lv_has ls 3 [(0, .ref s0), (1, .int x1), (2, .int x2)] → (∀ (x1 : Int32) (H : Heap) (locs : List Loc) (ls : Array Slot), kx x1 = some r → va_P g.1 vwK (wSv g s0 s1 s2 s3 h0 h1 h2 h3 S R) H → va_D A (wSv g s0 s1 s2 s3 h0 h1 h2 h3 S R) → va_S A s.heap H locs → lv_has ls 3 [(1, .int x1)] → W p l e (rmm 0 0) s m args below meth c H locs 0 0 Qx (F0 m 22 ls [])) → W p l e (rmm 0 0) s m args below meth c H locs 0 0 Qx (F0 m 4 ls []) := by
    intro kx k
    induction k with
    | zero => intro x1 x2 H locs ls hf; exact nomatch (show (none : Option (Int32)) = some _ from hf)
    | succ k ih =>
      intro x1 x2 H locs ls hf hP hD hS hl hk
      rw [fX3_howMany_L4] at hf
      refine lv_iload_n hx hb dX3_howMany_4 rfl (lv_at hl 2 rfl) ?_
      refine lv_aload_n hx hb dX3_howMany_5 rfl (lv_at hl 0 rfl) ?_
      refine va_get (D := g.1) (ci := 3) (v := .int S.2.2.2.1) (C := RX3) (T := TX3) (N := 8) hx hb hts i_X3_howMany_X3 hown hE.1 hP 0 rfl rfl 4 (by decide) w1 (fun _ h9 => h9) rfl dX3_howMany_6 ?_
      refine lv_icmp_ge (tgt := 22) hx hb dX3_howMany_9 (by decide) (fun hc => ?_) (fun hc => ?_)
      · have hf := if_t hf hc
        exact hk _ _ _ _  hf hP hD hS (lv_sub hl [1] rfl)
      · have hf := if_f hf hc
        refine lv_iload_n hx hb dX3_howMany_12 rfl (lv_at hl 1 rfl) ?_
        refine lv_iconst (v := (5 : Int32)) hx hb dX3_howMany_13 (by decide) ?_
        refine lv_imul hx hb dX3_howMany_14 ?_
        refine lv_istore_n (lv' := [(1, .int (x1 * (5 : Int32))), (0, .ref s0), (2, .int x2)]) hx hb dX3_howMany_15 rfl hl (by decide) rfl (fun ls hl => ?_)
        refine lv_iinc (v := (x2 + (1 : Int32))) (lv' := [(2, .int (x2 + (1 : Int32))), (1, .int (x1 * (5 : Int32))), (0, .ref s0)]) hx hb dX3_howMany_16 hl (k := 2) rfl rfl (by decide) rfl (fun ls hl => ?_)
        refine lv_goto (tgt := 4) hx hb dX3_howMany_19 (by decide) ?_
        exact ih _ _ _ _ _  hf hP hD hS (lv_sub hl [2, 1, 0] rfl) hk
  unfold fX3_howMany at hf
  refine lv_iconst (v := (1 : Int32)) hx hb dX3_howMany_0 (by decide) ?_
  refine lv_istore_n (lv' := [(1, .int (1 : Int32)), (0, .ref s0)]) hx hb dX3_howMany_1 rfl hl (by decide) rfl (fun ls hl => ?_)
  refine lv_iconst (v := (0 : Int32)) hx hb dX3_howMany_2 (by decide) ?_
  refine lv_istore_n (lv' := [(2, .int (0 : Int32)), (1, .int (1 : Int32)), (0, .ref s0)]) hx hb dX3_howMany_3 rfl hl (by decide) rfl (fun ls hl => ?_)
  refine L4 _ _ _ _ _ _ _  hf hP hD hS (lv_sub hl [2, 1, 0] rfl) (fun x101 H locs ls hf hP hD hS hl => ?_)
  refine lv_iload_n hx hb dX3_howMany_22 rfl (lv_at hl 0 rfl) ?_
  obtain rfl := Option.some.inj hf
  rw [hQ]; exact Ct.iret hx hb hr hlocks hAe hP hD hS dX3_howMany_23
def fX3_passRain_L15 (x1 : Int32) (kx : Sv → Int32 → Option (Sv × Rf)) : Nat → Sv → Int32 → Int32 → Int32 → Option (Sv × Rf)
  | 0, _, _, _, _ => none
  | k + 1, S, x2, x3, x4 => if x4 < 0 then (kx S x2) else (if x1 = 0 then (o1 (fX6_put 5 S.1 x4 (x3 - x3 / (5 : Int32) * (5 : Int32))) (fun f104 => fX3_passRain_L15 x1 kx k (f104, S.2.1, S.2.2.1, S.2.2.2.1, S.2.2.2.2.1, S.2.2.2.2.2.1, S.2.2.2.2.2.2) x4 (x3 / (5 : Int32)) (x4 + (-1 : Int32)))) else (o1 (fX6_at 5 S.1 x4) (fun x105 => if (x3 - x3 / (5 : Int32) * (5 : Int32)) = x105 then (fX3_passRain_L15 x1 kx k S x2 (x3 / (5 : Int32)) (x4 + (-1 : Int32))) else (o1 (fX6_put 5 S.1 x4 (x3 - x3 / (5 : Int32) * (5 : Int32))) (fun f106 => fX3_passRain_L15 x1 kx k (f106, S.2.1, S.2.2.1, S.2.2.2.1, S.2.2.2.2.1, S.2.2.2.2.2.1, S.2.2.2.2.2.2) x4 (x3 / (5 : Int32)) (x4 + (-1 : Int32)))))))
def fX3_passRain_L85 (kx : Sv → Rf → Option (Sv × Rf)) : Nat → Sv → Rf → Int32 → Option (Sv × Rf)
  | 0, _, _, _ => none
  | k + 1, S, R, x4 => if S.2.2.2.1 ≤ x4 then (kx S R) else (o1 (fX6_at 5 S.1 x4) (fun x116 => o1 (fX6_sideOf x116) (fun x117 => if x116 = 0 then (o1 (fX1_passHour R x117 (0 : Int32)) (fun R120 => o1 (fX1_keepLevels R120 48 S.2.1 ((x4 + (1 : Int32)) * (8 : Int32))) (fun f121 => fX3_passRain_L85 kx k (S.1, f121, S.2.2.1, S.2.2.2.1, S.2.2.2.2.1, S.2.2.2.2.2.1, S.2.2.2.2.2.2) R120 (x4 + (1 : Int32))))) else (o1 (fX1_passHour R x117 (3 : Int32)) (fun R118 => o1 (fX1_keepLevels R118 48 S.2.1 ((x4 + (1 : Int32)) * (8 : Int32))) (fun f119 => fX3_passRain_L85 kx k (S.1, f119, S.2.2.1, S.2.2.2.1, S.2.2.2.2.1, S.2.2.2.2.2.1, S.2.2.2.2.2.2) R118 (x4 + (1 : Int32))))))))
def fX3_passRain (S : Sv) (R : Rf) (a1 : Int32) : Option (Sv × Rf) := fX3_passRain_L15 a1 (fun S107 x108 => o1 (fX1_takeLevels R 48 S107.2.1 (x108 * (8 : Int32))) (fun R109 => fX3_passRain_L85 (fun S122 R123 => some (S122, R123)) fu S107 R109 x108)) fu S S.2.2.2.1 a1 (S.2.2.2.1 - (1 : Int32))
theorem q_X3_passRain : yX3_passRain.cls = RX3 ∧ yX3_passRain.cls ≠ "java/lang/invoke/MethodHandle" ∧ yX3_passRain.cls ≠ "java/lang/invoke/VarHandle" ∧ (parseMethodDescriptor yX3_passRain.desc).map (fun d => d.parameters.length) = some 1 := by decide +kernel
theorem i_X3_passRain_X3 : ∀ w ∈ u_ws RX3 TX3 8, w ∈ wsX3_passRain := fun _ h => List.mem_cons_of_mem _ (List.mem_append_left _ (List.mem_append_right _ (h)))
set_option maxHeartbeats 4000000 in
set_option maxRecDepth 100000 in
theorem c_X3_passRain (l : Launch) (g : gG) (s0 s1 s2 s3 h0 h1 h2 h3 : Nat) (S : Sv) (R : Rf) (a1 : Int32) {S' : Sv} {R' : Rf} (hf : fX3_passRain S R a1 = some (S', R')) : Ct l yX3_passRain wsX3_passRain (rmm 4 93) g (wSv g s0 s1 s2 s3 h0 h1 h2 h3 S R) (wSv g s0 s1 s2 s3 h0 h1 h2 h3 (S') (R')) [.ref s0, .int a1] none := by
  refine Ct.mk (by decide) rfl (Nat.le_of_ble_eq_true rfl) ?_
  intro p e s m args below meth c A ls hx hb hr hml hts hown hlocks hA hE hP hD hS hl hAe
  obtain ⟨Qx, hQ⟩ : ∃ Qx : State → Prop, Qx = MQ below (QcG g (wSv g s0 s1 s2 s3 h0 h1 h2 h3 S R) (wSv g s0 s1 s2 s3 h0 h1 h2 h3 (S') (R')) none s.heap.size) args s 0 0 A := ⟨_, rfl⟩
  rw [← hQ]
  have hown : s.vm.findClass RX3 = some m.cls := hown
  have hl : lv_has ls 6 [(0, .ref s0), (1, .int a1)] := hl
  have w1 := hts (.fieldLink RX3 21 "RainVault$Survey" "hours" "I") (List.mem_of_getElem? (i := 1) rfl)
  have w2 := hts (.fieldLink RX3 9 "RainVault$Survey" "signs" "[I") (List.mem_of_getElem? (i := 2) rfl)
  have w3 := hts (.initialized RX6) (List.mem_of_getElem? (i := 6) rfl)
  have w4 := hts (.static yX6_put) (List.mem_of_getElem? (i := 8) rfl)
  have w5 := hts (.static yX6_at) (List.mem_of_getElem? (i := 5) rfl)
  have w6 := hts (.fieldLink RX3 34 "RainVault$Survey" "trial" "LRainVault$Roof;") (List.mem_of_getElem? (i := 3) rfl)
  have w7 := hts (.fieldLink RX3 15 "RainVault$Survey" "levels" "[I") (List.mem_of_getElem? (i := 4) rfl)
  have w8 := hts (.static yX6_sideOf) (List.mem_of_getElem? (i := 21) rfl)
  have L15 : ∀ (R : Rf) (x1 : Int32) (kx : Sv → Int32 → Option (Sv × Rf)) (k : Nat) (S : Sv) (x2 : Int32) (x3 : Int32) (x4 : Int32) (H : Heap) (locs : List Loc) (ls : Array Slot), fX3_passRain_L15 x1 kx k S x2 x3 x4 = some (S', R') → va_P g.1 vwK (wSv g s0 s1 s2 s3 h0 h1 h2 h3 S R) H → va_D A (wSv g s0 s1 s2 s3 h0 h1 h2 h3 S R) → va_S A s.heap H locs → lv_has ls 6 [(0, .ref s0), (1, .int x1), (2, .int x2), (3, .int x3), (4, .int x4)] → (∀ (S : Sv) (x2 : Int32) (H : Heap) (locs : List Loc) (ls : Array Slot), kx S x2 = some (S', R') → va_P g.1 vwK (wSv g s0 s1 s2 s3 h0 h1 h2 h3 S R) H → va_D A (wSv g s0 s1 s2 s3 h0 h1 h2 h3 S R) → va_S A s.heap H locs → lv_has ls 6 [(0, .ref s0), (2, .int x2)] → W p l e (rmm 4 93) s m args below meth c H locs 0 0 Qx (F0 m 67 ls [])) → W p l e (rmm 4 93) s m args below meth c H locs 0 0 Qx (F0 m 15 ls []) := by
    intro R x1 kx k
    induction k with
    | zero => intro S x2 x3 x4 H locs ls hf; exact nomatch (show (none : Option (Sv × Rf)) = some _ from hf)
    | succ k ih =>
      intro S x2 x3 x4 H locs ls hf hP hD hS hl hk
      rw [fX3_passRain_L15] at hf
      refine lv_iload hx hb dX3_passRain_15 (lv_at hl 4 rfl) ?_
      refine lv_if_lt (tgt := 67) hx hb dX3_passRain_17 (by decide) (fun hc => ?_) (fun hc => ?_)
      · have hf := if_t hf hc
        exact hk _ _ _ _ _  hf hP hD hS (lv_sub hl [0, 2] rfl)
      · have hf := if_f hf hc
        refine lv_iload_n hx hb dX3_passRain_20 rfl (lv_at hl 3 rfl) ?_
        refine lv_iconst (v := (5 : Int32)) hx hb dX3_passRain_21 (by decide) ?_
        refine lv_irem hx hb dX3_passRain_22 (by decide) ?_
        refine lv_istore (lv' := [(5, .int (x3 - x3 / (5 : Int32) * (5 : Int32))), (0, .ref s0), (1, .int x1), (2, .int x2), (3, .int x3), (4, .int x4)]) hx hb dX3_passRain_23 hl (by decide) rfl (fun ls hl => ?_)
        refine lv_iload_n hx hb dX3_passRain_25 rfl (lv_at hl 4 rfl) ?_
        refine lv_iconst (v := (5 : Int32)) hx hb dX3_passRain_26 (by decide) ?_
        refine lv_idiv hx hb dX3_passRain_27 (by decide) ?_
        refine lv_istore_n (lv' := [(3, .int (x3 / (5 : Int32))), (5, .int (x3 - x3 / (5 : Int32) * (5 : Int32))), (0, .ref s0), (1, .int x1), (2, .int x2), (4, .int x4)]) hx hb dX3_passRain_28 rfl hl (by decide) rfl (fun ls hl => ?_)
        refine lv_iload_n hx hb dX3_passRain_29 rfl (lv_at hl 3 rfl) ?_
        refine lv_if_eq (tgt := 47) hx hb dX3_passRain_30 (by decide) (fun hc => ?_) (fun hc => ?_)
        · have hf := if_t hf hc
          refine lv_aload_n hx hb dX3_passRain_47 rfl (lv_at hl 2 rfl) ?_
          refine va_get (D := g.1) (ci := 3) (v := .ref s1) (C := RX3) (T := TX3) (N := 8) hx hb hts i_X3_passRain_X3 hown hE.1 hP 0 rfl rfl 1 (by decide) w2 (fun _ h9 => h9) rfl dX3_passRain_48 ?_
          refine lv_iload hx hb dX3_passRain_51 (lv_at hl 5 rfl) ?_
          refine lv_iload hx hb dX3_passRain_53 (lv_at hl 1 rfl) ?_
          obtain ⟨f104, hg, hf⟩ := o1_s hf
          refine Ct.callSN (ws' := wSv g s0 s1 s2 s3 h0 h1 h2 h3 (f104, S.2.1, S.2.2.1, S.2.2.2.1, S.2.2.2.2.1, S.2.2.2.2.2.1, S.2.2.2.2.2.2) R) (As := [.ref s1, .int x4, .int (x3 - x3 / (5 : Int32) * (5 : Int32))]) (rest := []) (st1 := []) (c_X6_put l g s1 5 S.1 x4 (x3 - x3 / (5 : Int32) * (5 : Int32)) hg) (⟨va_cnB 3 hts gX3_passRain_X6_put_n52 rfl rfl rfl (hE.2.1 _ (List.mem_of_getElem? (i := 32) rfl)) w3 q_X6_put.2 ⟨Nat.le_of_ble_eq_true rfl, Nat.le_of_ble_eq_true rfl⟩, w4, trivial⟩) ⟨hx, hb, hml, hown, hts⟩ hE hP hD hS hA [1] rfl rfl rfl rfl rfl hl.1 rfl rfl (Nat.le_of_ble_eq_true rfl) dX3_passRain_55 (fun H locs hP hD hS => ?_)
          refine lv_iload hx hb dX3_passRain_58 (lv_at hl 5 rfl) ?_
          refine lv_istore_n (lv' := [(2, .int x4), (3, .int (x3 / (5 : Int32))), (5, .int (x3 - x3 / (5 : Int32) * (5 : Int32))), (0, .ref s0), (1, .int x1), (4, .int x4)]) hx hb dX3_passRain_60 rfl hl (by decide) rfl (fun ls hl => ?_)
          refine lv_iinc (v := (x4 + (-1 : Int32))) (lv' := [(4, .int (x4 + (-1 : Int32))), (2, .int x4), (3, .int (x3 / (5 : Int32))), (5, .int (x3 - x3 / (5 : Int32) * (5 : Int32))), (0, .ref s0), (1, .int x1)]) hx hb dX3_passRain_61 hl (k := 5) rfl rfl (by decide) rfl (fun ls hl => ?_)
          refine lv_goto (tgt := 15) hx hb dX3_passRain_64 (by decide) ?_
          exact ih _ _ _ _ _ _ _  hf hP hD hS (lv_sub hl [4, 5, 1, 2, 0] rfl) hk
        · have hf := if_f hf hc
          refine lv_iload hx hb dX3_passRain_33 (lv_at hl 1 rfl) ?_
          refine lv_aload_n hx hb dX3_passRain_35 rfl (lv_at hl 2 rfl) ?_
          refine va_get (D := g.1) (ci := 3) (v := .ref s1) (C := RX3) (T := TX3) (N := 8) hx hb hts i_X3_passRain_X3 hown hE.1 hP 0 rfl rfl 1 (by decide) w2 (fun _ h9 => h9) rfl dX3_passRain_36 ?_
          refine lv_iload hx hb dX3_passRain_39 (lv_at hl 5 rfl) ?_
          obtain ⟨x105, hg, hf⟩ := o1_s hf
          refine Ct.callSN (ws' := wSv g s0 s1 s2 s3 h0 h1 h2 h3 S R) (As := [.ref s1, .int x4]) (rest := [.int (x3 - x3 / (5 : Int32) * (5 : Int32))]) (st1 := [.int x105, .int (x3 - x3 / (5 : Int32) * (5 : Int32))]) (c_X6_at l g s1 5 S.1 x4 hg) (⟨va_cnB 2 hts gX3_passRain_X6_at_n48 rfl rfl rfl (hE.2.1 _ (List.mem_of_getElem? (i := 31) rfl)) w3 q_X6_at.2 ⟨Nat.le_of_ble_eq_true rfl, Nat.le_of_ble_eq_true rfl⟩, w5, trivial⟩) ⟨hx, hb, hml, hown, hts⟩ hE hP hD hS hA [1] rfl rfl rfl rfl rfl hl.1 rfl rfl (Nat.le_of_ble_eq_true rfl) dX3_passRain_41 (fun H locs hP hD hS => ?_)
          refine lv_icmp_eq (tgt := 61) hx hb dX3_passRain_44 (by decide) (fun hc => ?_) (fun hc => ?_)
          · have hf := if_t hf hc
            refine lv_iinc (v := (x4 + (-1 : Int32))) (lv' := [(4, .int (x4 + (-1 : Int32))), (3, .int (x3 / (5 : Int32))), (5, .int (x3 - x3 / (5 : Int32) * (5 : Int32))), (0, .ref s0), (1, .int x1), (2, .int x2)]) hx hb dX3_passRain_61 hl (k := 5) rfl rfl (by decide) rfl (fun ls hl => ?_)
            refine lv_goto (tgt := 15) hx hb dX3_passRain_64 (by decide) ?_
            exact ih _ _ _ _ _ _ _  hf hP hD hS (lv_sub hl [3, 4, 5, 1, 0] rfl) hk
          · have hf := if_f hf hc
            refine lv_aload_n hx hb dX3_passRain_47 rfl (lv_at hl 2 rfl) ?_
            refine va_get (D := g.1) (ci := 3) (v := .ref s1) (C := RX3) (T := TX3) (N := 8) hx hb hts i_X3_passRain_X3 hown hE.1 hP 0 rfl rfl 1 (by decide) w2 (fun _ h9 => h9) rfl dX3_passRain_48 ?_
            refine lv_iload hx hb dX3_passRain_51 (lv_at hl 5 rfl) ?_
            refine lv_iload hx hb dX3_passRain_53 (lv_at hl 1 rfl) ?_
            obtain ⟨f106, hg, hf⟩ := o1_s hf
            refine Ct.callSN (ws' := wSv g s0 s1 s2 s3 h0 h1 h2 h3 (f106, S.2.1, S.2.2.1, S.2.2.2.1, S.2.2.2.2.1, S.2.2.2.2.2.1, S.2.2.2.2.2.2) R) (As := [.ref s1, .int x4, .int (x3 - x3 / (5 : Int32) * (5 : Int32))]) (rest := []) (st1 := []) (c_X6_put l g s1 5 S.1 x4 (x3 - x3 / (5 : Int32) * (5 : Int32)) hg) (⟨va_cnB 3 hts gX3_passRain_X6_put_n52 rfl rfl rfl (hE.2.1 _ (List.mem_of_getElem? (i := 32) rfl)) w3 q_X6_put.2 ⟨Nat.le_of_ble_eq_true rfl, Nat.le_of_ble_eq_true rfl⟩, w4, trivial⟩) ⟨hx, hb, hml, hown, hts⟩ hE hP hD hS hA [1] rfl rfl rfl rfl rfl hl.1 rfl rfl (Nat.le_of_ble_eq_true rfl) dX3_passRain_55 (fun H locs hP hD hS => ?_)
            refine lv_iload hx hb dX3_passRain_58 (lv_at hl 5 rfl) ?_
            refine lv_istore_n (lv' := [(2, .int x4), (3, .int (x3 / (5 : Int32))), (5, .int (x3 - x3 / (5 : Int32) * (5 : Int32))), (0, .ref s0), (1, .int x1), (4, .int x4)]) hx hb dX3_passRain_60 rfl hl (by decide) rfl (fun ls hl => ?_)
            refine lv_iinc (v := (x4 + (-1 : Int32))) (lv' := [(4, .int (x4 + (-1 : Int32))), (2, .int x4), (3, .int (x3 / (5 : Int32))), (5, .int (x3 - x3 / (5 : Int32) * (5 : Int32))), (0, .ref s0), (1, .int x1)]) hx hb dX3_passRain_61 hl (k := 5) rfl rfl (by decide) rfl (fun ls hl => ?_)
            refine lv_goto (tgt := 15) hx hb dX3_passRain_64 (by decide) ?_
            exact ih _ _ _ _ _ _ _  hf hP hD hS (lv_sub hl [4, 5, 1, 2, 0] rfl) hk
  have L85 : ∀ (kx : Sv → Rf → Option (Sv × Rf)) (k : Nat) (S : Sv) (R : Rf) (x4 : Int32) (H : Heap) (locs : List Loc) (ls : Array Slot), fX3_passRain_L85 kx k S R x4 = some (S', R') → va_P g.1 vwK (wSv g s0 s1 s2 s3 h0 h1 h2 h3 S R) H → va_D A (wSv g s0 s1 s2 s3 h0 h1 h2 h3 S R) → va_S A s.heap H locs → lv_has ls 6 [(0, .ref s0), (4, .int x4)] → (∀ (S : Sv) (R : Rf) (H : Heap) (locs : List Loc) (ls : Array Slot), kx S R = some (S', R') → va_P g.1 vwK (wSv g s0 s1 s2 s3 h0 h1 h2 h3 S R) H → va_D A (wSv g s0 s1 s2 s3 h0 h1 h2 h3 S R) → va_S A s.heap H locs → lv_has ls 6 [] → W p l e (rmm 4 93) s m args below meth c H locs 0 0 Qx (F0 m 151 ls [])) → W p l e (rmm 4 93) s m args below meth c H locs 0 0 Qx (F0 m 85 ls []) := by
    intro kx k
    induction k with
    | zero => intro S R x4 H locs ls hf; exact nomatch (show (none : Option (Sv × Rf)) = some _ from hf)
    | succ k ih =>
      intro S R x4 H locs ls hf hP hD hS hl hk
      rw [fX3_passRain_L85] at hf
      refine lv_iload hx hb dX3_passRain_85 (lv_at hl 1 rfl) ?_
      refine lv_aload_n hx hb dX3_passRain_87 rfl (lv_at hl 0 rfl) ?_
      refine va_get (D := g.1) (ci := 3) (v := .int S.2.2.2.1) (C := RX3) (T := TX3) (N := 8) hx hb hts i_X3_passRain_X3 hown hE.1 hP 0 rfl rfl 4 (by decide) w1 (fun _ h9 => h9) rfl dX3_passRain_88 ?_
      refine lv_icmp_ge (tgt := 151) hx hb dX3_passRain_91 (by decide) (fun hc => ?_) (fun hc => ?_)
      · have hf := if_t hf hc
        exact hk _ _ _ _ _  hf hP hD hS (lv_sub hl [] rfl)
      · have hf := if_f hf hc
        refine lv_aload_n hx hb dX3_passRain_94 rfl (lv_at hl 0 rfl) ?_
        refine va_get (D := g.1) (ci := 3) (v := .ref s1) (C := RX3) (T := TX3) (N := 8) hx hb hts i_X3_passRain_X3 hown hE.1 hP 0 rfl rfl 1 (by decide) w2 (fun _ h9 => h9) rfl dX3_passRain_95 ?_
        refine lv_iload hx hb dX3_passRain_98 (lv_at hl 1 rfl) ?_
        obtain ⟨x116, hg, hf⟩ := o1_s hf
        refine Ct.callSN (ws' := wSv g s0 s1 s2 s3 h0 h1 h2 h3 S R) (As := [.ref s1, .int x4]) (rest := []) (st1 := [.int x116]) (c_X6_at l g s1 5 S.1 x4 hg) (⟨va_cnB 2 hts gX3_passRain_X6_at_n48 rfl rfl rfl (hE.2.1 _ (List.mem_of_getElem? (i := 31) rfl)) w3 q_X6_at.2 ⟨Nat.le_of_ble_eq_true rfl, Nat.le_of_ble_eq_true rfl⟩, w5, trivial⟩) ⟨hx, hb, hml, hown, hts⟩ hE hP hD hS hA [1] rfl rfl rfl rfl rfl hl.1 rfl rfl (Nat.le_of_ble_eq_true rfl) dX3_passRain_100 (fun H locs hP hD hS => ?_)
        refine lv_istore (lv' := [(5, .int x116), (0, .ref s0), (4, .int x4)]) hx hb dX3_passRain_103 hl (by decide) rfl (fun ls hl => ?_)
        refine lv_aload_n hx hb dX3_passRain_105 rfl (lv_at hl 1 rfl) ?_
        refine va_get (D := g.1) (ci := 3) (v := .ref h0) (C := RX3) (T := TX3) (N := 8) hx hb hts i_X3_passRain_X3 hown hE.1 hP 0 rfl rfl 0 (by decide) w6 (fun _ h9 => h9) rfl dX3_passRain_106 ?_
        refine lv_iload hx hb dX3_passRain_109 (lv_at hl 0 rfl) ?_
        obtain ⟨x117, hg, hf⟩ := o1_s hf
        refine Ct.callSN (ws' := wSv g s0 s1 s2 s3 h0 h1 h2 h3 S R) (As := [.int x116]) (rest := [.ref h0]) (st1 := [.int x117, .ref h0]) (c_X6_sideOf l g x116 hg) (⟨va_cnB 1 hts gX3_passRain_X6_sideOf_n59 rfl rfl rfl (hE.2.1 _ (List.mem_of_getElem? (i := 33) rfl)) w3 q_X6_sideOf.2 ⟨Nat.le_of_ble_eq_true rfl, Nat.le_of_ble_eq_true rfl⟩, w8, trivial⟩) ⟨hx, hb, hml, hown, hts⟩ hE hP hD hS hA [] rfl rfl rfl rfl rfl hl.1 rfl rfl (Nat.le_of_ble_eq_true rfl) dX3_passRain_111 (fun H locs hP hD hS => ?_)
        refine lv_iload hx hb dX3_passRain_114 (lv_at hl 0 rfl) ?_
        refine lv_if_ne (tgt := 123) hx hb dX3_passRain_116 (by decide) (fun hc => ?_) (fun hc => ?_)
        · have hf := if_f hf hc
          refine lv_iconst (v := (3 : Int32)) hx hb dX3_passRain_123 (by decide) ?_
          obtain ⟨R118, hg, hf⟩ := o1_s hf
          refine Ct.callV (ws' := wSv g s0 s1 s2 s3 h0 h1 h2 h3 S R118) (As := [.int x117, .int (3 : Int32)]) (rest := []) (st1 := []) (c_X1_passHour l g h0 h1 h2 h3 R x117 (3 : Int32) hg) (cwV 2 hts gX3_passRain_X1_passHour rfl rfl rfl q_X1_passHour ⟨Nat.le_of_ble_eq_true rfl, Nat.le_of_ble_eq_true rfl⟩) ⟨hx, hb, hml, hown, hts⟩ hE hP hD hS hA [4, 5, 6, 7] rfl rfl rfl rfl 1 4 rfl rfl rfl rfl hl.1 rfl rfl (Nat.le_of_ble_eq_true rfl) dX3_passRain_124 (fun H locs hP hD hS => ?_)
          refine lv_aload_n hx hb dX3_passRain_127 rfl (lv_at hl 1 rfl) ?_
          refine va_get (D := g.1) (ci := 3) (v := .ref h0) (C := RX3) (T := TX3) (N := 8) hx hb hts i_X3_passRain_X3 hown hE.1 hP 0 rfl rfl 0 (by decide) w6 (fun _ h9 => h9) rfl dX3_passRain_128 ?_
          refine lv_aload_n hx hb dX3_passRain_131 rfl (lv_at hl 1 rfl) ?_
          refine va_get (D := g.1) (ci := 3) (v := .ref s2) (C := RX3) (T := TX3) (N := 8) hx hb hts i_X3_passRain_X3 hown hE.1 hP 0 rfl rfl 2 (by decide) w7 (fun _ h9 => h9) rfl dX3_passRain_132 ?_
          refine lv_iload hx hb dX3_passRain_135 (lv_at hl 2 rfl) ?_
          refine lv_iconst (v := (1 : Int32)) hx hb dX3_passRain_137 (by decide) ?_
          refine lv_iadd hx hb dX3_passRain_138 ?_
          refine lv_bipush (v := (8 : Int32)) hx hb dX3_passRain_139 (by decide) ?_
          refine lv_imul hx hb dX3_passRain_141 ?_
          obtain ⟨f119, hg, hf⟩ := o1_s hf
          refine Ct.callV (ws' := wSv g s0 s1 s2 s3 h0 h1 h2 h3 (S.1, f119, S.2.2.1, S.2.2.2.1, S.2.2.2.2.1, S.2.2.2.2.2.1, S.2.2.2.2.2.2) R118) (As := [.ref s2, .int ((x4 + (1 : Int32)) * (8 : Int32))]) (rest := []) (st1 := []) (c_X1_keepLevels l g h0 h1 h2 h3 s2 R118 48 S.2.1 ((x4 + (1 : Int32)) * (8 : Int32)) hg) (cwV 2 hts gX3_passRain_X1_keepLevels rfl rfl rfl q_X1_keepLevels ⟨Nat.le_of_ble_eq_true rfl, Nat.le_of_ble_eq_true rfl⟩) ⟨hx, hb, hml, hown, hts⟩ hE hP hD hS hA [4, 5, 6, 7, 2] rfl rfl rfl rfl 1 4 rfl rfl rfl rfl hl.1 rfl rfl (Nat.le_of_ble_eq_true rfl) dX3_passRain_142 (fun H locs hP hD hS => ?_)
          refine lv_iinc (v := (x4 + (1 : Int32))) (lv' := [(4, .int (x4 + (1 : Int32))), (5, .int x116), (0, .ref s0)]) hx hb dX3_passRain_145 hl (k := 2) rfl rfl (by decide) rfl (fun ls hl => ?_)
          refine lv_goto (tgt := 85) hx hb dX3_passRain_148 (by decide) ?_
          exact ih _ _ _ _ _ _  hf hP hD hS (lv_sub hl [2, 0] rfl) hk
        · have hf := if_t hf hc
          refine lv_iconst (v := (0 : Int32)) hx hb dX3_passRain_119 (by decide) ?_
          refine lv_goto (tgt := 124) hx hb dX3_passRain_120 (by decide) ?_
          obtain ⟨R120, hg, hf⟩ := o1_s hf
          refine Ct.callV (ws' := wSv g s0 s1 s2 s3 h0 h1 h2 h3 S R120) (As := [.int x117, .int (0 : Int32)]) (rest := []) (st1 := []) (c_X1_passHour l g h0 h1 h2 h3 R x117 (0 : Int32) hg) (cwV 2 hts gX3_passRain_X1_passHour rfl rfl rfl q_X1_passHour ⟨Nat.le_of_ble_eq_true rfl, Nat.le_of_ble_eq_true rfl⟩) ⟨hx, hb, hml, hown, hts⟩ hE hP hD hS hA [4, 5, 6, 7] rfl rfl rfl rfl 1 4 rfl rfl rfl rfl hl.1 rfl rfl (Nat.le_of_ble_eq_true rfl) dX3_passRain_124 (fun H locs hP hD hS => ?_)
          refine lv_aload_n hx hb dX3_passRain_127 rfl (lv_at hl 1 rfl) ?_
          refine va_get (D := g.1) (ci := 3) (v := .ref h0) (C := RX3) (T := TX3) (N := 8) hx hb hts i_X3_passRain_X3 hown hE.1 hP 0 rfl rfl 0 (by decide) w6 (fun _ h9 => h9) rfl dX3_passRain_128 ?_
          refine lv_aload_n hx hb dX3_passRain_131 rfl (lv_at hl 1 rfl) ?_
          refine va_get (D := g.1) (ci := 3) (v := .ref s2) (C := RX3) (T := TX3) (N := 8) hx hb hts i_X3_passRain_X3 hown hE.1 hP 0 rfl rfl 2 (by decide) w7 (fun _ h9 => h9) rfl dX3_passRain_132 ?_
          refine lv_iload hx hb dX3_passRain_135 (lv_at hl 2 rfl) ?_
          refine lv_iconst (v := (1 : Int32)) hx hb dX3_passRain_137 (by decide) ?_
          refine lv_iadd hx hb dX3_passRain_138 ?_
          refine lv_bipush (v := (8 : Int32)) hx hb dX3_passRain_139 (by decide) ?_
          refine lv_imul hx hb dX3_passRain_141 ?_
          obtain ⟨f121, hg, hf⟩ := o1_s hf
          refine Ct.callV (ws' := wSv g s0 s1 s2 s3 h0 h1 h2 h3 (S.1, f121, S.2.2.1, S.2.2.2.1, S.2.2.2.2.1, S.2.2.2.2.2.1, S.2.2.2.2.2.2) R120) (As := [.ref s2, .int ((x4 + (1 : Int32)) * (8 : Int32))]) (rest := []) (st1 := []) (c_X1_keepLevels l g h0 h1 h2 h3 s2 R120 48 S.2.1 ((x4 + (1 : Int32)) * (8 : Int32)) hg) (cwV 2 hts gX3_passRain_X1_keepLevels rfl rfl rfl q_X1_keepLevels ⟨Nat.le_of_ble_eq_true rfl, Nat.le_of_ble_eq_true rfl⟩) ⟨hx, hb, hml, hown, hts⟩ hE hP hD hS hA [4, 5, 6, 7, 2] rfl rfl rfl rfl 1 4 rfl rfl rfl rfl hl.1 rfl rfl (Nat.le_of_ble_eq_true rfl) dX3_passRain_142 (fun H locs hP hD hS => ?_)
          refine lv_iinc (v := (x4 + (1 : Int32))) (lv' := [(4, .int (x4 + (1 : Int32))), (5, .int x116), (0, .ref s0)]) hx hb dX3_passRain_145 hl (k := 2) rfl rfl (by decide) rfl (fun ls hl => ?_)
          refine lv_goto (tgt := 85) hx hb dX3_passRain_148 (by decide) ?_
          exact ih _ _ _ _ _ _  hf hP hD hS (lv_sub hl [2, 0] rfl) hk
  unfold fX3_passRain at hf
  refine lv_aload_n hx hb dX3_passRain_0 rfl (lv_at hl 0 rfl) ?_
  refine va_get (D := g.1) (ci := 3) (v := .int S.2.2.2.1) (C := RX3) (T := TX3) (N := 8) hx hb hts i_X3_passRain_X3 hown hE.1 hP 0 rfl rfl 4 (by decide) w1 (fun _ h9 => h9) rfl dX3_passRain_1 ?_
  refine lv_istore_n (lv' := [(2, .int S.2.2.2.1), (0, .ref s0), (1, .int a1)]) hx hb dX3_passRain_4 rfl hl (by decide) rfl (fun ls hl => ?_)
  refine lv_iload_n hx hb dX3_passRain_5 rfl (lv_at hl 2 rfl) ?_
  refine lv_istore_n (lv' := [(3, .int a1), (2, .int S.2.2.2.1), (0, .ref s0), (1, .int a1)]) hx hb dX3_passRain_6 rfl hl (by decide) rfl (fun ls hl => ?_)
  refine lv_aload_n hx hb dX3_passRain_7 rfl (lv_at hl 2 rfl) ?_
  refine va_get (D := g.1) (ci := 3) (v := .int S.2.2.2.1) (C := RX3) (T := TX3) (N := 8) hx hb hts i_X3_passRain_X3 hown hE.1 hP 0 rfl rfl 4 (by decide) w1 (fun _ h9 => h9) rfl dX3_passRain_8 ?_
  refine lv_iconst (v := (1 : Int32)) hx hb dX3_passRain_11 (by decide) ?_
  refine lv_isub hx hb dX3_passRain_12 ?_
  refine lv_istore (lv' := [(4, .int (S.2.2.2.1 - (1 : Int32))), (3, .int a1), (2, .int S.2.2.2.1), (0, .ref s0), (1, .int a1)]) hx hb dX3_passRain_13 hl (by decide) rfl (fun ls hl => ?_)
  refine L15 _ _ _ _ _ _ _ _ _ _ _  hf hP hD hS (lv_sub hl [3, 4, 2, 1, 0] rfl) (fun S107 x108 H locs ls hf hP hD hS hl => ?_)
  refine lv_aload_n hx hb dX3_passRain_67 rfl (lv_at hl 0 rfl) ?_
  refine va_get (D := g.1) (ci := 3) (v := .ref h0) (C := RX3) (T := TX3) (N := 8) hx hb hts i_X3_passRain_X3 hown hE.1 hP 0 rfl rfl 0 (by decide) w6 (fun _ h9 => h9) rfl dX3_passRain_68 ?_
  refine lv_aload_n hx hb dX3_passRain_71 rfl (lv_at hl 0 rfl) ?_
  refine va_get (D := g.1) (ci := 3) (v := .ref s2) (C := RX3) (T := TX3) (N := 8) hx hb hts i_X3_passRain_X3 hown hE.1 hP 0 rfl rfl 2 (by decide) w7 (fun _ h9 => h9) rfl dX3_passRain_72 ?_
  refine lv_iload_n hx hb dX3_passRain_75 rfl (lv_at hl 1 rfl) ?_
  refine lv_bipush (v := (8 : Int32)) hx hb dX3_passRain_76 (by decide) ?_
  refine lv_imul hx hb dX3_passRain_78 ?_
  obtain ⟨R109, hg, hf⟩ := o1_s hf
  refine Ct.callV (ws' := wSv g s0 s1 s2 s3 h0 h1 h2 h3 S107 R109) (As := [.ref s2, .int (x108 * (8 : Int32))]) (rest := []) (st1 := []) (c_X1_takeLevels l g h0 h1 h2 h3 s2 R 48 S107.2.1 (x108 * (8 : Int32)) hg) (cwV 2 hts gX3_passRain_X1_takeLevels rfl rfl rfl q_X1_takeLevels ⟨Nat.le_of_ble_eq_true rfl, Nat.le_of_ble_eq_true rfl⟩) ⟨hx, hb, hml, hown, hts⟩ hE hP hD hS hA [4, 5, 6, 7, 2] rfl rfl rfl rfl 1 4 rfl rfl rfl rfl hl.1 rfl rfl (Nat.le_of_ble_eq_true rfl) dX3_passRain_79 (fun H locs hP hD hS => ?_)
  refine lv_iload_n hx hb dX3_passRain_82 rfl (lv_at hl 1 rfl) ?_
  refine lv_istore (lv' := [(4, .int x108), (0, .ref s0), (2, .int x108)]) hx hb dX3_passRain_83 hl (by decide) rfl (fun ls hl => ?_)
  refine L85 _ _ _ _ _ _ _ _  hf hP hD hS (lv_sub hl [1, 0] rfl) (fun S122 R123 H locs ls hf hP hD hS hl => ?_)
  obtain ⟨rfl, rfl⟩ := some_p2 hf
  rw [hQ]; exact Ct.vret hx hb hr hlocks hAe hP hD hS dX3_passRain_151
