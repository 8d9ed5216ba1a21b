def fX5_isLetter (a1 : Int32) : Option (Int32) := if a1 < (97 : Int32) then (some (0 : Int32)) else (if (122 : Int32) < a1 then (some (0 : Int32)) else (some (1 : Int32)))
theorem q_X5_isLetter : yX5_isLetter.cls = RX5 ∧ yX5_isLetter.cls ≠ "java/lang/invoke/MethodHandle" ∧ yX5_isLetter.cls ≠ "java/lang/invoke/VarHandle" ∧ (parseMethodDescriptor yX5_isLetter.desc).map (fun d => d.parameters.length) = some 1 := by decide +kernel
set_option maxHeartbeats 4000000 in
set_option maxRecDepth 100000 in
theorem c_X5_isLetter (l : Launch) (g : gG) (a1 : Int32) {r : Int32} (hf : fX5_isLetter a1 = some r) : Ct l yX5_isLetter wsX5_isLetter (rmm 0 0) g (wNil g  ) (wNil g  ) [.int a1] (some (.int r)) := by
  refine Ct.mk (by decide) rfl (Nat.le_of_ble_eq_true rfl) ?_
  intro p e s m args below meth c A ls hx hb hr hml hts hown hlocks hA hE hP hD hS hl hAe
  obtain ⟨Qx, hQ⟩ : ∃ Qx : State → Prop, Qx = MQ below (QcG g (wNil g  ) (wNil g  ) (some (.int r)) s.heap.size) args s 0 0 A := ⟨_, rfl⟩
  rw [← hQ]
  have hown : s.vm.findClass RX5 = some m.cls := hown
  have hl : lv_has ls 1 [(0, .int a1)] := hl
  unfold fX5_isLetter at hf
  refine lv_iload_n hx hb dX5_isLetter_0 rfl (lv_at hl 0 rfl) ?_
  refine lv_bipush (v := (97 : Int32)) hx hb dX5_isLetter_1 (by decide) ?_
  refine lv_icmp_lt (tgt := 16) hx hb dX5_isLetter_3 (by decide) (fun hc => ?_) (fun hc => ?_)
  · have hf := if_t hf hc
    refine lv_iconst (v := (0 : Int32)) hx hb dX5_isLetter_16 (by decide) ?_
    obtain rfl := Option.some.inj hf
    rw [hQ]; exact Ct.zret hx hb hr (by decide) hlocks hAe hP hD hS dX5_isLetter_17
  · have hf := if_f hf hc
    refine lv_iload_n hx hb dX5_isLetter_6 rfl (lv_at hl 0 rfl) ?_
    refine lv_bipush (v := (122 : Int32)) hx hb dX5_isLetter_7 (by decide) ?_
    refine lv_icmp_gt (tgt := 16) hx hb dX5_isLetter_9 (by decide) (fun hc => ?_) (fun hc => ?_)
    · have hf := if_t hf hc
      refine lv_iconst (v := (0 : Int32)) hx hb dX5_isLetter_16 (by decide) ?_
      obtain rfl := Option.some.inj hf
      rw [hQ]; exact Ct.zret hx hb hr (by decide) hlocks hAe hP hD hS dX5_isLetter_17
    · have hf := if_f hf hc
      refine lv_iconst (v := (1 : Int32)) hx hb dX5_isLetter_12 (by decide) ?_
      refine lv_goto (tgt := 17) hx hb dX5_isLetter_13 (by decide) ?_
      obtain rfl := Option.some.inj hf
      rw [hQ]; exact Ct.zret hx hb hr (by decide) hlocks hAe hP hD hS dX5_isLetter_17
def fX5_letters (a1 : Int32) : Option (Nat) := if a1 = (1 : Int32) then (some 1) else (if a1 = (2 : Int32) then (some 2) else (if a1 = (3 : Int32) then (some 3) else (if a1 = (4 : Int32) then (some 4) else (if a1 = (5 : Int32) then (some 5) else (if a1 = (6 : Int32) then (some 6) else (if a1 = (7 : Int32) then (some 7) else (if a1 = (8 : Int32) then (some 8) else (if a1 = (9 : Int32) then (some 9) else (if a1 = (10 : Int32) then (some 10) else (if a1 = (11 : Int32) then (some 11) else (if a1 = (12 : Int32) then (some 12) else (if a1 = (13 : Int32) then (some 13) else (if a1 = (14 : Int32) then (some 14) else (some 0))))))))))))))
theorem q_X5_letters : yX5_letters.cls = RX5 ∧ yX5_letters.cls ≠ "java/lang/invoke/MethodHandle" ∧ yX5_letters.cls ≠ "java/lang/invoke/VarHandle" ∧ (parseMethodDescriptor yX5_letters.desc).map (fun d => d.parameters.length) = some 1 := by decide +kernel
set_option maxHeartbeats 4000000 in
set_option maxRecDepth 100000 in
theorem c_X5_letters (l : Launch) (g : gG) (a1 : Int32) {r : Nat} (hf : fX5_letters a1 = some r) : Ct l yX5_letters wsX5_letters (rmm 0 0) g (wNil g  ) (wNil g  ) [.int a1] (some (.ref (g.2.2 (10 + r)))) := by
  refine Ct.mk (by decide) rfl (Nat.le_of_ble_eq_true rfl) ?_
  intro p e s m args below meth c A ls hx hb hr hml hts hown hlocks hA hE hP hD hS hl hAe
  obtain ⟨Qx, hQ⟩ : ∃ Qx : State → Prop, Qx = MQ below (QcG g (wNil g  ) (wNil g  ) (some (.ref (g.2.2 (10 + r)))) s.heap.size) args s 0 0 A := ⟨_, rfl⟩
  rw [← hQ]
  have hown : s.vm.findClass RX5 = some m.cls := hown
  have hl : lv_has ls 1 [(0, .int a1)] := hl
  unfold fX5_letters at hf
  refine lv_iload_n hx hb dX5_letters_0 rfl (lv_at hl 0 rfl) ?_
  by_cases hc1 : a1 = (1 : Int32)
  · have hf := if_t hf hc1
    refine lv_tableIn (off := 71) (tgt := 72) hx hb dX5_letters_1 (ts_in _ hc1 (by decide)) (ts_hi _ hc1 (by decide)) (ts_of _ hc1 (by decide)) (by decide) ?_
    refine va_ldcS hx hb hown (EV.tx4 hE) dX5_letters_72 ?_
    obtain rfl := Option.some.inj hf
    rw [hQ]; exact Ct.aret hx hb hr (Or.inl ⟨_, rfl⟩) hlocks hAe hP hD hS dX5_letters_74
  · have hf := if_f hf hc1
    by_cases hc2 : a1 = (2 : Int32)
    · have hf := if_t hf hc2
      refine lv_tableIn (off := 74) (tgt := 75) hx hb dX5_letters_1 (ts_in _ hc2 (by decide)) (ts_hi _ hc2 (by decide)) (ts_of _ hc2 (by decide)) (by decide) ?_
      refine va_ldcS hx hb hown (EV.tx5 hE) dX5_letters_75 ?_
      obtain rfl := Option.some.inj hf
      rw [hQ]; exact Ct.aret hx hb hr (Or.inl ⟨_, rfl⟩) hlocks hAe hP hD hS dX5_letters_77
    · have hf := if_f hf hc2
      by_cases hc3 : a1 = (3 : Int32)
      · have hf := if_t hf hc3
        refine lv_tableIn (off := 77) (tgt := 78) hx hb dX5_letters_1 (ts_in _ hc3 (by decide)) (ts_hi _ hc3 (by decide)) (ts_of _ hc3 (by decide)) (by decide) ?_
        refine va_ldcS hx hb hown (EV.tx6 hE) dX5_letters_78 ?_
        obtain rfl := Option.some.inj hf
        rw [hQ]; exact Ct.aret hx hb hr (Or.inl ⟨_, rfl⟩) hlocks hAe hP hD hS dX5_letters_80
      · have hf := if_f hf hc3
        by_cases hc4 : a1 = (4 : Int32)
        · have hf := if_t hf hc4
          refine lv_tableIn (off := 80) (tgt := 81) hx hb dX5_letters_1 (ts_in _ hc4 (by decide)) (ts_hi _ hc4 (by decide)) (ts_of _ hc4 (by decide)) (by decide) ?_
          refine va_ldcS hx hb hown (EV.tx7 hE) dX5_letters_81 ?_
          obtain rfl := Option.some.inj hf
          rw [hQ]; exact Ct.aret hx hb hr (Or.inl ⟨_, rfl⟩) hlocks hAe hP hD hS dX5_letters_83
        · have hf := if_f hf hc4
          by_cases hc5 : a1 = (5 : Int32)
          · have hf := if_t hf hc5
            refine lv_tableIn (off := 83) (tgt := 84) hx hb dX5_letters_1 (ts_in _ hc5 (by decide)) (ts_hi _ hc5 (by decide)) (ts_of _ hc5 (by decide)) (by decide) ?_
            refine va_ldcS hx hb hown (EV.tx8 hE) dX5_letters_84 ?_
            obtain rfl := Option.some.inj hf
            rw [hQ]; exact Ct.aret hx hb hr (Or.inl ⟨_, rfl⟩) hlocks hAe hP hD hS dX5_letters_86
          · have hf := if_f hf hc5
            by_cases hc6 : a1 = (6 : Int32)
            · have hf := if_t hf hc6
              refine lv_tableIn (off := 86) (tgt := 87) hx hb dX5_letters_1 (ts_in _ hc6 (by decide)) (ts_hi _ hc6 (by decide)) (ts_of _ hc6 (by decide)) (by decide) ?_
              refine va_ldcS hx hb hown (EV.tx9 hE) dX5_letters_87 ?_
              obtain rfl := Option.some.inj hf
              rw [hQ]; exact Ct.aret hx hb hr (Or.inl ⟨_, rfl⟩) hlocks hAe hP hD hS dX5_letters_89
            · have hf := if_f hf hc6
              by_cases hc7 : a1 = (7 : Int32)
              · have hf := if_t hf hc7
                refine lv_tableIn (off := 89) (tgt := 90) hx hb dX5_letters_1 (ts_in _ hc7 (by decide)) (ts_hi _ hc7 (by decide)) (ts_of _ hc7 (by decide)) (by decide) ?_
                refine va_ldcS hx hb hown (EV.tx10 hE) dX5_letters_90 ?_
                obtain rfl := Option.some.inj hf
                rw [hQ]; exact Ct.aret hx hb hr (Or.inl ⟨_, rfl⟩) hlocks hAe hP hD hS dX5_letters_92
              · have hf := if_f hf hc7
                by_cases hc8 : a1 = (8 : Int32)
                · have hf := if_t hf hc8
                  refine lv_tableIn (off := 92) (tgt := 93) hx hb dX5_letters_1 (ts_in _ hc8 (by decide)) (ts_hi _ hc8 (by decide)) (ts_of _ hc8 (by decide)) (by decide) ?_
                  refine va_ldcS hx hb hown (EV.tx11 hE) dX5_letters_93 ?_
                  obtain rfl := Option.some.inj hf
                  rw [hQ]; exact Ct.aret hx hb hr (Or.inl ⟨_, rfl⟩) hlocks hAe hP hD hS dX5_letters_95
                · have hf := if_f hf hc8
                  by_cases hc9 : a1 = (9 : Int32)
                  · have hf := if_t hf hc9
                    refine lv_tableIn (off := 95) (tgt := 96) hx hb dX5_letters_1 (ts_in _ hc9 (by decide)) (ts_hi _ hc9 (by decide)) (ts_of _ hc9 (by decide)) (by decide) ?_
                    refine va_ldcS hx hb hown (EV.tx12 hE) dX5_letters_96 ?_
                    obtain rfl := Option.some.inj hf
                    rw [hQ]; exact Ct.aret hx hb hr (Or.inl ⟨_, rfl⟩) hlocks hAe hP hD hS dX5_letters_98
                  · have hf := if_f hf hc9
                    by_cases hc10 : a1 = (10 : Int32)
                    · have hf := if_t hf hc10
                      refine lv_tableIn (off := 98) (tgt := 99) hx hb dX5_letters_1 (ts_in _ hc10 (by decide)) (ts_hi _ hc10 (by decide)) (ts_of _ hc10 (by decide)) (by decide) ?_
                      refine va_ldcS hx hb hown (EV.tx13 hE) dX5_letters_99 ?_
                      obtain rfl := Option.some.inj hf
                      rw [hQ]; exact Ct.aret hx hb hr (Or.inl ⟨_, rfl⟩) hlocks hAe hP hD hS dX5_letters_101
                    · have hf := if_f hf hc10
                      by_cases hc11 : a1 = (11 : Int32)
                      · have hf := if_t hf hc11
                        refine lv_tableIn (off := 101) (tgt := 102) hx hb dX5_letters_1 (ts_in _ hc11 (by decide)) (ts_hi _ hc11 (by decide)) (ts_of _ hc11 (by decide)) (by decide) ?_
                        refine va_ldcS hx hb hown (EV.tx14 hE) dX5_letters_102 ?_
                        obtain rfl := Option.some.inj hf
                        rw [hQ]; exact Ct.aret hx hb hr (Or.inl ⟨_, rfl⟩) hlocks hAe hP hD hS dX5_letters_104
                      · have hf := if_f hf hc11
                        by_cases hc12 : a1 = (12 : Int32)
                        · have hf := if_t hf hc12
                          refine lv_tableIn (off := 104) (tgt := 105) hx hb dX5_letters_1 (ts_in _ hc12 (by decide)) (ts_hi _ hc12 (by decide)) (ts_of _ hc12 (by decide)) (by decide) ?_
                          refine va_ldcS hx hb hown (EV.tx0 hE) dX5_letters_105 ?_
                          obtain rfl := Option.some.inj hf
                          rw [hQ]; exact Ct.aret hx hb hr (Or.inl ⟨_, rfl⟩) hlocks hAe hP hD hS dX5_letters_107
                        · have hf := if_f hf hc12
                          by_cases hc13 : a1 = (13 : Int32)
                          · have hf := if_t hf hc13
                            refine lv_tableIn (off := 107) (tgt := 108) hx hb dX5_letters_1 (ts_in _ hc13 (by decide)) (ts_hi _ hc13 (by decide)) (ts_of _ hc13 (by decide)) (by decide) ?_
                            refine va_ldcS hx hb hown (EV.tx1 hE) dX5_letters_108 ?_
                            obtain rfl := Option.some.inj hf
                            rw [hQ]; exact Ct.aret hx hb hr (Or.inl ⟨_, rfl⟩) hlocks hAe hP hD hS dX5_letters_110
                          · have hf := if_f hf hc13
                            by_cases hc14 : a1 = (14 : Int32)
                            · have hf := if_t hf hc14
                              refine lv_tableIn (off := 110) (tgt := 111) hx hb dX5_letters_1 (ts_in _ hc14 (by decide)) (ts_hi _ hc14 (by decide)) (ts_of _ hc14 (by decide)) (by decide) ?_
                              refine va_ldcS hx hb hown (EV.tx2 hE) dX5_letters_111 ?_
                              obtain rfl := Option.some.inj hf
                              rw [hQ]; exact Ct.aret hx hb hr (Or.inl ⟨_, rfl⟩) hlocks hAe hP hD hS dX5_letters_113
                            · have hf := if_f hf hc14
                              have hn1 := lv_neT (a := 1) hc1 (by decide)
                              have hn2 := lv_neT (a := 2) hc2 (by decide)
                              have hn3 := lv_neT (a := 3) hc3 (by decide)
                              have hn4 := lv_neT (a := 4) hc4 (by decide)
                              have hn5 := lv_neT (a := 5) hc5 (by decide)
                              have hn6 := lv_neT (a := 6) hc6 (by decide)
                              have hn7 := lv_neT (a := 7) hc7 (by decide)
                              have hn8 := lv_neT (a := 8) hc8 (by decide)
                              have hn9 := lv_neT (a := 9) hc9 (by decide)
                              have hn10 := lv_neT (a := 10) hc10 (by decide)
                              have hn11 := lv_neT (a := 11) hc11 (by decide)
                              have hn12 := lv_neT (a := 12) hc12 (by decide)
                              have hn13 := lv_neT (a := 13) hc13 (by decide)
                              have hn14 := lv_neT (a := 14) hc14 (by decide)
                              refine lv_tableOut (tgt := 114) hx hb dX5_letters_1 (by omega) (by decide) ?_
                              refine va_ldcS hx hb hown (EV.tx3 hE) dX5_letters_114 ?_
                              obtain rfl := Option.some.inj hf
                              rw [hQ]; exact Ct.aret hx hb hr (Or.inl ⟨_, rfl⟩) hlocks hAe hP hD hS dX5_letters_116
def fX5_isFromTo_L17 (j : Nat) (P : Nat → Int32) (x1 : Int32) (kx : Option (Int32)) : Nat → Int32 → Option (Int32)
  | 0, _ => none
  | k + 1, x3 => o1 (fJ0_length_8abf5 j) (fun x105 => if x105 ≤ x3 then (kx) else (o1 (fX6_at 120 P (x1 + x3)) (fun x106 => o1 (fJ0_charAt_5068e j x3) (fun x107 => if x106 = x107 then (fX5_isFromTo_L17 j P x1 kx k (x3 + (1 : Int32))) else (some (0 : Int32))))))
def fX5_isFromTo (K : Tk) (P : Nat → Int32) (a1 : Int32) (j : Nat) : Option (Int32) := o1 (fJ0_length_8abf5 j) (fun x101 => if (K.2.2.2.2 - a1) = x101 then (fX5_isFromTo_L17 j P a1 (some (1 : Int32)) fu (0 : Int32)) else (some (0 : Int32)))
theorem q_X5_isFromTo : yX5_isFromTo.cls = RX5 ∧ yX5_isFromTo.cls ≠ "java/lang/invoke/MethodHandle" ∧ yX5_isFromTo.cls ≠ "java/lang/invoke/VarHandle" ∧ (parseMethodDescriptor yX5_isFromTo.desc).map (fun d => d.parameters.length) = some 2 := by decide +kernel
theorem i_X5_isFromTo_X5 : ∀ w ∈ u_ws RX5 TX5 6, w ∈ wsX5_isFromTo := fun _ h => List.mem_cons_of_mem _ (List.mem_append_right _ (h))
set_option maxHeartbeats 4000000 in
set_option maxRecDepth 100000 in
theorem c_X5_isFromTo (l : Launch) (g : gG) (t0 t1 t2 t3 p0 : Nat) (K : Tk) (P : Nat → Int32) (a1 : Int32) (j : Nat) {r : Int32} (hf : fX5_isFromTo K P a1 j = some r) : Ct l yX5_isFromTo wsX5_isFromTo (rmm 6 221) g (wTk g t0 t1 t2 t3 p0 K P) (wTk g t0 t1 t2 t3 p0 K P) [.ref t0, .int a1, .ref (g.2.2 (10 + j))] (some (.int r)) := by
  refine Ct.mk (by decide) rfl (Nat.le_of_ble_eq_true rfl) ?_
  intro p e s m args below meth c A ls hx hb hr hml hts hown hlocks hA hE hP hD hS hl hAe
  obtain ⟨Qx, hQ⟩ : ∃ Qx : State → Prop, Qx = MQ below (QcG g (wTk g t0 t1 t2 t3 p0 K P) (wTk g t0 t1 t2 t3 p0 K P) (some (.int r)) s.heap.size) args s 0 0 A := ⟨_, rfl⟩
  rw [← hQ]
  have hown : s.vm.findClass RX5 = some m.cls := hown
  have hl : lv_has ls 4 [(0, .ref t0), (1, .int a1), (2, .ref (g.2.2 (10 + j)))] := hl
  have w1 := hts (.fieldLink RX5 25 "RainVault$Tokens" "place" "I") (List.mem_of_getElem? (i := 1) rfl)
  have w2 := hts (.fieldLink RX5 28 "RainVault$Tokens" "tape" "[I") (List.mem_of_getElem? (i := 2) rfl)
  have w3 := hts (.initialized RX6) (List.mem_of_getElem? (i := 16) rfl)
  have w4 := hts (.static yX6_at) (List.mem_of_getElem? (i := 15) rfl)
  have L17 : ∀ (x1 : Int32) (kx : Option (Int32)) (k : Nat) (x3 : Int32) (H : Heap) (locs : List Loc) (ls : Array Slot), fX5_isFromTo_L17 j P x1 kx k x3 = some r → va_P g.1 vwK (wTk g t0 t1 t2 t3 p0 K P) H → va_D A (wTk g t0 t1 t2 t3 p0 K P) → va_S A s.heap H locs → lv_has ls 4 [(0, .ref t0), (1, .int x1), (2, .ref (g.2.2 (10 + j))), (3, .int x3)] → (∀ (H : Heap) (locs : List Loc) (ls : Array Slot), kx = some r → va_P g.1 vwK (wTk g t0 t1 t2 t3 p0 K P) H → va_D A (wTk g t0 t1 t2 t3 p0 K P) → va_S A s.heap H locs → lv_has ls 4 [] → W p l e (rmm 6 221) s m args below meth c H locs 0 0 Qx (F0 m 51 ls [])) → W p l e (rmm 6 221) s m args below meth c H locs 0 0 Qx (F0 m 17 ls []) := by
    intro x1 kx k
    induction k with
    | zero => intro x3 H locs ls hf; exact nomatch (show (none : Option (Int32)) = some _ from hf)
    | succ k ih =>
      intro x3 H locs ls hf hP hD hS hl hk
      rw [fX5_isFromTo_L17] at hf
      refine lv_iload_n hx hb dX5_isFromTo_17 rfl (lv_at hl 3 rfl) ?_
      refine lv_aload_n hx hb dX5_isFromTo_18 rfl (lv_at hl 2 rfl) ?_
      obtain ⟨x105, hg, hf⟩ := o1_s hf
      refine Ct.callR (ws' := wTk g t0 t1 t2 t3 p0 K P) (As := []) (rest := [.int x3]) (st1 := [.int x105, .int x3]) (c_J0_length_8abf5 l g j hg) (cwV 0 hts gX5_isFromTo_J0_length_8abf5 rfl rfl rfl q_J0_length_8abf5 ⟨Nat.le_of_ble_eq_true rfl, Nat.le_of_ble_eq_true rfl⟩) ⟨hx, hb, hml, hown, hts⟩ hE hP hD hS hA [] rfl rfl rfl rfl (hE.recv (jl_len hg) hS) rfl hl.1 rfl rfl (Nat.le_of_ble_eq_true rfl) dX5_isFromTo_19 (fun H locs hP hD hS => ?_)
      refine lv_icmp_ge (tgt := 51) hx hb dX5_isFromTo_22 (by decide) (fun hc => ?_) (fun hc => ?_)
      · have hf := if_t hf hc
        exact hk _ _ _  hf hP hD hS (lv_sub hl [] rfl)
      · have hf := if_f hf hc
        refine lv_aload_n hx hb dX5_isFromTo_25 rfl (lv_at hl 0 rfl) ?_
        refine va_get (D := g.1) (ci := 5) (v := .ref p0) (C := RX5) (T := TX5) (N := 6) hx hb hts i_X5_isFromTo_X5 hown hE.1 hP 0 rfl rfl 0 (by decide) w2 (fun _ h9 => h9) rfl dX5_isFromTo_26 ?_
        refine lv_iload_n hx hb dX5_isFromTo_29 rfl (lv_at hl 1 rfl) ?_
        refine lv_iload_n hx hb dX5_isFromTo_30 rfl (lv_at hl 3 rfl) ?_
        refine lv_iadd hx hb dX5_isFromTo_31 ?_
        obtain ⟨x106, hg, hf⟩ := o1_s hf
        refine Ct.callSN (ws' := wTk g t0 t1 t2 t3 p0 K P) (As := [.ref p0, .int (x1 + x3)]) (rest := []) (st1 := [.int x106]) (c_X6_at l g p0 120 P (x1 + x3) hg) (⟨va_cnB 2 hts gX5_isFromTo_X6_at_n37 rfl rfl rfl (hE.2.1 _ (List.mem_of_getElem? (i := 37) rfl)) w3 q_X6_at.2 ⟨Nat.le_of_ble_eq_true rfl, Nat.le_of_ble_eq_true rfl⟩, w4, trivial⟩) ⟨hx, hb, hml, hown, hts⟩ hE hP hD hS hA [4] rfl rfl rfl rfl rfl hl.1 rfl rfl (Nat.le_of_ble_eq_true rfl) dX5_isFromTo_32 (fun H locs hP hD hS => ?_)
        refine lv_aload_n hx hb dX5_isFromTo_35 rfl (lv_at hl 2 rfl) ?_
        refine lv_iload_n hx hb dX5_isFromTo_36 rfl (lv_at hl 3 rfl) ?_
        obtain ⟨x107, hg, hf⟩ := o1_s hf
        refine Ct.callR (ws' := wTk g t0 t1 t2 t3 p0 K P) (As := [.int x3]) (rest := [.int x106]) (st1 := [.int x107, .int x106]) (c_J0_charAt_5068e l g j x3 hg) (cwV 1 hts gX5_isFromTo_J0_charAt_5068e rfl rfl rfl q_J0_charAt_5068e ⟨Nat.le_of_ble_eq_true rfl, Nat.le_of_ble_eq_true rfl⟩) ⟨hx, hb, hml, hown, hts⟩ hE hP hD hS hA [] rfl rfl rfl rfl (hE.recv (jl_char hg) hS) rfl hl.1 rfl rfl (Nat.le_of_ble_eq_true rfl) dX5_isFromTo_37 (fun H locs hP hD hS => ?_)
        refine lv_icmp_eq (tgt := 45) hx hb dX5_isFromTo_40 (by decide) (fun hc => ?_) (fun hc => ?_)
        · have hf := if_t hf hc
          refine lv_iinc (v := (x3 + (1 : Int32))) (lv' := [(3, .int (x3 + (1 : Int32))), (0, .ref t0), (1, .int x1), (2, .ref (g.2.2 (10 + j)))]) hx hb dX5_isFromTo_45 hl (k := 3) rfl rfl (by decide) rfl (fun ls hl => ?_)
          refine lv_goto (tgt := 17) hx hb dX5_isFromTo_48 (by decide) ?_
          exact ih _ _ _ _  hf hP hD hS (lv_sub hl [1, 2, 3, 0] rfl) hk
        · have hf := if_f hf hc
          refine lv_iconst (v := (0 : Int32)) hx hb dX5_isFromTo_43 (by decide) ?_
          obtain rfl := Option.some.inj hf
          rw [hQ]; exact Ct.zret hx hb hr (by decide) hlocks hAe hP hD hS dX5_isFromTo_44
  unfold fX5_isFromTo at hf
  refine lv_aload_n hx hb dX5_isFromTo_0 rfl (lv_at hl 0 rfl) ?_
  refine va_get (D := g.1) (ci := 5) (v := .int K.2.2.2.2) (C := RX5) (T := TX5) (N := 6) hx hb hts i_X5_isFromTo_X5 hown hE.1 hP 0 rfl rfl 5 (by decide) w1 (fun _ h9 => h9) rfl dX5_isFromTo_1 ?_
  refine lv_iload_n hx hb dX5_isFromTo_4 rfl (lv_at hl 1 rfl) ?_
  refine lv_isub hx hb dX5_isFromTo_5 ?_
  refine lv_aload_n hx hb dX5_isFromTo_6 rfl (lv_at hl 2 rfl) ?_
  obtain ⟨x101, hg, hf⟩ := o1_s hf
  refine Ct.callR (ws' := wTk g t0 t1 t2 t3 p0 K P) (As := []) (rest := [.int (K.2.2.2.2 - a1)]) (st1 := [.int x101, .int (K.2.2.2.2 - a1)]) (c_J0_length_8abf5 l g j hg) (cwV 0 hts gX5_isFromTo_J0_length_8abf5 rfl rfl rfl q_J0_length_8abf5 ⟨Nat.le_of_ble_eq_true rfl, Nat.le_of_ble_eq_true rfl⟩) ⟨hx, hb, hml, hown, hts⟩ hE hP hD hS hA [] rfl rfl rfl rfl (hE.recv (jl_len hg) hS) rfl hl.1 rfl rfl (Nat.le_of_ble_eq_true rfl) dX5_isFromTo_7 (fun H locs hP hD hS => ?_)
  refine lv_icmp_eq (tgt := 15) hx hb dX5_isFromTo_10 (by decide) (fun hc => ?_) (fun hc => ?_)
  · have hf := if_t hf hc
    refine lv_iconst (v := (0 : Int32)) hx hb dX5_isFromTo_15 (by decide) ?_
    refine lv_istore_n (lv' := [(3, .int (0 : Int32)), (0, .ref t0), (1, .int a1), (2, .ref (g.2.2 (10 + j)))]) hx hb dX5_isFromTo_16 rfl hl (by decide) rfl (fun ls hl => ?_)
    refine L17 _ _ _ _ _ _ _  hf hP hD hS (lv_sub hl [1, 2, 3, 0] rfl) (fun H locs ls hf hP hD hS hl => ?_)
    refine lv_iconst (v := (1 : Int32)) hx hb dX5_isFromTo_51 (by decide) ?_
    obtain rfl := Option.some.inj hf
    rw [hQ]; exact Ct.zret hx hb hr (by decide) hlocks hAe hP hD hS dX5_isFromTo_52
  · have hf := if_f hf hc
    refine lv_iconst (v := (0 : Int32)) hx hb dX5_isFromTo_13 (by decide) ?_
    obtain rfl := Option.some.inj hf
    rw [hQ]; exact Ct.zret hx hb hr (by decide) hlocks hAe hP hD hS dX5_isFromTo_14
def fX5_sortOfWord_L2 (K : Tk) (P : Nat → Int32) (x1 : Int32) (kx : Option (Int32)) : Nat → Int32 → Option (Int32)
  | 0, _ => none
  | k + 1, x2 => if (15 : Int32) ≤ x2 then (kx) else (o1 (fX5_letters x2) (fun j103 => o1 (fX5_isFromTo K P x1 j103) (fun x104 => if x104 = 0 then (fX5_sortOfWord_L2 K P x1 kx k (x2 + (1 : Int32))) else (some x2))))
def fX5_sortOfWord (K : Tk) (P : Nat → Int32) (a1 : Int32) : Option (Int32) := fX5_sortOfWord_L2 K P a1 (some (18 : Int32)) fu (0 : Int32)
theorem q_X5_sortOfWord : yX5_sortOfWord.cls = RX5 ∧ yX5_sortOfWord.cls ≠ "java/lang/invoke/MethodHandle" ∧ yX5_sortOfWord.cls ≠ "java/lang/invoke/VarHandle" ∧ (parseMethodDescriptor yX5_sortOfWord.desc).map (fun d => d.parameters.length) = some 1 := by decide +kernel
set_option maxHeartbeats 4000000 in
set_option maxRecDepth 100000 in
theorem c_X5_sortOfWord (l : Launch) (g : gG) (t0 t1 t2 t3 p0 : Nat) (K : Tk) (P : Nat → Int32) (a1 : Int32) {r : Int32} (hf : fX5_sortOfWord K P a1 = some r) : Ct l yX5_sortOfWord wsX5_sortOfWord (rmm 7 244) g (wTk g t0 t1 t2 t3 p0 K P) (wTk g t0 t1 t2 t3 p0 K P) [.ref t0, .int a1] (some (.int r)) := by
  refine Ct.mk (by decide) rfl (Nat.le_of_ble_eq_true rfl) ?_
  intro p e s m args below meth c A ls hx hb hr hml hts hown hlocks hA hE hP hD hS hl hAe
  obtain ⟨Qx, hQ⟩ : ∃ Qx : State → Prop, Qx = MQ below (QcG g (wTk g t0 t1 t2 t3 p0 K P) (wTk g t0 t1 t2 t3 p0 K P) (some (.int r)) s.heap.size) args s 0 0 A := ⟨_, rfl⟩
  rw [← hQ]
  have hown : s.vm.findClass RX5 = some m.cls := hown
  have hl : lv_has ls 3 [(0, .ref t0), (1, .int a1)] := hl
  have L2 : ∀ (x1 : Int32) (kx : Option (Int32)) (k : Nat) (x2 : Int32) (H : Heap) (locs : List Loc) (ls : Array Slot), fX5_sortOfWord_L2 K P x1 kx k x2 = some r → va_P g.1 vwK (wTk g t0 t1 t2 t3 p0 K P) H → va_D A (wTk g t0 t1 t2 t3 p0 K P) → va_S A s.heap H locs → lv_has ls 3 [(0, .ref t0), (1, .int x1), (2, .int x2)] → (∀ (H : Heap) (locs : List Loc) (ls : Array Slot), kx = some r → va_P g.1 vwK (wTk g t0 t1 t2 t3 p0 K P) H → va_D A (wTk g t0 t1 t2 t3 p0 K P) → va_S A s.heap H locs → lv_has ls 3 [] → W p l e (rmm 7 244) s m args below meth c H locs 0 0 Qx (F0 m 28 ls [])) → W p l e (rmm 7 244) s m args below meth c H locs 0 0 Qx (F0 m 2 ls []) := by
    intro x1 kx k
    induction k with
    | zero => intro x2 H locs ls hf; exact nomatch (show (none : Option (Int32)) = some _ from hf)
    | succ k ih =>
      intro x2 H locs ls hf hP hD hS hl hk
      rw [fX5_sortOfWord_L2] at hf
      refine lv_iload_n hx hb dX5_sortOfWord_2 rfl (lv_at hl 2 rfl) ?_
      refine lv_bipush (v := (15 : Int32)) hx hb dX5_sortOfWord_3 (by decide) ?_
      refine lv_icmp_ge (tgt := 28) hx hb dX5_sortOfWord_5 (by decide) (fun hc => ?_) (fun hc => ?_)
      · have hf := if_t hf hc
        exact hk _ _ _  hf hP hD hS (lv_sub hl [] rfl)
      · have hf := if_f hf hc
        refine lv_aload_n hx hb dX5_sortOfWord_8 rfl (lv_at hl 0 rfl) ?_
        refine lv_iload_n hx hb dX5_sortOfWord_9 rfl (lv_at hl 1 rfl) ?_
        refine lv_iload_n hx hb dX5_sortOfWord_10 rfl (lv_at hl 2 rfl) ?_
        obtain ⟨j103, hg, hf⟩ := o1_s hf
        refine Ct.callS (ws' := wTk g t0 t1 t2 t3 p0 K P) (As := [.int x2]) (rest := [.int x1, .ref t0]) (st1 := [.ref (g.2.2 (10 + j103)), .int x1, .ref t0]) (c_X5_letters l g x2 hg) (va_cwS 1 hts gX5_sortOfWord_X5_letters rfl rfl rfl q_X5_letters.2 ⟨Nat.le_of_ble_eq_true rfl, Nat.le_of_ble_eq_true rfl⟩) ⟨hx, hb, hml, hown, hts⟩ hE hP hD hS hA [] rfl rfl rfl rfl rfl hl.1 rfl rfl (Nat.le_of_ble_eq_true rfl) dX5_sortOfWord_11 (fun H locs hP hD hS => ?_)
        obtain ⟨x104, hg, hf⟩ := o1_s hf
        refine Ct.callV0 (ws' := wTk g t0 t1 t2 t3 p0 K P) (As := [.int x1, .ref (g.2.2 (10 + j103))]) (rest := []) (st1 := [.int x104]) (c_X5_isFromTo l g t0 t1 t2 t3 p0 K P x1 j103 hg) (cwV 2 hts gX5_sortOfWord_X5_isFromTo rfl rfl rfl q_X5_isFromTo ⟨Nat.le_of_ble_eq_true rfl, Nat.le_of_ble_eq_true rfl⟩) ⟨hx, hb, hml, hown, hts⟩ hE hP hD hS hA 5 0 rfl rfl rfl rfl hl.1 rfl rfl (Nat.le_of_ble_eq_true rfl) dX5_sortOfWord_14 (fun H locs hP hD hS => ?_)
        refine lv_if_eq (tgt := 22) hx hb dX5_sortOfWord_17 (by decide) (fun hc => ?_) (fun hc => ?_)
        · have hf := if_t hf hc
          refine lv_iinc (v := (x2 + (1 : Int32))) (lv' := [(2, .int (x2 + (1 : Int32))), (0, .ref t0), (1, .int x1)]) hx hb dX5_sortOfWord_22 hl (k := 2) rfl rfl (by decide) rfl (fun ls hl => ?_)
          refine lv_goto (tgt := 2) hx hb dX5_sortOfWord_25 (by decide) ?_
          exact ih _ _ _ _  hf hP hD hS (lv_sub hl [1, 2, 0] rfl) hk
        · have hf := if_f hf hc
          refine lv_iload_n hx hb dX5_sortOfWord_20 rfl (lv_at hl 2 rfl) ?_
          obtain rfl := Option.some.inj hf
          rw [hQ]; exact Ct.iret hx hb hr hlocks hAe hP hD hS dX5_sortOfWord_21
  unfold fX5_sortOfWord at hf
  refine lv_iconst (v := (0 : Int32)) hx hb dX5_sortOfWord_0 (by decide) ?_
  refine lv_istore_n (lv' := [(2, .int (0 : Int32)), (0, .ref t0), (1, .int a1)]) hx hb dX5_sortOfWord_1 rfl hl (by decide) rfl (fun ls hl => ?_)
  refine L2 _ _ _ _ _ _ _  hf hP hD hS (lv_sub hl [1, 2, 0] rfl) (fun H locs ls hf hP hD hS hl => ?_)
  refine lv_bipush (v := (18 : Int32)) hx hb dX5_sortOfWord_28 (by decide) ?_
  obtain rfl := Option.some.inj hf
  rw [hQ]; exact Ct.iret hx hb hr hlocks hAe hP hD hS dX5_sortOfWord_30
def fX5_isDigit (a1 : Int32) : Option (Int32) := if a1 < (48 : Int32) then (some (0 : Int32)) else (if (57 : Int32) < a1 then (some (0 : Int32)) else (some (1 : Int32)))
theorem q_X5_isDigit : yX5_isDigit.cls = RX5 ∧ yX5_isDigit.cls ≠ "java/lang/invoke/MethodHandle" ∧ yX5_isDigit.cls ≠ "java/lang/invoke/VarHandle" ∧ (parseMethodDescriptor yX5_isDigit.desc).map (fun d => d.parameters.length) = some 1 := by decide +kernel
set_option maxHeartbeats 4000000 in
set_option maxRecDepth 100000 in
theorem c_X5_isDigit (l : Launch) (g : gG) (a1 : Int32) {r : Int32} (hf : fX5_isDigit a1 = some r) : Ct l yX5_isDigit wsX5_isDigit (rmm 0 0) g (wNil g  ) (wNil g  ) [.int a1] (some (.int r)) := by
  refine Ct.mk (by decide) rfl (Nat.le_of_ble_eq_true rfl) ?_
  intro p e s m args below meth c A ls hx hb hr hml hts hown hlocks hA hE hP hD hS hl hAe
  obtain ⟨Qx, hQ⟩ : ∃ Qx : State → Prop, Qx = MQ below (QcG g (wNil g  ) (wNil g  ) (some (.int r)) s.heap.size) args s 0 0 A := ⟨_, rfl⟩
  rw [← hQ]
  have hown : s.vm.findClass RX5 = some m.cls := hown
  have hl : lv_has ls 1 [(0, .int a1)] := hl
  unfold fX5_isDigit at hf
  refine lv_iload_n hx hb dX5_isDigit_0 rfl (lv_at hl 0 rfl) ?_
  refine lv_bipush (v := (48 : Int32)) hx hb dX5_isDigit_1 (by decide) ?_
  refine lv_icmp_lt (tgt := 16) hx hb dX5_isDigit_3 (by decide) (fun hc => ?_) (fun hc => ?_)
  · have hf := if_t hf hc
    refine lv_iconst (v := (0 : Int32)) hx hb dX5_isDigit_16 (by decide) ?_
    obtain rfl := Option.some.inj hf
    rw [hQ]; exact Ct.zret hx hb hr (by decide) hlocks hAe hP hD hS dX5_isDigit_17
  · have hf := if_f hf hc
    refine lv_iload_n hx hb dX5_isDigit_6 rfl (lv_at hl 0 rfl) ?_
    refine lv_bipush (v := (57 : Int32)) hx hb dX5_isDigit_7 (by decide) ?_
    refine lv_icmp_gt (tgt := 16) hx hb dX5_isDigit_9 (by decide) (fun hc => ?_) (fun hc => ?_)
    · have hf := if_t hf hc
      refine lv_iconst (v := (0 : Int32)) hx hb dX5_isDigit_16 (by decide) ?_
      obtain rfl := Option.some.inj hf
      rw [hQ]; exact Ct.zret hx hb hr (by decide) hlocks hAe hP hD hS dX5_isDigit_17
    · have hf := if_f hf hc
      refine lv_iconst (v := (1 : Int32)) hx hb dX5_isDigit_12 (by decide) ?_
      refine lv_goto (tgt := 17) hx hb dX5_isDigit_13 (by decide) ?_
      obtain rfl := Option.some.inj hf
      rw [hQ]; exact Ct.zret hx hb hr (by decide) hlocks hAe hP hD hS dX5_isDigit_17
def fX5_cutNumber_L2 (P : Nat → Int32) (kx : Tk → Int32 → Option (Int32 × Tk)) : Nat → Tk → Int32 → Option (Int32 × Tk)
  | 0, _, _ => none
  | k + 1, K, x1 => if K.2.2.2.1 ≤ K.2.2.2.2 then (kx K x1) else (o1 (fX6_at 120 P K.2.2.2.2) (fun x104 => o1 (fX5_isDigit x104) (fun x105 => if x105 = 0 then (kx K x1) else (o1 (fX6_at 120 P K.2.2.2.2) (fun x106 => fX5_cutNumber_L2 P kx k (K.1, K.2.1, K.2.2.1, K.2.2.2.1, (K.2.2.2.2 + (1 : Int32))) (if ((((10 : Int32) * x1) + x106) - (48 : Int32)) < (1000 : Int32) then ((((10 : Int32) * x1) + x106) - (48 : Int32)) else (1000 : Int32)))))))
def fX5_cutNumber (K : Tk) (P : Nat → Int32) : Option (Int32 × Tk) := fX5_cutNumber_L2 P (fun K107 x108 => some (x108, K107)) fu K (0 : Int32)
theorem q_X5_cutNumber : yX5_cutNumber.cls = RX5 ∧ yX5_cutNumber.cls ≠ "java/lang/invoke/MethodHandle" ∧ yX5_cutNumber.cls ≠ "java/lang/invoke/VarHandle" ∧ (parseMethodDescriptor yX5_cutNumber.desc).map (fun d => d.parameters.length) = some 0 := by decide +kernel
theorem i_X5_cutNumber_X5 : ∀ w ∈ u_ws RX5 TX5 6, w ∈ wsX5_cutNumber := fun _ h => List.mem_cons_of_mem _ (List.mem_append_right _ (h))
set_option maxHeartbeats 4000000 in
set_option maxRecDepth 100000 in
theorem c_X5_cutNumber (l : Launch) (g : gG) (t0 t1 t2 t3 p0 : Nat) (K : Tk) (P : Nat → Int32) {r : Int32} {K' : Tk} (hf : fX5_cutNumber K P = some (r, K')) : Ct l yX5_cutNumber wsX5_cutNumber (rmm 1 40) g (wTk g t0 t1 t2 t3 p0 K P) (wTk g t0 t1 t2 t3 p0 (K') P) [.ref t0] (some (.int r)) := by
  refine Ct.mk (by decide) rfl (Nat.le_of_ble_eq_true rfl) ?_
  intro p e s m args below meth c A ls hx hb hr hml hts hown hlocks hA hE hP hD hS hl hAe
  obtain ⟨Qx, hQ⟩ : ∃ Qx : State → Prop, Qx = MQ below (QcG g (wTk g t0 t1 t2 t3 p0 K P) (wTk g t0 t1 t2 t3 p0 (K') P) (some (.int r)) s.heap.size) args s 0 0 A := ⟨_, rfl⟩
  rw [← hQ]
  have hown : s.vm.findClass RX5 = some m.cls := hown
  have hl : lv_has ls 2 [(0, .ref t0)] := hl
  have w1 := hts (.fieldLink RX5 25 "RainVault$Tokens" "place" "I") (List.mem_of_getElem? (i := 1) rfl)
  have w2 := hts (.fieldLink RX5 21 "RainVault$Tokens" "length" "I") (List.mem_of_getElem? (i := 2) rfl)
  have w3 := hts (.fieldLink RX5 28 "RainVault$Tokens" "tape" "[I") (List.mem_of_getElem? (i := 3) rfl)
  have w4 := hts (.initialized RX6) (List.mem_of_getElem? (i := 9) rfl)
  have w5 := hts (.static yX6_at) (List.mem_of_getElem? (i := 8) rfl)
  have w6 := hts (.methodLink RX5 31 Lib.Math.min.name) (List.mem_of_getElem? (i := 4) rfl)
  have w7 := hts (.static Lib.Math.min.name) (List.mem_of_getElem? (i := 5) rfl)
  have w8 := hts (.initialized "java/lang/Math") (List.mem_of_getElem? (i := 6) rfl)
  have w9 := hts (.code Lib.Math.min.name Lib.Math.min.code 2 (some .int)) (List.mem_of_getElem? (i := 7) rfl)
  have L2 : ∀ (kx : Tk → Int32 → Option (Int32 × Tk)) (k : Nat) (K : Tk) (x1 : Int32) (H : Heap) (locs : List Loc) (ls : Array Slot), fX5_cutNumber_L2 P kx k K x1 = some (r, K') → va_P g.1 vwK (wTk g t0 t1 t2 t3 p0 K P) H → va_D A (wTk g t0 t1 t2 t3 p0 K P) → va_S A s.heap H locs → lv_has ls 2 [(0, .ref t0), (1, .int x1)] → (∀ (K : Tk) (x1 : Int32) (H : Heap) (locs : List Loc) (ls : Array Slot), kx K x1 = some (r, K') → va_P g.1 vwK (wTk g t0 t1 t2 t3 p0 K P) H → va_D A (wTk g t0 t1 t2 t3 p0 K P) → va_S A s.heap H locs → lv_has ls 2 [(1, .int x1)] → W p l e (rmm 1 40) s m args below meth c H locs 0 0 Qx (F0 m 69 ls [])) → W p l e (rmm 1 40) s m args below meth c H locs 0 0 Qx (F0 m 2 ls []) := by
    intro kx k
    induction k with
    | zero => intro K x1 H locs ls hf; exact nomatch (show (none : Option (Int32 × Tk)) = some _ from hf)
    | succ k ih =>
      intro K x1 H locs ls hf hP hD hS hl hk
      rw [fX5_cutNumber_L2] at hf
      refine lv_aload_n hx hb dX5_cutNumber_2 rfl (lv_at hl 0 rfl) ?_
      refine va_get (D := g.1) (ci := 5) (v := .int K.2.2.2.2) (C := RX5) (T := TX5) (N := 6) hx hb hts i_X5_cutNumber_X5 hown hE.1 hP 0 rfl rfl 5 (by decide) w1 (fun _ h9 => h9) rfl dX5_cutNumber_3 ?_
      refine lv_aload_n hx hb dX5_cutNumber_6 rfl (lv_at hl 0 rfl) ?_
      refine va_get (D := g.1) (ci := 5) (v := .int K.2.2.2.1) (C := RX5) (T := TX5) (N := 6) hx hb hts i_X5_cutNumber_X5 hown hE.1 hP 0 rfl rfl 4 (by decide) w2 (fun _ h9 => h9) rfl dX5_cutNumber_7 ?_
      refine lv_icmp_ge (tgt := 69) hx hb dX5_cutNumber_10 (by decide) (fun hc => ?_) (fun hc => ?_)
      · have hf := if_t hf hc
        exact hk _ _ _ _ _  hf hP hD hS (lv_sub hl [1] rfl)
      · have hf := if_f hf hc
        refine lv_aload_n hx hb dX5_cutNumber_13 rfl (lv_at hl 0 rfl) ?_
        refine va_get (D := g.1) (ci := 5) (v := .ref p0) (C := RX5) (T := TX5) (N := 6) hx hb hts i_X5_cutNumber_X5 hown hE.1 hP 0 rfl rfl 0 (by decide) w3 (fun _ h9 => h9) rfl dX5_cutNumber_14 ?_
        refine lv_aload_n hx hb dX5_cutNumber_17 rfl (lv_at hl 0 rfl) ?_
        refine va_get (D := g.1) (ci := 5) (v := .int K.2.2.2.2) (C := RX5) (T := TX5) (N := 6) hx hb hts i_X5_cutNumber_X5 hown hE.1 hP 0 rfl rfl 5 (by decide) w1 (fun _ h9 => h9) rfl dX5_cutNumber_18 ?_
        obtain ⟨x104, hg, hf⟩ := o1_s hf
        refine Ct.callSN (ws' := wTk g t0 t1 t2 t3 p0 K P) (As := [.ref p0, .int K.2.2.2.2]) (rest := []) (st1 := [.int x104]) (c_X6_at l g p0 120 P K.2.2.2.2 hg) (⟨va_cnB 2 hts gX5_cutNumber_X6_at_n37 rfl rfl rfl (hE.2.1 _ (List.mem_of_getElem? (i := 37) rfl)) w4 q_X6_at.2 ⟨Nat.le_of_ble_eq_true rfl, Nat.le_of_ble_eq_true rfl⟩, w5, trivial⟩) ⟨hx, hb, hml, hown, hts⟩ hE hP hD hS hA [4] rfl rfl rfl rfl rfl hl.1 rfl rfl (Nat.le_of_ble_eq_true rfl) dX5_cutNumber_21 (fun H locs hP hD hS => ?_)
        obtain ⟨x105, hg, hf⟩ := o1_s hf
        refine Ct.callS (ws' := wTk g t0 t1 t2 t3 p0 K P) (As := [.int x104]) (rest := []) (st1 := [.int x105]) (c_X5_isDigit l g x104 hg) (va_cwS 1 hts gX5_cutNumber_X5_isDigit rfl rfl rfl q_X5_isDigit.2 ⟨Nat.le_of_ble_eq_true rfl, Nat.le_of_ble_eq_true rfl⟩) ⟨hx, hb, hml, hown, hts⟩ hE hP hD hS hA [] rfl rfl rfl rfl rfl hl.1 rfl rfl (Nat.le_of_ble_eq_true rfl) dX5_cutNumber_24 (fun H locs hP hD hS => ?_)
        refine lv_if_eq (tgt := 69) hx hb dX5_cutNumber_27 (by decide) (fun hc => ?_) (fun hc => ?_)
        · have hf := if_t hf hc
          exact hk _ _ _ _ _  hf hP hD hS (lv_sub hl [1] rfl)
        · have hf := if_f hf hc
          refine lv_sipush (v := (1000 : Int32)) hx hb dX5_cutNumber_30 (by decide) ?_
          refine lv_bipush (v := (10 : Int32)) hx hb dX5_cutNumber_33 (by decide) ?_
          refine lv_iload_n hx hb dX5_cutNumber_35 rfl (lv_at hl 1 rfl) ?_
          refine lv_imul hx hb dX5_cutNumber_36 ?_
          refine lv_aload_n hx hb dX5_cutNumber_37 rfl (lv_at hl 0 rfl) ?_
          refine va_get (D := g.1) (ci := 5) (v := .ref p0) (C := RX5) (T := TX5) (N := 6) hx hb hts i_X5_cutNumber_X5 hown hE.1 hP 0 rfl rfl 0 (by decide) w3 (fun _ h9 => h9) rfl dX5_cutNumber_38 ?_
          refine lv_aload_n hx hb dX5_cutNumber_41 rfl (lv_at hl 0 rfl) ?_
          refine va_get (D := g.1) (ci := 5) (v := .int K.2.2.2.2) (C := RX5) (T := TX5) (N := 6) hx hb hts i_X5_cutNumber_X5 hown hE.1 hP 0 rfl rfl 5 (by decide) w1 (fun _ h9 => h9) rfl dX5_cutNumber_42 ?_
          obtain ⟨x106, hg, hf⟩ := o1_s hf
          refine Ct.callSN (ws' := wTk g t0 t1 t2 t3 p0 K P) (As := [.ref p0, .int K.2.2.2.2]) (rest := [.int ((10 : Int32) * x1), .int (1000 : Int32)]) (st1 := [.int x106, .int ((10 : Int32) * x1), .int (1000 : Int32)]) (c_X6_at l g p0 120 P K.2.2.2.2 hg) (⟨va_cnB 2 hts gX5_cutNumber_X6_at_n37 rfl rfl rfl (hE.2.1 _ (List.mem_of_getElem? (i := 37) rfl)) w4 q_X6_at.2 ⟨Nat.le_of_ble_eq_true rfl, Nat.le_of_ble_eq_true rfl⟩, w5, trivial⟩) ⟨hx, hb, hml, hown, hts⟩ hE hP hD hS hA [4] rfl rfl rfl rfl rfl hl.1 rfl rfl (Nat.le_of_ble_eq_true rfl) dX5_cutNumber_45 (fun H locs hP hD hS => ?_)
          refine lv_iadd hx hb dX5_cutNumber_48 ?_
          refine lv_bipush (v := (48 : Int32)) hx hb dX5_cutNumber_49 (by decide) ?_
          refine lv_isub hx hb dX5_cutNumber_51 ?_
          refine va_mmin hx hb (hml.trans hl.1.symm) hown w6 w7 w8 w9 (Nat.le_of_ble_eq_true rfl) (Nat.le_of_ble_eq_true rfl) (Nat.zero_le _) (Nat.zero_le _) dX5_cutNumber_52 ?_
          refine lv_istore_n (lv' := [(1, .int (if ((((10 : Int32) * x1) + x106) - (48 : Int32)) < (1000 : Int32) then ((((10 : Int32) * x1) + x106) - (48 : Int32)) else (1000 : Int32))), (0, .ref t0)]) hx hb dX5_cutNumber_55 rfl hl (by decide) rfl (fun ls hl => ?_)
          refine lv_aload_n hx hb dX5_cutNumber_56 rfl (lv_at hl 1 rfl) ?_
          refine lv_dup hx hb dX5_cutNumber_57 rfl ?_
          refine va_get (D := g.1) (ci := 5) (v := .int K.2.2.2.2) (C := RX5) (T := TX5) (N := 6) hx hb hts i_X5_cutNumber_X5 hown hE.1 hP 0 rfl rfl 5 (by decide) w1 (fun _ h9 => h9) rfl dX5_cutNumber_58 ?_
          refine lv_iconst (v := (1 : Int32)) hx hb dX5_cutNumber_61 (by decide) ?_
          refine lv_iadd hx hb dX5_cutNumber_62 ?_
          refine va_put (D := g.1) (ci := 5) (v := .int (K.2.2.2.2 + (1 : Int32))) (ty := .int) (C := RX5) (T := TX5) (N := 6) hx hb hts i_X5_cutNumber_X5 tyX5 tyX5_ok nmX5 hown hE.1 hP hD hS 0 rfl rfl 5 (by decide) w1 (fun _ h9 => h9) rfl (by decide +kernel) rfl rfl (Nat.le_of_ble_eq_true rfl) dX5_cutNumber_63 (fun H locs hP hD hS => ?_)
          have hP : va_P g.1 vwK (wTk g t0 t1 t2 t3 p0 (K.1, K.2.1, K.2.2.1, K.2.2.2.1, (K.2.2.2.2 + (1 : Int32))) P) H := hP
          have hD : va_D A (wTk g t0 t1 t2 t3 p0 (K.1, K.2.1, K.2.2.1, K.2.2.2.1, (K.2.2.2.2 + (1 : Int32))) P) := hD
          refine lv_goto (tgt := 2) hx hb dX5_cutNumber_66 (by decide) ?_
          exact ih _ _ _ _ _  hf hP hD hS (lv_sub hl [1, 0] rfl) hk
  unfold fX5_cutNumber at hf
  refine lv_iconst (v := (0 : Int32)) hx hb dX5_cutNumber_0 (by decide) ?_
  refine lv_istore_n (lv' := [(1, .int (0 : Int32)), (0, .ref t0)]) hx hb dX5_cutNumber_1 rfl hl (by decide) rfl (fun ls hl => ?_)
  refine L2 _ _ _ _ _ _ _  hf hP hD hS (lv_sub hl [1, 0] rfl) (fun K107 x108 H locs ls hf hP hD hS hl => ?_)
  refine lv_iload_n hx hb dX5_cutNumber_69 rfl (lv_at hl 0 rfl) ?_
  obtain ⟨rfl, rfl⟩ := some_p2 hf
  rw [hQ]; exact Ct.iret hx hb hr hlocks hAe hP hD hS dX5_cutNumber_70
def fX5_cutToken_L33 (P : Nat → Int32) (kx : Tk → Option (Int32 × Tk)) : Nat → Tk → Option (Int32 × Tk)
  | 0, _ => none
  | k + 1, K => if K.2.2.2.1 ≤ K.2.2.2.2 then (kx K) else (o1 (fX6_at 120 P K.2.2.2.2) (fun x111 => o1 (fX5_isLetter x111) (fun x112 => if x112 = 0 then (kx K) else (fX5_cutToken_L33 P kx k (K.1, K.2.1, K.2.2.1, K.2.2.2.1, (K.2.2.2.2 + (1 : Int32)))))))
def fX5_cutToken (K : Tk) (P : Nat → Int32) (a1 : Int32) : Option (Int32 × Tk) := if K.2.2.2.2 < K.2.2.2.1 then (o1 (fX6_at 120 P K.2.2.2.2) (fun x101 => o1 (fX5_isLetter x101) (fun x102 => if x102 = 0 then (o1 (fX6_at 120 P K.2.2.2.2) (fun x103 => o1 (fX5_isDigit x103) (fun x104 => if x104 = 0 then (o1 (fX6_at 120 P K.2.2.2.2) (fun x105 => if x105 = (59 : Int32) then (some ((16 : Int32), (K.1, K.2.1, K.2.2.1, K.2.2.2.1, (K.2.2.2.2 + (1 : Int32))))) else (some ((18 : Int32), (K.1, K.2.1, K.2.2.1, K.2.2.2.1, (K.2.2.2.2 + (1 : Int32))))))) else (o2 (fX5_cutNumber K P) (fun x106 K107 => o1 (fX6_put 121 K107.2.2.1 a1 x106) (fun f108 => some ((15 : Int32), (K107.1, K107.2.1, f108, K107.2.2.2.1, K107.2.2.2.2)))))))) else (fX5_cutToken_L33 P (fun K113 => o1 (fX5_sortOfWord K113 P K.2.2.2.2) (fun x114 => some (x114, K113))) fu K)))) else (some ((17 : Int32), K))
theorem q_X5_cutToken : yX5_cutToken.cls = RX5 ∧ yX5_cutToken.cls ≠ "java/lang/invoke/MethodHandle" ∧ yX5_cutToken.cls ≠ "java/lang/invoke/VarHandle" ∧ (parseMethodDescriptor yX5_cutToken.desc).map (fun d => d.parameters.length) = some 1 := by decide +kernel
theorem i_X5_cutToken_X5 : ∀ w ∈ u_ws RX5 TX5 6, w ∈ wsX5_cutToken := fun _ h => List.mem_cons_of_mem _ (List.mem_append_right _ (h))
set_option maxHeartbeats 4000000 in
set_option maxRecDepth 100000 in
theorem c_X5_cutToken (l : Launch) (g : gG) (t0 t1 t2 t3 p0 : Nat) (K : Tk) (P : Nat → Int32) (a1 : Int32) {r : Int32} {K' : Tk} (hf : fX5_cutToken K P a1 = some (r, K')) : Ct l yX5_cutToken wsX5_cutToken (rmm 8 266) g (wTk g t0 t1 t2 t3 p0 K P) (wTk g t0 t1 t2 t3 p0 (K') P) [.ref t0, .int a1] (some (.int r)) := by
  refine Ct.mk (by decide) rfl (Nat.le_of_ble_eq_true rfl) ?_
  intro p e s m args below meth c A ls hx hb hr hml hts hown hlocks hA hE hP hD hS hl hAe
  obtain ⟨Qx, hQ⟩ : ∃ Qx : State → Prop, Qx = MQ below (QcG g (wTk g t0 t1 t2 t3 p0 K P) (wTk g t0 t1 t2 t3 p0 (K') P) (some (.int r)) s.heap.size) args s 0 0 A := ⟨_, rfl⟩
  rw [← hQ]
  have hown : s.vm.findClass RX5 = some m.cls := hown
  have hl : lv_has ls 3 [(0, .ref t0), (1, .int a1)] := hl
  have w1 := hts (.fieldLink RX5 25 "RainVault$Tokens" "place" "I") (List.mem_of_getElem? (i := 1) rfl)
  have w2 := hts (.fieldLink RX5 21 "RainVault$Tokens" "length" "I") (List.mem_of_getElem? (i := 2) rfl)
  have w3 := hts (.fieldLink RX5 28 "RainVault$Tokens" "tape" "[I") (List.mem_of_getElem? (i := 3) rfl)
  have w4 := hts (.initialized RX6) (List.mem_of_getElem? (i := 6) rfl)
  have w5 := hts (.static yX6_at) (List.mem_of_getElem? (i := 5) rfl)
  have w6 := hts (.fieldLink RX5 18 "RainVault$Tokens" "values" "[I") (List.mem_of_getElem? (i := 4) rfl)
  have w7 := hts (.static yX6_put) (List.mem_of_getElem? (i := 83) rfl)
  have L33 : ∀ (x2 : Int32) (kx : Tk → Option (Int32 × Tk)) (k : Nat) (K : Tk) (H : Heap) (locs : List Loc) (ls : Array Slot), fX5_cutToken_L33 P kx k K = some (r, K') → va_P g.1 vwK (wTk g t0 t1 t2 t3 p0 K P) H → va_D A (wTk g t0 t1 t2 t3 p0 K P) → va_S A s.heap H locs → lv_has ls 3 [(0, .ref t0), (2, .int x2)] → (∀ (K : Tk) (H : Heap) (locs : List Loc) (ls : Array Slot), kx K = some (r, K') → va_P g.1 vwK (wTk g t0 t1 t2 t3 p0 K P) H → va_D A (wTk g t0 t1 t2 t3 p0 K P) → va_S A s.heap H locs → lv_has ls 3 [(0, .ref t0), (2, .int x2)] → W p l e (rmm 8 266) s m args below meth c H locs 0 0 Qx (F0 m 74 ls [])) → W p l e (rmm 8 266) s m args below meth c H locs 0 0 Qx (F0 m 33 ls []) := by
    intro x2 kx k
    induction k with
    | zero => intro K H locs ls hf; exact nomatch (show (none : Option (Int32 × Tk)) = some _ from hf)
    | succ k ih =>
      intro K H locs ls hf hP hD hS hl hk
      rw [fX5_cutToken_L33] at hf
      refine lv_aload_n hx hb dX5_cutToken_33 rfl (lv_at hl 0 rfl) ?_
      refine va_get (D := g.1) (ci := 5) (v := .int K.2.2.2.2) (C := RX5) (T := TX5) (N := 6) hx hb hts i_X5_cutToken_X5 hown hE.1 hP 0 rfl rfl 5 (by decide) w1 (fun _ h9 => h9) rfl dX5_cutToken_34 ?_
      refine lv_aload_n hx hb dX5_cutToken_37 rfl (lv_at hl 0 rfl) ?_
      refine va_get (D := g.1) (ci := 5) (v := .int K.2.2.2.1) (C := RX5) (T := TX5) (N := 6) hx hb hts i_X5_cutToken_X5 hown hE.1 hP 0 rfl rfl 4 (by decide) w2 (fun _ h9 => h9) rfl dX5_cutToken_38 ?_
      refine lv_icmp_ge (tgt := 74) hx hb dX5_cutToken_41 (by decide) (fun hc => ?_) (fun hc => ?_)
      · have hf := if_t hf hc
        exact hk _ _ _ _  hf hP hD hS (lv_sub hl [0, 1] rfl)
      · have hf := if_f hf hc
        refine lv_aload_n hx hb dX5_cutToken_44 rfl (lv_at hl 0 rfl) ?_
        refine va_get (D := g.1) (ci := 5) (v := .ref p0) (C := RX5) (T := TX5) (N := 6) hx hb hts i_X5_cutToken_X5 hown hE.1 hP 0 rfl rfl 0 (by decide) w3 (fun _ h9 => h9) rfl dX5_cutToken_45 ?_
        refine lv_aload_n hx hb dX5_cutToken_48 rfl (lv_at hl 0 rfl) ?_
        refine va_get (D := g.1) (ci := 5) (v := .int K.2.2.2.2) (C := RX5) (T := TX5) (N := 6) hx hb hts i_X5_cutToken_X5 hown hE.1 hP 0 rfl rfl 5 (by decide) w1 (fun _ h9 => h9) rfl dX5_cutToken_49 ?_
        obtain ⟨x111, hg, hf⟩ := o1_s hf
        refine Ct.callSN (ws' := wTk g t0 t1 t2 t3 p0 K P) (As := [.ref p0, .int K.2.2.2.2]) (rest := []) (st1 := [.int x111]) (c_X6_at l g p0 120 P K.2.2.2.2 hg) (⟨va_cnB 2 hts gX5_cutToken_X6_at_n37 rfl rfl rfl (hE.2.1 _ (List.mem_of_getElem? (i := 37) rfl)) w4 q_X6_at.2 ⟨Nat.le_of_ble_eq_true rfl, Nat.le_of_ble_eq_true rfl⟩, w5, trivial⟩) ⟨hx, hb, hml, hown, hts⟩ hE hP hD hS hA [4] rfl rfl rfl rfl rfl hl.1 rfl rfl (Nat.le_of_ble_eq_true rfl) dX5_cutToken_52 (fun H locs hP hD hS => ?_)
        obtain ⟨x112, hg, hf⟩ := o1_s hf
        refine Ct.callS (ws' := wTk g t0 t1 t2 t3 p0 K P) (As := [.int x111]) (rest := []) (st1 := [.int x112]) (c_X5_isLetter l g x111 hg) (va_cwS 1 hts gX5_cutToken_X5_isLetter rfl rfl rfl q_X5_isLetter.2 ⟨Nat.le_of_ble_eq_true rfl, Nat.le_of_ble_eq_true rfl⟩) ⟨hx, hb, hml, hown, hts⟩ hE hP hD hS hA [] rfl rfl rfl rfl rfl hl.1 rfl rfl (Nat.le_of_ble_eq_true rfl) dX5_cutToken_55 (fun H locs hP hD hS => ?_)
        refine lv_if_eq (tgt := 74) hx hb dX5_cutToken_58 (by decide) (fun hc => ?_) (fun hc => ?_)
        · have hf := if_t hf hc
          exact hk _ _ _ _  hf hP hD hS (lv_sub hl [0, 1] rfl)
        · have hf := if_f hf hc
          refine lv_aload_n hx hb dX5_cutToken_61 rfl (lv_at hl 0 rfl) ?_
          refine lv_dup hx hb dX5_cutToken_62 rfl ?_
          refine va_get (D := g.1) (ci := 5) (v := .int K.2.2.2.2) (C := RX5) (T := TX5) (N := 6) hx hb hts i_X5_cutToken_X5 hown hE.1 hP 0 rfl rfl 5 (by decide) w1 (fun _ h9 => h9) rfl dX5_cutToken_63 ?_
          refine lv_iconst (v := (1 : Int32)) hx hb dX5_cutToken_66 (by decide) ?_
          refine lv_iadd hx hb dX5_cutToken_67 ?_
          refine va_put (D := g.1) (ci := 5) (v := .int (K.2.2.2.2 + (1 : Int32))) (ty := .int) (C := RX5) (T := TX5) (N := 6) hx hb hts i_X5_cutToken_X5 tyX5 tyX5_ok nmX5 hown hE.1 hP hD hS 0 rfl rfl 5 (by decide) w1 (fun _ h9 => h9) rfl (by decide +kernel) rfl rfl (Nat.le_of_ble_eq_true rfl) dX5_cutToken_68 (fun H locs hP hD hS => ?_)
          have hP : va_P g.1 vwK (wTk g t0 t1 t2 t3 p0 (K.1, K.2.1, K.2.2.1, K.2.2.2.1, (K.2.2.2.2 + (1 : Int32))) P) H := hP
          have hD : va_D A (wTk g t0 t1 t2 t3 p0 (K.1, K.2.1, K.2.2.1, K.2.2.2.1, (K.2.2.2.2 + (1 : Int32))) P) := hD
          refine lv_goto (tgt := 33) hx hb dX5_cutToken_71 (by decide) ?_
          exact ih _ _ _ _  hf hP hD hS (lv_sub hl [0, 1] rfl) hk
  unfold fX5_cutToken at hf
  refine lv_aload_n hx hb dX5_cutToken_0 rfl (lv_at hl 0 rfl) ?_
  refine va_get (D := g.1) (ci := 5) (v := .int K.2.2.2.2) (C := RX5) (T := TX5) (N := 6) hx hb hts i_X5_cutToken_X5 hown hE.1 hP 0 rfl rfl 5 (by decide) w1 (fun _ h9 => h9) rfl dX5_cutToken_1 ?_
  refine lv_aload_n hx hb dX5_cutToken_4 rfl (lv_at hl 0 rfl) ?_
  refine va_get (D := g.1) (ci := 5) (v := .int K.2.2.2.1) (C := RX5) (T := TX5) (N := 6) hx hb hts i_X5_cutToken_X5 hown hE.1 hP 0 rfl rfl 4 (by decide) w2 (fun _ h9 => h9) rfl dX5_cutToken_5 ?_
  refine lv_icmp_lt (tgt := 14) hx hb dX5_cutToken_8 (by decide) (fun hc => ?_) (fun hc => ?_)
  · have hf := if_t hf hc
    refine lv_aload_n hx hb dX5_cutToken_14 rfl (lv_at hl 0 rfl) ?_
    refine va_get (D := g.1) (ci := 5) (v := .int K.2.2.2.2) (C := RX5) (T := TX5) (N := 6) hx hb hts i_X5_cutToken_X5 hown hE.1 hP 0 rfl rfl 5 (by decide) w1 (fun _ h9 => h9) rfl dX5_cutToken_15 ?_
    refine lv_istore_n (lv' := [(2, .int K.2.2.2.2), (0, .ref t0), (1, .int a1)]) hx hb dX5_cutToken_18 rfl hl (by decide) rfl (fun ls hl => ?_)
    refine lv_aload_n hx hb dX5_cutToken_19 rfl (lv_at hl 1 rfl) ?_
    refine va_get (D := g.1) (ci := 5) (v := .ref p0) (C := RX5) (T := TX5) (N := 6) hx hb hts i_X5_cutToken_X5 hown hE.1 hP 0 rfl rfl 0 (by decide) w3 (fun _ h9 => h9) rfl dX5_cutToken_20 ?_
    refine lv_iload_n hx hb dX5_cutToken_23 rfl (lv_at hl 0 rfl) ?_
    obtain ⟨x101, hg, hf⟩ := o1_s hf
    refine Ct.callSN (ws' := wTk g t0 t1 t2 t3 p0 K P) (As := [.ref p0, .int K.2.2.2.2]) (rest := []) (st1 := [.int x101]) (c_X6_at l g p0 120 P K.2.2.2.2 hg) (⟨va_cnB 2 hts gX5_cutToken_X6_at_n37 rfl rfl rfl (hE.2.1 _ (List.mem_of_getElem? (i := 37) rfl)) w4 q_X6_at.2 ⟨Nat.le_of_ble_eq_true rfl, Nat.le_of_ble_eq_true rfl⟩, w5, trivial⟩) ⟨hx, hb, hml, hown, hts⟩ hE hP hD hS hA [4] rfl rfl rfl rfl rfl hl.1 rfl rfl (Nat.le_of_ble_eq_true rfl) dX5_cutToken_24 (fun H locs hP hD hS => ?_)
    obtain ⟨x102, hg, hf⟩ := o1_s hf
    refine Ct.callS (ws' := wTk g t0 t1 t2 t3 p0 K P) (As := [.int x101]) (rest := []) (st1 := [.int x102]) (c_X5_isLetter l g x101 hg) (va_cwS 1 hts gX5_cutToken_X5_isLetter rfl rfl rfl q_X5_isLetter.2 ⟨Nat.le_of_ble_eq_true rfl, Nat.le_of_ble_eq_true rfl⟩) ⟨hx, hb, hml, hown, hts⟩ hE hP hD hS hA [] rfl rfl rfl rfl rfl hl.1 rfl rfl (Nat.le_of_ble_eq_true rfl) dX5_cutToken_27 (fun H locs hP hD hS => ?_)
    refine lv_if_eq (tgt := 80) hx hb dX5_cutToken_30 (by decide) (fun hc => ?_) (fun hc => ?_)
    · have hf := if_t hf hc
      refine lv_aload_n hx hb dX5_cutToken_80 rfl (lv_at hl 1 rfl) ?_
      refine va_get (D := g.1) (ci := 5) (v := .ref p0) (C := RX5) (T := TX5) (N := 6) hx hb hts i_X5_cutToken_X5 hown hE.1 hP 0 rfl rfl 0 (by decide) w3 (fun _ h9 => h9) rfl dX5_cutToken_81 ?_
      refine lv_iload_n hx hb dX5_cutToken_84 rfl (lv_at hl 0 rfl) ?_
      obtain ⟨x103, hg, hf⟩ := o1_s hf
      refine Ct.callSN (ws' := wTk g t0 t1 t2 t3 p0 K P) (As := [.ref p0, .int K.2.2.2.2]) (rest := []) (st1 := [.int x103]) (c_X6_at l g p0 120 P K.2.2.2.2 hg) (⟨va_cnB 2 hts gX5_cutToken_X6_at_n37 rfl rfl rfl (hE.2.1 _ (List.mem_of_getElem? (i := 37) rfl)) w4 q_X6_at.2 ⟨Nat.le_of_ble_eq_true rfl, Nat.le_of_ble_eq_true rfl⟩, w5, trivial⟩) ⟨hx, hb, hml, hown, hts⟩ hE hP hD hS hA [4] rfl rfl rfl rfl rfl hl.1 rfl rfl (Nat.le_of_ble_eq_true rfl) dX5_cutToken_85 (fun H locs hP hD hS => ?_)
      obtain ⟨x104, hg, hf⟩ := o1_s hf
      refine Ct.callS (ws' := wTk g t0 t1 t2 t3 p0 K P) (As := [.int x103]) (rest := []) (st1 := [.int x104]) (c_X5_isDigit l g x103 hg) (va_cwS 1 hts gX5_cutToken_X5_isDigit rfl rfl rfl q_X5_isDigit.2 ⟨Nat.le_of_ble_eq_true rfl, Nat.le_of_ble_eq_true rfl⟩) ⟨hx, hb, hml, hown, hts⟩ hE hP hD hS hA [] rfl rfl rfl rfl rfl hl.1 rfl rfl (Nat.le_of_ble_eq_true rfl) dX5_cutToken_88 (fun H locs hP hD hS => ?_)
      refine lv_if_eq (tgt := 109) hx hb dX5_cutToken_91 (by decide) (fun hc => ?_) (fun hc => ?_)
      · have hf := if_t hf hc
        refine lv_aload_n hx hb dX5_cutToken_109 rfl (lv_at hl 1 rfl) ?_
        refine lv_dup hx hb dX5_cutToken_110 rfl ?_
        refine va_get (D := g.1) (ci := 5) (v := .int K.2.2.2.2) (C := RX5) (T := TX5) (N := 6) hx hb hts i_X5_cutToken_X5 hown hE.1 hP 0 rfl rfl 5 (by decide) w1 (fun _ h9 => h9) rfl dX5_cutToken_111 ?_
        refine lv_iconst (v := (1 : Int32)) hx hb dX5_cutToken_114 (by decide) ?_
        refine lv_iadd hx hb dX5_cutToken_115 ?_
        refine va_put (D := g.1) (ci := 5) (v := .int (K.2.2.2.2 + (1 : Int32))) (ty := .int) (C := RX5) (T := TX5) (N := 6) hx hb hts i_X5_cutToken_X5 tyX5 tyX5_ok nmX5 hown hE.1 hP hD hS 0 rfl rfl 5 (by decide) w1 (fun _ h9 => h9) rfl (by decide +kernel) rfl rfl (Nat.le_of_ble_eq_true rfl) dX5_cutToken_116 (fun H locs hP hD hS => ?_)
        have hP : va_P g.1 vwK (wTk g t0 t1 t2 t3 p0 (K.1, K.2.1, K.2.2.1, K.2.2.2.1, (K.2.2.2.2 + (1 : Int32))) P) H := hP
        have hD : va_D A (wTk g t0 t1 t2 t3 p0 (K.1, K.2.1, K.2.2.1, K.2.2.2.1, (K.2.2.2.2 + (1 : Int32))) P) := hD
        refine lv_aload_n hx hb dX5_cutToken_119 rfl (lv_at hl 1 rfl) ?_
        refine va_get (D := g.1) (ci := 5) (v := .ref p0) (C := RX5) (T := TX5) (N := 6) hx hb hts i_X5_cutToken_X5 hown hE.1 hP 0 rfl rfl 0 (by decide) w3 (fun _ h9 => h9) rfl dX5_cutToken_120 ?_
        refine lv_iload_n hx hb dX5_cutToken_123 rfl (lv_at hl 0 rfl) ?_
        obtain ⟨x105, hg, hf⟩ := o1_s hf
        refine Ct.callSN (ws' := wTk g t0 t1 t2 t3 p0 (K.1, K.2.1, K.2.2.1, K.2.2.2.1, (K.2.2.2.2 + (1 : Int32))) P) (As := [.ref p0, .int K.2.2.2.2]) (rest := []) (st1 := [.int x105]) (c_X6_at l g p0 120 P K.2.2.2.2 hg) (⟨va_cnB 2 hts gX5_cutToken_X6_at_n37 rfl rfl rfl (hE.2.1 _ (List.mem_of_getElem? (i := 37) rfl)) w4 q_X6_at.2 ⟨Nat.le_of_ble_eq_true rfl, Nat.le_of_ble_eq_true rfl⟩, w5, trivial⟩) ⟨hx, hb, hml, hown, hts⟩ hE hP hD hS hA [4] rfl rfl rfl rfl rfl hl.1 rfl rfl (Nat.le_of_ble_eq_true rfl) dX5_cutToken_124 (fun H locs hP hD hS => ?_)
        refine lv_bipush (v := (59 : Int32)) hx hb dX5_cutToken_127 (by decide) ?_
        refine lv_icmp_ne (tgt := 137) hx hb dX5_cutToken_129 (by decide) (fun hc => ?_) (fun hc => ?_)
        · have hf := if_f hf hc
          refine lv_bipush (v := (18 : Int32)) hx hb dX5_cutToken_137 (by decide) ?_
          obtain ⟨rfl, rfl⟩ := some_p2 hf
          rw [hQ]; exact Ct.iret hx hb hr hlocks hAe hP hD hS dX5_cutToken_139
        · have hf := if_t hf hc
          refine lv_bipush (v := (16 : Int32)) hx hb dX5_cutToken_132 (by decide) ?_
          refine lv_goto (tgt := 139) hx hb dX5_cutToken_134 (by decide) ?_
          obtain ⟨rfl, rfl⟩ := some_p2 hf
          rw [hQ]; exact Ct.iret hx hb hr hlocks hAe hP hD hS dX5_cutToken_139
      · have hf := if_f hf hc
        refine lv_aload_n hx hb dX5_cutToken_94 rfl (lv_at hl 1 rfl) ?_
        refine va_get (D := g.1) (ci := 5) (v := .ref t3) (C := RX5) (T := TX5) (N := 6) hx hb hts i_X5_cutToken_X5 hown hE.1 hP 0 rfl rfl 3 (by decide) w6 (fun _ h9 => h9) rfl dX5_cutToken_95 ?_
        refine lv_iload_n hx hb dX5_cutToken_98 rfl (lv_at hl 2 rfl) ?_
        refine lv_aload_n hx hb dX5_cutToken_99 rfl (lv_at hl 1 rfl) ?_
        obtain ⟨x106, K107, hg, hf⟩ := o2_s hf
        refine Ct.callV0 (ws' := wTk g t0 t1 t2 t3 p0 K107 P) (As := []) (rest := [.int a1, .ref t3]) (st1 := [.int x106, .int a1, .ref t3]) (c_X5_cutNumber l g t0 t1 t2 t3 p0 K P hg) (cwV 0 hts gX5_cutToken_X5_cutNumber rfl rfl rfl q_X5_cutNumber ⟨Nat.le_of_ble_eq_true rfl, Nat.le_of_ble_eq_true rfl⟩) ⟨hx, hb, hml, hown, hts⟩ hE hP hD hS hA 5 0 rfl rfl rfl rfl hl.1 rfl rfl (Nat.le_of_ble_eq_true rfl) dX5_cutToken_100 (fun H locs hP hD hS => ?_)
        obtain ⟨f108, hg, hf⟩ := o1_s hf
        refine Ct.callSN (ws' := wTk g t0 t1 t2 t3 p0 (K107.1, K107.2.1, f108, K107.2.2.2.1, K107.2.2.2.2) P) (As := [.ref t3, .int a1, .int x106]) (rest := []) (st1 := []) (c_X6_put l g t3 121 K107.2.2.1 a1 x106 hg) (⟨va_cnB 3 hts gX5_cutToken_X6_put_n45 rfl rfl rfl (hE.2.1 _ (List.mem_of_getElem? (i := 38) rfl)) w4 q_X6_put.2 ⟨Nat.le_of_ble_eq_true rfl, Nat.le_of_ble_eq_true rfl⟩, w7, trivial⟩) ⟨hx, hb, hml, hown, hts⟩ hE hP hD hS hA [3] rfl rfl rfl rfl rfl hl.1 rfl rfl (Nat.le_of_ble_eq_true rfl) dX5_cutToken_103 (fun H locs hP hD hS => ?_)
        refine lv_bipush (v := (15 : Int32)) hx hb dX5_cutToken_106 (by decide) ?_
        obtain ⟨rfl, rfl⟩ := some_p2 hf
        rw [hQ]; exact Ct.iret hx hb hr hlocks hAe hP hD hS dX5_cutToken_108
    · have hf := if_f hf hc
      refine L33 _ _ _ _ _ _ _  hf hP hD hS (lv_sub hl [1, 0] rfl) (fun K113 H locs ls hf hP hD hS hl => ?_)
      refine lv_aload_n hx hb dX5_cutToken_74 rfl (lv_at hl 0 rfl) ?_
      refine lv_iload_n hx hb dX5_cutToken_75 rfl (lv_at hl 1 rfl) ?_
      obtain ⟨x114, hg, hf⟩ := o1_s hf
      refine Ct.callV0 (ws' := wTk g t0 t1 t2 t3 p0 K113 P) (As := [.int K.2.2.2.2]) (rest := []) (st1 := [.int x114]) (c_X5_sortOfWord l g t0 t1 t2 t3 p0 K113 P K.2.2.2.2 hg) (cwV 1 hts gX5_cutToken_X5_sortOfWord rfl rfl rfl q_X5_sortOfWord ⟨Nat.le_of_ble_eq_true rfl, Nat.le_of_ble_eq_true rfl⟩) ⟨hx, hb, hml, hown, hts⟩ hE hP hD hS hA 5 0 rfl rfl rfl rfl hl.1 rfl rfl (Nat.le_of_ble_eq_true rfl) dX5_cutToken_76 (fun H locs hP hD hS => ?_)
      obtain ⟨rfl, rfl⟩ := some_p2 hf
      rw [hQ]; exact Ct.iret hx hb hr hlocks hAe hP hD hS dX5_cutToken_79
  · have hf := if_f hf hc
    refine lv_bipush (v := (17 : Int32)) hx hb dX5_cutToken_11 (by decide) ?_
    obtain ⟨rfl, rfl⟩ := some_p2 hf
    rw [hQ]; exact Ct.iret hx hb hr hlocks hAe hP hD hS dX5_cutToken_13
def fX5_cut_L29 (P : Nat → Int32) (kx : Tk → Option (Tk)) : Nat → Tk → Option (Tk)
  | 0, _ => none
  | k + 1, K => if K.2.2.2.1 ≤ K.2.2.2.2 then (kx K) else (o1 (fX6_at 120 P K.2.2.2.2) (fun x102 => if x102 = (32 : Int32) then (fX5_cut_L29 P kx k (K.1, K.2.1, K.2.2.1, K.2.2.2.1, (K.2.2.2.2 + (1 : Int32)))) else (kx K)))
def fX5_cut_L20 (P : Nat → Int32) (kx : Tk → Option (Tk)) : Nat → Tk → Int32 → Option (Tk)
  | 0, _, _ => none
  | k + 1, K, x2 => if (121 : Int32) ≤ x2 then (kx K) else (fX5_cut_L29 P (fun K108 => wr K108.2.1 121 x2 K108.2.2.2.2 (fun f109 => o2 (fX5_cutToken (K108.1, f109, K108.2.2.1, K108.2.2.2.1, K108.2.2.2.2) P x2) (fun x110 K111 => o1 (fX6_put 121 K111.1 x2 x110) (fun f112 => fX5_cut_L20 P kx k (f112, K111.2.1, K111.2.2.1, K111.2.2.2.1, K111.2.2.2.2) (x2 + (1 : Int32)))))) fu K)
def fX5_cut (K : Tk) (P : Nat → Int32) (a1 : Int32) : Option (Tk) := fX5_cut_L20 P (fun K113 => some K113) fu (K.1, K.2.1, K.2.2.1, (if (120 : Int32) < a1 then (120 : Int32) else a1), (0 : Int32)) (0 : Int32)
theorem q_X5_cut : yX5_cut.cls = RX5 ∧ yX5_cut.cls ≠ "java/lang/invoke/MethodHandle" ∧ yX5_cut.cls ≠ "java/lang/invoke/VarHandle" ∧ (parseMethodDescriptor yX5_cut.desc).map (fun d => d.parameters.length) = some 1 := by decide +kernel
theorem i_X5_cut_X5 : ∀ w ∈ u_ws RX5 TX5 6, w ∈ wsX5_cut := fun _ h => List.mem_cons_of_mem _ (List.mem_append_right _ (h))
set_option maxHeartbeats 4000000 in
set_option maxRecDepth 100000 in
theorem c_X5_cut (l : Launch) (g : gG) (t0 t1 t2 t3 p0 : Nat) (K : Tk) (P : Nat → Int32) (a1 : Int32) {K' : Tk} (hf : fX5_cut K P a1 = some K') : Ct l yX5_cut wsX5_cut (rmm 9 288) g (wTk g t0 t1 t2 t3 p0 K P) (wTk g t0 t1 t2 t3 p0 (K') P) [.ref t0, .int a1] none := by
  refine Ct.mk (by decide) rfl (Nat.le_of_ble_eq_true rfl) ?_
  intro p e s m args below meth c A ls hx hb hr hml hts hown hlocks hA hE hP hD hS hl hAe
  obtain ⟨Qx, hQ⟩ : ∃ Qx : State → Prop, Qx = MQ below (QcG g (wTk g t0 t1 t2 t3 p0 K P) (wTk g t0 t1 t2 t3 p0 (K') P) none s.heap.size) args s 0 0 A := ⟨_, rfl⟩
  rw [← hQ]
  have hown : s.vm.findClass RX5 = some m.cls := hown
  have hl : lv_has ls 3 [(0, .ref t0), (1, .int a1)] := hl
  have w1 := hts (.fieldLink RX5 28 "RainVault$Tokens" "tape" "[I") (List.mem_of_getElem? (i := 1) rfl)
  have w2 := hts (.methodLink RX5 31 Lib.Math.min.name) (List.mem_of_getElem? (i := 2) rfl)
  have w3 := hts (.static Lib.Math.min.name) (List.mem_of_getElem? (i := 3) rfl)
  have w4 := hts (.initialized "java/lang/Math") (List.mem_of_getElem? (i := 4) rfl)
  have w5 := hts (.code Lib.Math.min.name Lib.Math.min.code 2 (some .int)) (List.mem_of_getElem? (i := 5) rfl)
  have w6 := hts (.fieldLink RX5 21 "RainVault$Tokens" "length" "I") (List.mem_of_getElem? (i := 6) rfl)
  have w7 := hts (.fieldLink RX5 25 "RainVault$Tokens" "place" "I") (List.mem_of_getElem? (i := 7) rfl)
  have w8 := hts (.fieldLink RX5 15 "RainVault$Tokens" "starts" "[I") (List.mem_of_getElem? (i := 8) rfl)
  have w9 := hts (.initialized RX6) (List.mem_of_getElem? (i := 11) rfl)
  have w10 := hts (.static yX6_at) (List.mem_of_getElem? (i := 10) rfl)
  have w11 := hts (.fieldLink RX5 9 "RainVault$Tokens" "sorts" "[I") (List.mem_of_getElem? (i := 9) rfl)
  have w12 := hts (.static yX6_put) (List.mem_of_getElem? (i := 89) rfl)
  have L29 : ∀ (x2 : Int32) (kx : Tk → Option (Tk)) (k : Nat) (K : Tk) (H : Heap) (locs : List Loc) (ls : Array Slot), fX5_cut_L29 P kx k K = some K' → va_P g.1 vwK (wTk g t0 t1 t2 t3 p0 K P) H → va_D A (wTk g t0 t1 t2 t3 p0 K P) → va_S A s.heap H locs → lv_has ls 3 [(0, .ref t0), (2, .int x2)] → (∀ (K : Tk) (H : Heap) (locs : List Loc) (ls : Array Slot), kx K = some K' → va_P g.1 vwK (wTk g t0 t1 t2 t3 p0 K P) H → va_D A (wTk g t0 t1 t2 t3 p0 K P) → va_S A s.heap H locs → lv_has ls 3 [(0, .ref t0), (2, .int x2)] → W p l e (rmm 9 288) s m args below meth c H locs 0 0 Qx (F0 m 69 ls [])) → W p l e (rmm 9 288) s m args below meth c H locs 0 0 Qx (F0 m 29 ls []) := by
    intro x2 kx k
    induction k with
    | zero => intro K H locs ls hf; exact nomatch (show (none : Option (Tk)) = some _ from hf)
    | succ k ih =>
      intro K H locs ls hf hP hD hS hl hk
      rw [fX5_cut_L29] at hf
      refine lv_aload_n hx hb dX5_cut_29 rfl (lv_at hl 0 rfl) ?_
      refine va_get (D := g.1) (ci := 5) (v := .int K.2.2.2.2) (C := RX5) (T := TX5) (N := 6) hx hb hts i_X5_cut_X5 hown hE.1 hP 0 rfl rfl 5 (by decide) w7 (fun _ h9 => h9) rfl dX5_cut_30 ?_
      refine lv_aload_n hx hb dX5_cut_33 rfl (lv_at hl 0 rfl) ?_
      refine va_get (D := g.1) (ci := 5) (v := .int K.2.2.2.1) (C := RX5) (T := TX5) (N := 6) hx hb hts i_X5_cut_X5 hown hE.1 hP 0 rfl rfl 4 (by decide) w6 (fun _ h9 => h9) rfl dX5_cut_34 ?_
      refine lv_icmp_ge (tgt := 69) hx hb dX5_cut_37 (by decide) (fun hc => ?_) (fun hc => ?_)
      · have hf := if_t hf hc
        exact hk _ _ _ _  hf hP hD hS (lv_sub hl [0, 1] rfl)
      · have hf := if_f hf hc
        refine lv_aload_n hx hb dX5_cut_40 rfl (lv_at hl 0 rfl) ?_
        refine va_get (D := g.1) (ci := 5) (v := .ref p0) (C := RX5) (T := TX5) (N := 6) hx hb hts i_X5_cut_X5 hown hE.1 hP 0 rfl rfl 0 (by decide) w1 (fun _ h9 => h9) rfl dX5_cut_41 ?_
        refine lv_aload_n hx hb dX5_cut_44 rfl (lv_at hl 0 rfl) ?_
        refine va_get (D := g.1) (ci := 5) (v := .int K.2.2.2.2) (C := RX5) (T := TX5) (N := 6) hx hb hts i_X5_cut_X5 hown hE.1 hP 0 rfl rfl 5 (by decide) w7 (fun _ h9 => h9) rfl dX5_cut_45 ?_
        obtain ⟨x102, hg, hf⟩ := o1_s hf
        refine Ct.callSN (ws' := wTk g t0 t1 t2 t3 p0 K P) (As := [.ref p0, .int K.2.2.2.2]) (rest := []) (st1 := [.int x102]) (c_X6_at l g p0 120 P K.2.2.2.2 hg) (⟨va_cnB 2 hts gX5_cut_X6_at_n37 rfl rfl rfl (hE.2.1 _ (List.mem_of_getElem? (i := 37) rfl)) w9 q_X6_at.2 ⟨Nat.le_of_ble_eq_true rfl, Nat.le_of_ble_eq_true rfl⟩, w10, trivial⟩) ⟨hx, hb, hml, hown, hts⟩ hE hP hD hS hA [4] rfl rfl rfl rfl rfl hl.1 rfl rfl (Nat.le_of_ble_eq_true rfl) dX5_cut_48 (fun H locs hP hD hS => ?_)
        refine lv_bipush (v := (32 : Int32)) hx hb dX5_cut_51 (by decide) ?_
        refine lv_icmp_ne (tgt := 69) hx hb dX5_cut_53 (by decide) (fun hc => ?_) (fun hc => ?_)
        · have hf := if_f hf hc
          exact hk _ _ _ _  hf hP hD hS (lv_sub hl [0, 1] rfl)
        · have hf := if_t hf hc
          refine lv_aload_n hx hb dX5_cut_56 rfl (lv_at hl 0 rfl) ?_
          refine lv_dup hx hb dX5_cut_57 rfl ?_
          refine va_get (D := g.1) (ci := 5) (v := .int K.2.2.2.2) (C := RX5) (T := TX5) (N := 6) hx hb hts i_X5_cut_X5 hown hE.1 hP 0 rfl rfl 5 (by decide) w7 (fun _ h9 => h9) rfl dX5_cut_58 ?_
          refine lv_iconst (v := (1 : Int32)) hx hb dX5_cut_61 (by decide) ?_
          refine lv_iadd hx hb dX5_cut_62 ?_
          refine va_put (D := g.1) (ci := 5) (v := .int (K.2.2.2.2 + (1 : Int32))) (ty := .int) (C := RX5) (T := TX5) (N := 6) hx hb hts i_X5_cut_X5 tyX5 tyX5_ok nmX5 hown hE.1 hP hD hS 0 rfl rfl 5 (by decide) w7 (fun _ h9 => h9) rfl (by decide +kernel) rfl rfl (Nat.le_of_ble_eq_true rfl) dX5_cut_63 (fun H locs hP hD hS => ?_)
          have hP : va_P g.1 vwK (wTk g t0 t1 t2 t3 p0 (K.1, K.2.1, K.2.2.1, K.2.2.2.1, (K.2.2.2.2 + (1 : Int32))) P) H := hP
          have hD : va_D A (wTk g t0 t1 t2 t3 p0 (K.1, K.2.1, K.2.2.1, K.2.2.2.1, (K.2.2.2.2 + (1 : Int32))) P) := hD
          refine lv_goto (tgt := 29) hx hb dX5_cut_66 (by decide) ?_
          exact ih _ _ _ _  hf hP hD hS (lv_sub hl [0, 1] rfl) hk
  have L20 : ∀ (kx : Tk → Option (Tk)) (k : Nat) (K : Tk) (x2 : Int32) (H : Heap) (locs : List Loc) (ls : Array Slot), fX5_cut_L20 P kx k K x2 = some K' → va_P g.1 vwK (wTk g t0 t1 t2 t3 p0 K P) H → va_D A (wTk g t0 t1 t2 t3 p0 K P) → va_S A s.heap H locs → lv_has ls 3 [(0, .ref t0), (2, .int x2)] → (∀ (K : Tk) (H : Heap) (locs : List Loc) (ls : Array Slot), kx K = some K' → va_P g.1 vwK (wTk g t0 t1 t2 t3 p0 K P) H → va_D A (wTk g t0 t1 t2 t3 p0 K P) → va_S A s.heap H locs → lv_has ls 3 [] → W p l e (rmm 9 288) s m args below meth c H locs 0 0 Qx (F0 m 98 ls [])) → W p l e (rmm 9 288) s m args below meth c H locs 0 0 Qx (F0 m 20 ls []) := by
    intro kx k
    induction k with
    | zero => intro K x2 H locs ls hf; exact nomatch (show (none : Option (Tk)) = some _ from hf)
    | succ k ih =>
      intro K x2 H locs ls hf hP hD hS hl hk
      rw [fX5_cut_L20] at hf
      refine lv_iload_n hx hb dX5_cut_20 rfl (lv_at hl 1 rfl) ?_
      refine lv_aload_n hx hb dX5_cut_21 rfl (lv_at hl 0 rfl) ?_
      refine va_get (D := g.1) (ci := 5) (v := .ref t2) (C := RX5) (T := TX5) (N := 6) hx hb hts i_X5_cut_X5 hown hE.1 hP 0 rfl rfl 2 (by decide) w8 (fun _ h9 => h9) rfl dX5_cut_22 ?_
      refine va_alen (v := (121 : Int32)) hx hb hE.1 hP 2 0 rfl rfl (show Int32.ofNat 121 = (121 : Int32) by decide) dX5_cut_25 ?_
      refine lv_icmp_ge (tgt := 98) hx hb dX5_cut_26 (by decide) (fun hc => ?_) (fun hc => ?_)
      · have hf := if_t hf hc
        exact hk _ _ _ _  hf hP hD hS (lv_sub hl [] rfl)
      · have hf := if_f hf hc
        refine L29 _ _ _ _ _ _ _  hf hP hD hS (lv_sub hl [0, 1] rfl) (fun K108 H locs ls hf hP hD hS hl => ?_)
        refine lv_aload_n hx hb dX5_cut_69 rfl (lv_at hl 0 rfl) ?_
        refine va_get (D := g.1) (ci := 5) (v := .ref t2) (C := RX5) (T := TX5) (N := 6) hx hb hts i_X5_cut_X5 hown hE.1 hP 0 rfl rfl 2 (by decide) w8 (fun _ h9 => h9) rfl dX5_cut_70 ?_
        refine lv_iload_n hx hb dX5_cut_73 rfl (lv_at hl 1 rfl) ?_
        refine lv_aload_n hx hb dX5_cut_74 rfl (lv_at hl 0 rfl) ?_
        refine va_get (D := g.1) (ci := 5) (v := .int K108.2.2.2.2) (C := RX5) (T := TX5) (N := 6) hx hb hts i_X5_cut_X5 hown hE.1 hP 0 rfl rfl 5 (by decide) w7 (fun _ h9 => h9) rfl dX5_cut_75 ?_
        obtain ⟨f109, ef, hin, hf⟩ := wr_s hf
        refine st_iast (ws' := wTk g t0 t1 t2 t3 p0 (K108.1, f109, K108.2.2.1, K108.2.2.2.1, K108.2.2.2.2) P) (f := K108.2.1) (f2 := f109) hx hb hE.1 hP hD hS 2 0 rfl rfl hin ef rfl dX5_cut_78 (fun H locs hP hD hS => ?_)
        refine lv_aload_n hx hb dX5_cut_79 rfl (lv_at hl 0 rfl) ?_
        refine va_get (D := g.1) (ci := 5) (v := .ref t1) (C := RX5) (T := TX5) (N := 6) hx hb hts i_X5_cut_X5 hown hE.1 hP 0 rfl rfl 1 (by decide) w11 (fun _ h9 => h9) rfl dX5_cut_80 ?_
        refine lv_iload_n hx hb dX5_cut_83 rfl (lv_at hl 1 rfl) ?_
        refine lv_aload_n hx hb dX5_cut_84 rfl (lv_at hl 0 rfl) ?_
        refine lv_iload_n hx hb dX5_cut_85 rfl (lv_at hl 1 rfl) ?_
        obtain ⟨x110, K111, hg, hf⟩ := o2_s hf
        refine Ct.callV0 (ws' := wTk g t0 t1 t2 t3 p0 K111 P) (As := [.int x2]) (rest := [.int x2, .ref t1]) (st1 := [.int x110, .int x2, .ref t1]) (c_X5_cutToken l g t0 t1 t2 t3 p0 (K108.1, f109, K108.2.2.1, K108.2.2.2.1, K108.2.2.2.2) P x2 hg) (cwV 1 hts gX5_cut_X5_cutToken rfl rfl rfl q_X5_cutToken ⟨Nat.le_of_ble_eq_true rfl, Nat.le_of_ble_eq_true rfl⟩) ⟨hx, hb, hml, hown, hts⟩ hE hP hD hS hA 5 0 rfl rfl rfl rfl hl.1 rfl rfl (Nat.le_of_ble_eq_true rfl) dX5_cut_86 (fun H locs hP hD hS => ?_)
        obtain ⟨f112, hg, hf⟩ := o1_s hf
        refine Ct.callSN (ws' := wTk g t0 t1 t2 t3 p0 (f112, K111.2.1, K111.2.2.1, K111.2.2.2.1, K111.2.2.2.2) P) (As := [.ref t1, .int x2, .int x110]) (rest := []) (st1 := []) (c_X6_put l g t1 121 K111.1 x2 x110 hg) (⟨va_cnB 3 hts gX5_cut_X6_put_n45 rfl rfl rfl (hE.2.1 _ (List.mem_of_getElem? (i := 38) rfl)) w9 q_X6_put.2 ⟨Nat.le_of_ble_eq_true rfl, Nat.le_of_ble_eq_true rfl⟩, w12, trivial⟩) ⟨hx, hb, hml, hown, hts⟩ hE hP hD hS hA [1] rfl rfl rfl rfl rfl hl.1 rfl rfl (Nat.le_of_ble_eq_true rfl) dX5_cut_89 (fun H locs hP hD hS => ?_)
        refine lv_iinc (v := (x2 + (1 : Int32))) (lv' := [(2, .int (x2 + (1 : Int32))), (0, .ref t0)]) hx hb dX5_cut_92 hl (k := 1) rfl rfl (by decide) rfl (fun ls hl => ?_)
        refine lv_goto (tgt := 20) hx hb dX5_cut_95 (by decide) ?_
        exact ih _ _ _ _ _  hf hP hD hS (lv_sub hl [1, 0] rfl) hk
  unfold fX5_cut at hf
  refine lv_aload_n hx hb dX5_cut_0 rfl (lv_at hl 0 rfl) ?_
  refine lv_iload_n hx hb dX5_cut_1 rfl (lv_at hl 1 rfl) ?_
  refine lv_aload_n hx hb dX5_cut_2 rfl (lv_at hl 0 rfl) ?_
  refine va_get (D := g.1) (ci := 5) (v := .ref p0) (C := RX5) (T := TX5) (N := 6) hx hb hts i_X5_cut_X5 hown hE.1 hP 0 rfl rfl 0 (by decide) w1 (fun _ h9 => h9) rfl dX5_cut_3 ?_
  refine va_alen (v := (120 : Int32)) hx hb hE.1 hP 4 0 rfl rfl (show Int32.ofNat 120 = (120 : Int32) by decide) dX5_cut_6 ?_
  refine va_mmin hx hb (hml.trans hl.1.symm) hown w2 w3 w4 w5 (Nat.le_of_ble_eq_true rfl) (Nat.le_of_ble_eq_true rfl) (Nat.zero_le _) (Nat.zero_le _) dX5_cut_7 ?_
  refine va_put (D := g.1) (ci := 5) (v := .int (if (120 : Int32) < a1 then (120 : Int32) else a1)) (ty := .int) (C := RX5) (T := TX5) (N := 6) hx hb hts i_X5_cut_X5 tyX5 tyX5_ok nmX5 hown hE.1 hP hD hS 0 rfl rfl 4 (by decide) w6 (fun _ h9 => h9) rfl (by decide +kernel) rfl rfl (Nat.le_of_ble_eq_true rfl) dX5_cut_10 (fun H locs hP hD hS => ?_)
  have hP : va_P g.1 vwK (wTk g t0 t1 t2 t3 p0 (K.1, K.2.1, K.2.2.1, (if (120 : Int32) < a1 then (120 : Int32) else a1), K.2.2.2.2) P) H := hP
  have hD : va_D A (wTk g t0 t1 t2 t3 p0 (K.1, K.2.1, K.2.2.1, (if (120 : Int32) < a1 then (120 : Int32) else a1), K.2.2.2.2) P) := hD
  refine lv_aload_n hx hb dX5_cut_13 rfl (lv_at hl 0 rfl) ?_
  refine lv_iconst (v := (0 : Int32)) hx hb dX5_cut_14 (by decide) ?_
  refine va_put (D := g.1) (ci := 5) (v := .int (0 : Int32)) (ty := .int) (C := RX5) (T := TX5) (N := 6) hx hb hts i_X5_cut_X5 tyX5 tyX5_ok nmX5 hown hE.1 hP hD hS 0 rfl rfl 5 (by decide) w7 (fun _ h9 => h9) rfl (by decide +kernel) rfl rfl (Nat.le_of_ble_eq_true rfl) dX5_cut_15 (fun H locs hP hD hS => ?_)
  have hP : va_P g.1 vwK (wTk g t0 t1 t2 t3 p0 (K.1, K.2.1, K.2.2.1, (if (120 : Int32) < a1 then (120 : Int32) else a1), (0 : Int32)) P) H := hP
  have hD : va_D A (wTk g t0 t1 t2 t3 p0 (K.1, K.2.1, K.2.2.1, (if (120 : Int32) < a1 then (120 : Int32) else a1), (0 : Int32)) P) := hD
  refine lv_iconst (v := (0 : Int32)) hx hb dX5_cut_18 (by decide) ?_
  refine lv_istore_n (lv' := [(2, .int (0 : Int32)), (0, .ref t0), (1, .int a1)]) hx hb dX5_cut_19 rfl hl (by decide) rfl (fun ls hl => ?_)
  refine L20 _ _ _ _ _ _ _  hf hP hD hS (lv_sub hl [1, 0] rfl) (fun K113 H locs ls hf hP hD hS hl => ?_)
  obtain rfl := Option.some.inj hf
  rw [hQ]; exact Ct.vret hx hb hr hlocks hAe hP hD hS dX5_cut_98
def fX4_sortNow (Q : Tr) (K : Tk) : Option (Int32) := o1 (fX6_at 121 K.1 Q.1) (fun x101 => some x101)
theorem q_X4_sortNow : yX4_sortNow.cls = RX4 ∧ yX4_sortNow.cls ≠ "java/lang/invoke/MethodHandle" ∧ yX4_sortNow.cls ≠ "java/lang/invoke/VarHandle" ∧ (parseMethodDescriptor yX4_sortNow.desc).map (fun d => d.parameters.length) = some 0 := by decide +kernel
theorem i_X4_sortNow_X4 : ∀ w ∈ u_ws RX4 TX4 4, w ∈ wsX4_sortNow := fun _ h => List.mem_cons_of_mem _ (List.mem_append_left _ (List.mem_append_right _ (h)))
theorem i_X4_sortNow_X5 : ∀ w ∈ u_ws RX5 TX5 6, w ∈ wsX4_sortNow := fun _ h => List.mem_cons_of_mem _ (List.mem_append_right _ (h))
set_option maxHeartbeats 4000000 in
set_option maxRecDepth 100000 in
theorem c_X4_sortNow (l : Launch) (g : gG) (r0 t0 t1 t2 t3 p0 h0 h1 h2 h3 : Nat) (Q : Tr) (K : Tk) (P : Nat → Int32) (R : Rf) {r : Int32} (hf : fX4_sortNow Q K = some r) : Ct l yX4_sortNow wsX4_sortNow (rmm 1 21) g (wTr g r0 t0 t1 t2 t3 p0 h0 h1 h2 h3 Q K P R) (wTr g r0 t0 t1 t2 t3 p0 h0 h1 h2 h3 Q K P R) [.ref r0] (some (.int r)) := by
  refine Ct.mk (by decide) rfl (Nat.le_of_ble_eq_true rfl) ?_
  intro p e s m args below meth c A ls hx hb hr hml hts hown hlocks hA hE hP hD hS hl hAe
  obtain ⟨Qx, hQ⟩ : ∃ Qx : State → Prop, Qx = MQ below (QcG g (wTr g r0 t0 t1 t2 t3 p0 h0 h1 h2 h3 Q K P R) (wTr g r0 t0 t1 t2 t3 p0 h0 h1 h2 h3 Q K P R) (some (.int r)) s.heap.size) args s 0 0 A := ⟨_, rfl⟩
  rw [← hQ]
  have hown : s.vm.findClass RX4 = some m.cls := hown
  have hl : lv_has ls 1 [(0, .ref r0)] := hl
  have w1 := hts (.fieldLink RX4 23 "RainVault$TextReader" "tokens" "LRainVault$Tokens;") (List.mem_of_getElem? (i := 1) rfl)
  have w2 := hts (.fieldLink RX4 9 "RainVault$TextReader" "now" "I") (List.mem_of_getElem? (i := 2) rfl)
  have w3 := hts (.initialized RX6) (List.mem_of_getElem? (i := 4) rfl)
  have w4 := hts (.static yX6_at) (List.mem_of_getElem? (i := 3) rfl)
  unfold fX4_sortNow at hf
  refine lv_aload_n hx hb dX4_sortNow_0 rfl (lv_at hl 0 rfl) ?_
  refine va_get (D := g.1) (ci := 4) (v := .ref t0) (C := RX4) (T := TX4) (N := 4) hx hb hts i_X4_sortNow_X4 hown hE.1 hP 0 rfl rfl 0 (by decide) w1 (fun _ h9 => h9) rfl dX4_sortNow_1 ?_
  refine va_getN (D := g.1) (ci := 5) (v := .ref t1) (C := RX5) (T := TX5) (N := 6) hx hb hts i_X4_sortNow_X5 hown hE.1 hP 1 rfl rfl 1 (by decide) (va_Nw.use rfl (hE.2.1 _ (List.mem_of_getElem? (i := 15) rfl))) (fun _ h9 => h9) rfl dX4_sortNow_4 ?_
  refine lv_aload_n hx hb dX4_sortNow_7 rfl (lv_at hl 0 rfl) ?_
  refine va_get (D := g.1) (ci := 4) (v := .int Q.1) (C := RX4) (T := TX4) (N := 4) hx hb hts i_X4_sortNow_X4 hown hE.1 hP 0 rfl rfl 2 (by decide) w2 (fun _ h9 => h9) rfl dX4_sortNow_8 ?_
  obtain ⟨x101, hg, hf⟩ := o1_s hf
  refine Ct.callSN (ws' := wTr g r0 t0 t1 t2 t3 p0 h0 h1 h2 h3 Q K P R) (As := [.ref t1, .int Q.1]) (rest := []) (st1 := [.int x101]) (c_X6_at l g t1 121 K.1 Q.1 hg) (⟨va_cnB 2 hts gX4_sortNow_X6_at_n47 rfl rfl rfl (hE.2.1 _ (List.mem_of_getElem? (i := 39) rfl)) w3 q_X6_at.2 ⟨Nat.le_of_ble_eq_true rfl, Nat.le_of_ble_eq_true rfl⟩, w4, trivial⟩) ⟨hx, hb, hml, hown, hts⟩ hE hP hD hS hA [2] rfl rfl rfl rfl rfl hl.1 rfl rfl (Nat.le_of_ble_eq_true rfl) dX4_sortNow_11 (fun H locs hP hD hS => ?_)
  obtain rfl := Option.some.inj hf
  rw [hQ]; exact Ct.iret hx hb hr hlocks hAe hP hD hS dX4_sortNow_14
def fX4_takeNumber (Q : Tr) (K : Tk) (a1 : Int32) (a2 : Int32) : Option (Int32 × Tr) := o1 (fX6_at 121 K.2.2.1 Q.1) (fun x101 => o1 (fX6_at 121 K.1 Q.1) (fun x102 => if x102 = (15 : Int32) then (o1 (fX6_isWithin x101 a1 a2) (fun x103 => if x103 = 0 then (some ((0 : Int32), Q)) else (some ((1 : Int32), ((Q.1 + (1 : Int32)), x101))))) else (some ((0 : Int32), Q))))
theorem q_X4_takeNumber : yX4_takeNumber.cls = RX4 ∧ yX4_takeNumber.cls ≠ "java/lang/invoke/MethodHandle" ∧ yX4_takeNumber.cls ≠ "java/lang/invoke/VarHandle" ∧ (parseMethodDescriptor yX4_takeNumber.desc).map (fun d => d.parameters.length) = some 2 := by decide +kernel
theorem i_X4_takeNumber_X4 : ∀ w ∈ u_ws RX4 TX4 4, w ∈ wsX4_takeNumber := fun _ h => List.mem_cons_of_mem _ (List.mem_append_left _ (List.mem_append_right _ (h)))
theorem i_X4_takeNumber_X5 : ∀ w ∈ u_ws RX5 TX5 6, w ∈ wsX4_takeNumber := fun _ h => List.mem_cons_of_mem _ (List.mem_append_right _ (h))
set_option maxHeartbeats 4000000 in
set_option maxRecDepth 100000 in
theorem c_X4_takeNumber (l : Launch) (g : gG) (r0 t0 t1 t2 t3 p0 h0 h1 h2 h3 : Nat) (Q : Tr) (K : Tk) (P : Nat → Int32) (R : Rf) (a1 : Int32) (a2 : Int32) {r : Int32} {Q' : Tr} (hf : fX4_takeNumber Q K a1 a2 = some (r, Q')) : Ct l yX4_takeNumber wsX4_takeNumber (rmm 1 22) g (wTr g r0 t0 t1 t2 t3 p0 h0 h1 h2 h3 Q K P R) (wTr g r0 t0 t1 t2 t3 p0 h0 h1 h2 h3 (Q') K P R) [.ref r0, .int a1, .int a2] (some (.int r)) := by
  refine Ct.mk (by decide) rfl (Nat.le_of_ble_eq_true rfl) ?_
  intro p e s m args below meth c A ls hx hb hr hml hts hown hlocks hA hE hP hD hS hl hAe
  obtain ⟨Qx, hQ⟩ : ∃ Qx : State → Prop, Qx = MQ below (QcG g (wTr g r0 t0 t1 t2 t3 p0 h0 h1 h2 h3 Q K P R) (wTr g r0 t0 t1 t2 t3 p0 h0 h1 h2 h3 (Q') K P R) (some (.int r)) s.heap.size) args s 0 0 A := ⟨_, rfl⟩
  rw [← hQ]
  have hown : s.vm.findClass RX4 = some m.cls := hown
  have hl : lv_has ls 4 [(0, .ref r0), (1, .int a1), (2, .int a2)] := hl
  have w1 := hts (.fieldLink RX4 23 "RainVault$TextReader" "tokens" "LRainVault$Tokens;") (List.mem_of_getElem? (i := 1) rfl)
  have w2 := hts (.fieldLink RX4 9 "RainVault$TextReader" "now" "I") (List.mem_of_getElem? (i := 2) rfl)
  have w3 := hts (.initialized RX6) (List.mem_of_getElem? (i := 5) rfl)
  have w4 := hts (.static yX6_at) (List.mem_of_getElem? (i := 4) rfl)
  have w5 := hts (.static yX6_isWithin) (List.mem_of_getElem? (i := 7) rfl)
  have w6 := hts (.fieldLink RX4 15 "RainVault$TextReader" "taken" "I") (List.mem_of_getElem? (i := 3) rfl)
  unfold fX4_takeNumber at hf
  refine lv_aload_n hx hb dX4_takeNumber_0 rfl (lv_at hl 0 rfl) ?_
  refine va_get (D := g.1) (ci := 4) (v := .ref t0) (C := RX4) (T := TX4) (N := 4) hx hb hts i_X4_takeNumber_X4 hown hE.1 hP 0 rfl rfl 0 (by decide) w1 (fun _ h9 => h9) rfl dX4_takeNumber_1 ?_
  refine va_getN (D := g.1) (ci := 5) (v := .ref t3) (C := RX5) (T := TX5) (N := 6) hx hb hts i_X4_takeNumber_X5 hown hE.1 hP 1 rfl rfl 3 (by decide) (va_Nw.use rfl (hE.2.1 _ (List.mem_of_getElem? (i := 17) rfl))) (fun _ h9 => h9) rfl dX4_takeNumber_4 ?_
  refine lv_aload_n hx hb dX4_takeNumber_7 rfl (lv_at hl 0 rfl) ?_
  refine va_get (D := g.1) (ci := 4) (v := .int Q.1) (C := RX4) (T := TX4) (N := 4) hx hb hts i_X4_takeNumber_X4 hown hE.1 hP 0 rfl rfl 2 (by decide) w2 (fun _ h9 => h9) rfl dX4_takeNumber_8 ?_
  obtain ⟨x101, hg, hf⟩ := o1_s hf
  refine Ct.callSN (ws' := wTr g r0 t0 t1 t2 t3 p0 h0 h1 h2 h3 Q K P R) (As := [.ref t3, .int Q.1]) (rest := []) (st1 := [.int x101]) (c_X6_at l g t3 121 K.2.2.1 Q.1 hg) (⟨va_cnB 2 hts gX4_takeNumber_X6_at_n47 rfl rfl rfl (hE.2.1 _ (List.mem_of_getElem? (i := 39) rfl)) w3 q_X6_at.2 ⟨Nat.le_of_ble_eq_true rfl, Nat.le_of_ble_eq_true rfl⟩, w4, trivial⟩) ⟨hx, hb, hml, hown, hts⟩ hE hP hD hS hA [4] rfl rfl rfl rfl rfl hl.1 rfl rfl (Nat.le_of_ble_eq_true rfl) dX4_takeNumber_11 (fun H locs hP hD hS => ?_)
  refine lv_istore_n (lv' := [(3, .int x101), (0, .ref r0), (1, .int a1), (2, .int a2)]) hx hb dX4_takeNumber_14 rfl hl (by decide) rfl (fun ls hl => ?_)
  refine lv_aload_n hx hb dX4_takeNumber_15 rfl (lv_at hl 1 rfl) ?_
  refine va_get (D := g.1) (ci := 4) (v := .ref t0) (C := RX4) (T := TX4) (N := 4) hx hb hts i_X4_takeNumber_X4 hown hE.1 hP 0 rfl rfl 0 (by decide) w1 (fun _ h9 => h9) rfl dX4_takeNumber_16 ?_
  refine va_getN (D := g.1) (ci := 5) (v := .ref t1) (C := RX5) (T := TX5) (N := 6) hx hb hts i_X4_takeNumber_X5 hown hE.1 hP 1 rfl rfl 1 (by decide) (va_Nw.use rfl (hE.2.1 _ (List.mem_of_getElem? (i := 15) rfl))) (fun _ h9 => h9) rfl dX4_takeNumber_19 ?_
  refine lv_aload_n hx hb dX4_takeNumber_22 rfl (lv_at hl 1 rfl) ?_
  refine va_get (D := g.1) (ci := 4) (v := .int Q.1) (C := RX4) (T := TX4) (N := 4) hx hb hts i_X4_takeNumber_X4 hown hE.1 hP 0 rfl rfl 2 (by decide) w2 (fun _ h9 => h9) rfl dX4_takeNumber_23 ?_
  obtain ⟨x102, hg, hf⟩ := o1_s hf
  refine Ct.callSN (ws' := wTr g r0 t0 t1 t2 t3 p0 h0 h1 h2 h3 Q K P R) (As := [.ref t1, .int Q.1]) (rest := []) (st1 := [.int x102]) (c_X6_at l g t1 121 K.1 Q.1 hg) (⟨va_cnB 2 hts gX4_takeNumber_X6_at_n47 rfl rfl rfl (hE.2.1 _ (List.mem_of_getElem? (i := 39) rfl)) w3 q_X6_at.2 ⟨Nat.le_of_ble_eq_true rfl, Nat.le_of_ble_eq_true rfl⟩, w4, trivial⟩) ⟨hx, hb, hml, hown, hts⟩ hE hP hD hS hA [2] rfl rfl rfl rfl rfl hl.1 rfl rfl (Nat.le_of_ble_eq_true rfl) dX4_takeNumber_26 (fun H locs hP hD hS => ?_)
  refine lv_bipush (v := (15 : Int32)) hx hb dX4_takeNumber_29 (by decide) ?_
  refine lv_icmp_ne (tgt := 43) hx hb dX4_takeNumber_31 (by decide) (fun hc => ?_) (fun hc => ?_)
  · have hf := if_f hf hc
    refine lv_iconst (v := (0 : Int32)) hx hb dX4_takeNumber_43 (by decide) ?_
    obtain ⟨rfl, rfl⟩ := some_p2 hf
    rw [hQ]; exact Ct.zret hx hb hr (by decide) hlocks hAe hP hD hS dX4_takeNumber_44
  · have hf := if_t hf hc
    refine lv_iload_n hx hb dX4_takeNumber_34 rfl (lv_at hl 0 rfl) ?_
    refine lv_iload_n hx hb dX4_takeNumber_35 rfl (lv_at hl 2 rfl) ?_
    refine lv_iload_n hx hb dX4_takeNumber_36 rfl (lv_at hl 3 rfl) ?_
    obtain ⟨x103, hg, hf⟩ := o1_s hf
    refine Ct.callSN (ws' := wTr g r0 t0 t1 t2 t3 p0 h0 h1 h2 h3 Q K P R) (As := [.int x101, .int a1, .int a2]) (rest := []) (st1 := [.int x103]) (c_X6_isWithin l g x101 a1 a2 hg) (⟨va_cnB 3 hts gX4_takeNumber_X6_isWithin_n106 rfl rfl rfl (hE.2.1 _ (List.mem_of_getElem? (i := 40) rfl)) w3 q_X6_isWithin.2 ⟨Nat.le_of_ble_eq_true rfl, Nat.le_of_ble_eq_true rfl⟩, w5, trivial⟩) ⟨hx, hb, hml, hown, hts⟩ hE hP hD hS hA [] rfl rfl rfl rfl rfl hl.1 rfl rfl (Nat.le_of_ble_eq_true rfl) dX4_takeNumber_37 (fun H locs hP hD hS => ?_)
    refine lv_if_ne (tgt := 45) hx hb dX4_takeNumber_40 (by decide) (fun hc => ?_) (fun hc => ?_)
    · have hf := if_f hf hc
      refine lv_aload_n hx hb dX4_takeNumber_45 rfl (lv_at hl 1 rfl) ?_
      refine lv_iload_n hx hb dX4_takeNumber_46 rfl (lv_at hl 0 rfl) ?_
      refine va_put (D := g.1) (ci := 4) (v := .int x101) (ty := .int) (C := RX4) (T := TX4) (N := 4) hx hb hts i_X4_takeNumber_X4 tyX4 tyX4_ok nmX4 hown hE.1 hP hD hS 0 rfl rfl 3 (by decide) w6 (fun _ h9 => h9) rfl (by decide +kernel) rfl rfl (Nat.le_of_ble_eq_true rfl) dX4_takeNumber_47 (fun H locs hP hD hS => ?_)
      have hP : va_P g.1 vwK (wTr g r0 t0 t1 t2 t3 p0 h0 h1 h2 h3 (Q.1, x101) K P R) H := hP
      have hD : va_D A (wTr g r0 t0 t1 t2 t3 p0 h0 h1 h2 h3 (Q.1, x101) K P R) := hD
      refine lv_aload_n hx hb dX4_takeNumber_50 rfl (lv_at hl 1 rfl) ?_
      refine lv_dup hx hb dX4_takeNumber_51 rfl ?_
      refine va_get (D := g.1) (ci := 4) (v := .int Q.1) (C := RX4) (T := TX4) (N := 4) hx hb hts i_X4_takeNumber_X4 hown hE.1 hP 0 rfl rfl 2 (by decide) w2 (fun _ h9 => h9) rfl dX4_takeNumber_52 ?_
      refine lv_iconst (v := (1 : Int32)) hx hb dX4_takeNumber_55 (by decide) ?_
      refine lv_iadd hx hb dX4_takeNumber_56 ?_
      refine va_put (D := g.1) (ci := 4) (v := .int (Q.1 + (1 : Int32))) (ty := .int) (C := RX4) (T := TX4) (N := 4) hx hb hts i_X4_takeNumber_X4 tyX4 tyX4_ok nmX4 hown hE.1 hP hD hS 0 rfl rfl 2 (by decide) w2 (fun _ h9 => h9) rfl (by decide +kernel) rfl rfl (Nat.le_of_ble_eq_true rfl) dX4_takeNumber_57 (fun H locs hP hD hS => ?_)
      have hP : va_P g.1 vwK (wTr g r0 t0 t1 t2 t3 p0 h0 h1 h2 h3 ((Q.1 + (1 : Int32)), x101) K P R) H := hP
      have hD : va_D A (wTr g r0 t0 t1 t2 t3 p0 h0 h1 h2 h3 ((Q.1 + (1 : Int32)), x101) K P R) := hD
      refine lv_iconst (v := (1 : Int32)) hx hb dX4_takeNumber_60 (by decide) ?_
      obtain ⟨rfl, rfl⟩ := some_p2 hf
      rw [hQ]; exact Ct.zret hx hb hr (by decide) hlocks hAe hP hD hS dX4_takeNumber_61
    · have hf := if_t hf hc
      refine lv_iconst (v := (0 : Int32)) hx hb dX4_takeNumber_43 (by decide) ?_
      obtain ⟨rfl, rfl⟩ := some_p2 hf
      rw [hQ]; exact Ct.zret hx hb hr (by decide) hlocks hAe hP hD hS dX4_takeNumber_44
def fX4_takePart (Q : Tr) (K : Tk) (a1 : Int32) (a2 : Int32) (a3 : Int32) (a4 : Int32) : Option (Int32 × Tr) := o1 (fX4_sortNow Q K) (fun x101 => if x101 = a1 then (o2 (fX4_takeNumber ((Q.1 + (1 : Int32)), Q.2) K a2 a3) (fun x102 Q103 => nb x102 (some (x102, Q103)))) else (some ((1 : Int32), (Q.1, a4))))
theorem q_X4_takePart : yX4_takePart.cls = RX4 ∧ yX4_takePart.cls ≠ "java/lang/invoke/MethodHandle" ∧ yX4_takePart.cls ≠ "java/lang/invoke/VarHandle" ∧ (parseMethodDescriptor yX4_takePart.desc).map (fun d => d.parameters.length) = some 4 := by decide +kernel
theorem i_X4_takePart_X4 : ∀ w ∈ u_ws RX4 TX4 4, w ∈ wsX4_takePart := fun _ h => List.mem_cons_of_mem _ (List.mem_append_left _ (List.mem_append_right _ (h)))
set_option maxHeartbeats 4000000 in
set_option maxRecDepth 100000 in
theorem c_X4_takePart (l : Launch) (g : gG) (r0 t0 t1 t2 t3 p0 h0 h1 h2 h3 : Nat) (Q : Tr) (K : Tk) (P : Nat → Int32) (R : Rf) (a1 : Int32) (a2 : Int32) (a3 : Int32) (a4 : Int32) {r : Int32} {Q' : Tr} (hf : fX4_takePart Q K a1 a2 a3 a4 = some (r, Q')) : Ct l yX4_takePart wsX4_takePart (rmm 2 45) g (wTr g r0 t0 t1 t2 t3 p0 h0 h1 h2 h3 Q K P R) (wTr g r0 t0 t1 t2 t3 p0 h0 h1 h2 h3 (Q') K P R) [.ref r0, .int a1, .int a2, .int a3, .int a4] (some (.int r)) := by
  refine Ct.mk (by decide) rfl (Nat.le_of_ble_eq_true rfl) ?_
  intro p e s m args below meth c A ls hx hb hr hml hts hown hlocks hA hE hP hD hS hl hAe
  obtain ⟨Qx, hQ⟩ : ∃ Qx : State → Prop, Qx = MQ below (QcG g (wTr g r0 t0 t1 t2 t3 p0 h0 h1 h2 h3 Q K P R) (wTr g r0 t0 t1 t2 t3 p0 h0 h1 h2 h3 (Q') K P R) (some (.int r)) s.heap.size) args s 0 0 A := ⟨_, rfl⟩
  rw [← hQ]
  have hown : s.vm.findClass RX4 = some m.cls := hown
  have hl : lv_has ls 5 [(0, .ref r0), (1, .int a1), (2, .int a2), (3, .int a3), (4, .int a4)] := hl
  have w1 := hts (.fieldLink RX4 15 "RainVault$TextReader" "taken" "I") (List.mem_of_getElem? (i := 2) rfl)
  have w2 := hts (.fieldLink RX4 9 "RainVault$TextReader" "now" "I") (List.mem_of_getElem? (i := 1) rfl)
  unfold fX4_takePart at hf
  refine lv_aload_n hx hb dX4_takePart_0 rfl (lv_at hl 0 rfl) ?_
  obtain ⟨x101, hg, hf⟩ := o1_s hf
  refine Ct.callV0 (ws' := wTr g r0 t0 t1 t2 t3 p0 h0 h1 h2 h3 Q K P R) (As := []) (rest := []) (st1 := [.int x101]) (c_X4_sortNow l g r0 t0 t1 t2 t3 p0 h0 h1 h2 h3 Q K P R hg) (cwV 0 hts gX4_takePart_X4_sortNow rfl rfl rfl q_X4_sortNow ⟨Nat.le_of_ble_eq_true rfl, Nat.le_of_ble_eq_true rfl⟩) ⟨hx, hb, hml, hown, hts⟩ hE hP hD hS hA 4 0 rfl rfl rfl rfl hl.1 rfl rfl (Nat.le_of_ble_eq_true rfl) dX4_takePart_1 (fun H locs hP hD hS => ?_)
  refine lv_iload_n hx hb dX4_takePart_4 rfl (lv_at hl 1 rfl) ?_
  refine lv_icmp_ne (tgt := 25) hx hb dX4_takePart_5 (by decide) (fun hc => ?_) (fun hc => ?_)
  · have hf := if_f hf hc
    refine lv_aload_n hx hb dX4_takePart_25 rfl (lv_at hl 0 rfl) ?_
    refine lv_iload hx hb dX4_takePart_26 (lv_at hl 4 rfl) ?_
    refine va_put (D := g.1) (ci := 4) (v := .int a4) (ty := .int) (C := RX4) (T := TX4) (N := 4) hx hb hts i_X4_takePart_X4 tyX4 tyX4_ok nmX4 hown hE.1 hP hD hS 0 rfl rfl 3 (by decide) w1 (fun _ h9 => h9) rfl (by decide +kernel) rfl rfl (Nat.le_of_ble_eq_true rfl) dX4_takePart_28 (fun H locs hP hD hS => ?_)
    have hP : va_P g.1 vwK (wTr g r0 t0 t1 t2 t3 p0 h0 h1 h2 h3 (Q.1, a4) K P R) H := hP
    have hD : va_D A (wTr g r0 t0 t1 t2 t3 p0 h0 h1 h2 h3 (Q.1, a4) K P R) := hD
    refine lv_iconst (v := (1 : Int32)) hx hb dX4_takePart_31 (by decide) ?_
    obtain ⟨rfl, rfl⟩ := some_p2 hf
    rw [hQ]; exact Ct.zret hx hb hr (by decide) hlocks hAe hP hD hS dX4_takePart_32
  · have hf := if_t hf hc
    refine lv_aload_n hx hb dX4_takePart_8 rfl (lv_at hl 0 rfl) ?_
    refine lv_dup hx hb dX4_takePart_9 rfl ?_
    refine va_get (D := g.1) (ci := 4) (v := .int Q.1) (C := RX4) (T := TX4) (N := 4) hx hb hts i_X4_takePart_X4 hown hE.1 hP 0 rfl rfl 2 (by decide) w2 (fun _ h9 => h9) rfl dX4_takePart_10 ?_
    refine lv_iconst (v := (1 : Int32)) hx hb dX4_takePart_13 (by decide) ?_
    refine lv_iadd hx hb dX4_takePart_14 ?_
    refine va_put (D := g.1) (ci := 4) (v := .int (Q.1 + (1 : Int32))) (ty := .int) (C := RX4) (T := TX4) (N := 4) hx hb hts i_X4_takePart_X4 tyX4 tyX4_ok nmX4 hown hE.1 hP hD hS 0 rfl rfl 2 (by decide) w2 (fun _ h9 => h9) rfl (by decide +kernel) rfl rfl (Nat.le_of_ble_eq_true rfl) dX4_takePart_15 (fun H locs hP hD hS => ?_)
    have hP : va_P g.1 vwK (wTr g r0 t0 t1 t2 t3 p0 h0 h1 h2 h3 ((Q.1 + (1 : Int32)), Q.2) K P R) H := hP
    have hD : va_D A (wTr g r0 t0 t1 t2 t3 p0 h0 h1 h2 h3 ((Q.1 + (1 : Int32)), Q.2) K P R) := hD
    refine lv_aload_n hx hb dX4_takePart_18 rfl (lv_at hl 0 rfl) ?_
    refine lv_iload_n hx hb dX4_takePart_19 rfl (lv_at hl 2 rfl) ?_
    refine lv_iload_n hx hb dX4_takePart_20 rfl (lv_at hl 3 rfl) ?_
    obtain ⟨x102, Q103, hg, hf⟩ := o2_s hf
    refine Ct.callV0 (ws' := wTr g r0 t0 t1 t2 t3 p0 h0 h1 h2 h3 Q103 K P R) (As := [.int a2, .int a3]) (rest := []) (st1 := [.int x102]) (c_X4_takeNumber l g r0 t0 t1 t2 t3 p0 h0 h1 h2 h3 ((Q.1 + (1 : Int32)), Q.2) K P R a2 a3 hg) (cwV 2 hts gX4_takePart_X4_takeNumber rfl rfl rfl q_X4_takeNumber ⟨Nat.le_of_ble_eq_true rfl, Nat.le_of_ble_eq_true rfl⟩) ⟨hx, hb, hml, hown, hts⟩ hE hP hD hS hA 4 0 rfl rfl rfl rfl hl.1 rfl rfl (Nat.le_of_ble_eq_true rfl) dX4_takePart_21 (fun H locs hP hD hS => ?_)
    obtain ⟨hn, hf⟩ := nb_s hf
    obtain ⟨rfl, rfl⟩ := some_p2 hf
    rw [hQ]; exact Ct.zret hx hb hr hn hlocks hAe hP hD hS dX4_takePart_24
def fX4_setTaken (Q : Tr) (R : Rf) (a1 : Int32) (a2 : Int32) : Option (Int32 × Rf) := o1 (fX1_set R a1 a2 Q.2) (fun R101 => some ((1 : Int32), R101))
theorem q_X4_setTaken : yX4_setTaken.cls = RX4 ∧ yX4_setTaken.cls ≠ "java/lang/invoke/MethodHandle" ∧ yX4_setTaken.cls ≠ "java/lang/invoke/VarHandle" ∧ (parseMethodDescriptor yX4_setTaken.desc).map (fun d => d.parameters.length) = some 2 := by decide +kernel
theorem i_X4_setTaken_X4 : ∀ w ∈ u_ws RX4 TX4 4, w ∈ wsX4_setTaken := fun _ h => List.mem_cons_of_mem _ (List.mem_append_left _ (List.mem_append_right _ (h)))
set_option maxHeartbeats 4000000 in
set_option maxRecDepth 100000 in
theorem c_X4_setTaken (l : Launch) (g : gG) (r0 t0 t1 t2 t3 p0 h0 h1 h2 h3 : Nat) (Q : Tr) (K : Tk) (P : Nat → Int32) (R : Rf) (a1 : Int32) (a2 : Int32) {r : Int32} {R' : Rf} (hf : fX4_setTaken Q R a1 a2 = some (r, R')) : Ct l yX4_setTaken wsX4_setTaken (rmm 1 24) g (wTr g r0 t0 t1 t2 t3 p0 h0 h1 h2 h3 Q K P R) (wTr g r0 t0 t1 t2 t3 p0 h0 h1 h2 h3 Q K P (R')) [.ref r0, .int a1, .int a2] (some (.int r)) := by
  refine Ct.mk (by decide) rfl (Nat.le_of_ble_eq_true rfl) ?_
  intro p e s m args below meth c A ls hx hb hr hml hts hown hlocks hA hE hP hD hS hl hAe
  obtain ⟨Qx, hQ⟩ : ∃ Qx : State → Prop, Qx = MQ below (QcG g (wTr g r0 t0 t1 t2 t3 p0 h0 h1 h2 h3 Q K P R) (wTr g r0 t0 t1 t2 t3 p0 h0 h1 h2 h3 Q K P (R')) (some (.int r)) s.heap.size) args s 0 0 A := ⟨_, rfl⟩
  rw [← hQ]
  have hown : s.vm.findClass RX4 = some m.cls := hown
  have hl : lv_has ls 3 [(0, .ref r0), (1, .int a1), (2, .int a2)] := hl
  have w1 := hts (.fieldLink RX4 27 "RainVault$TextReader" "draft" "LRainVault$Roof;") (List.mem_of_getElem? (i := 1) rfl)
  have w2 := hts (.fieldLink RX4 15 "RainVault$TextReader" "taken" "I") (List.mem_of_getElem? (i := 2) rfl)
  unfold fX4_setTaken at hf
  refine lv_aload_n hx hb dX4_setTaken_0 rfl (lv_at hl 0 rfl) ?_
  refine va_get (D := g.1) (ci := 4) (v := .ref h0) (C := RX4) (T := TX4) (N := 4) hx hb hts i_X4_setTaken_X4 hown hE.1 hP 0 rfl rfl 1 (by decide) w1 (fun _ h9 => h9) rfl dX4_setTaken_1 ?_
  refine lv_iload_n hx hb dX4_setTaken_4 rfl (lv_at hl 1 rfl) ?_
  refine lv_iload_n hx hb dX4_setTaken_5 rfl (lv_at hl 2 rfl) ?_
  refine lv_aload_n hx hb dX4_setTaken_6 rfl (lv_at hl 0 rfl) ?_
  refine va_get (D := g.1) (ci := 4) (v := .int Q.2) (C := RX4) (T := TX4) (N := 4) hx hb hts i_X4_setTaken_X4 hown hE.1 hP 0 rfl rfl 3 (by decide) w2 (fun _ h9 => h9) rfl dX4_setTaken_7 ?_
  obtain ⟨R101, hg, hf⟩ := o1_s hf
  refine Ct.callV (ws' := wTr g r0 t0 t1 t2 t3 p0 h0 h1 h2 h3 Q K P R101) (As := [.int a1, .int a2, .int Q.2]) (rest := []) (st1 := []) (c_X1_set l g h0 h1 h2 h3 R a1 a2 Q.2 hg) (cwV 3 hts gX4_setTaken_X1_set rfl rfl rfl q_X1_set ⟨Nat.le_of_ble_eq_true rfl, Nat.le_of_ble_eq_true rfl⟩) ⟨hx, hb, hml, hown, hts⟩ hE hP hD hS hA [6, 7, 8, 9] rfl rfl rfl rfl 1 6 rfl rfl rfl rfl hl.1 rfl rfl (Nat.le_of_ble_eq_true rfl) dX4_setTaken_10 (fun H locs hP hD hS => ?_)
  refine lv_iconst (v := (1 : Int32)) hx hb dX4_setTaken_13 (by decide) ?_
  obtain ⟨rfl, rfl⟩ := some_p2 hf
  rw [hQ]; exact Ct.zret hx hb hr (by decide) hlocks hAe hP hD hS dX4_setTaken_14
def fX4_readCistern (Q : Tr) (K : Tk) (R : Rf) (a1 : Int32) : Option (Int32 × Tr × Rf) := if R.2.2.2.1 < (8 : Int32) then (o2 (fX4_takePart ((Q.1 + (1 : Int32)), Q.2) K (7 : Int32) (1 : Int32) (40 : Int32) (10 : Int32)) (fun x101 Q102 => if x101 = 0 then (some ((0 : Int32), Q102, R)) else (o2 (fX1_addCistern R a1 Q102.2) (fun x103 R104 => o2 (fX4_takePart Q102 K (8 : Int32) (0 : Int32) Q102.2 (0 : Int32)) (fun x105 Q106 => if x105 = 0 then (some ((0 : Int32), Q106, R104)) else (o2 (fX4_setTaken Q106 R104 x103 (2 : Int32)) (fun x107 R108 => if x107 = 0 then (some ((0 : Int32), Q106, R108)) else (o2 (fX4_takePart Q106 K (9 : Int32) (0 : Int32) (9 : Int32) (1 : Int32)) (fun x109 Q110 => if x109 = 0 then (some ((0 : Int32), Q110, R108)) else (o2 (fX4_setTaken Q110 R108 x103 (3 : Int32)) (fun x111 R112 => if x111 = 0 then (some ((0 : Int32), Q110, R112)) else (o2 (fX4_takePart Q110 K (10 : Int32) (0 : Int32) (7 : Int32) (-1 : Int32)) (fun x113 Q114 => if x113 = 0 then (some ((0 : Int32), Q114, R112)) else (o2 (fX4_setTaken Q114 R112 x103 (4 : Int32)) (fun x115 R116 => if x115 = 0 then (some ((0 : Int32), Q114, R116)) else (some ((1 : Int32), Q114, R116))))))))))))))))) else (some ((0 : Int32), Q, R))
theorem q_X4_readCistern : yX4_readCistern.cls = RX4 ∧ yX4_readCistern.cls ≠ "java/lang/invoke/MethodHandle" ∧ yX4_readCistern.cls ≠ "java/lang/invoke/VarHandle" ∧ (parseMethodDescriptor yX4_readCistern.desc).map (fun d => d.parameters.length) = some 1 := by decide +kernel
theorem i_X4_readCistern_X4 : ∀ w ∈ u_ws RX4 TX4 4, w ∈ wsX4_readCistern := fun _ h => List.mem_cons_of_mem _ (List.mem_append_left _ (List.mem_append_left _ (List.mem_append_right _ (h))))
theorem i_X4_readCistern_X1 : ∀ w ∈ u_ws RX1 TX1 9, w ∈ wsX4_readCistern := fun _ h => List.mem_cons_of_mem _ (List.mem_append_left _ (List.mem_append_right _ (h)))
set_option maxHeartbeats 4000000 in
set_option maxRecDepth 100000 in
theorem c_X4_readCistern (l : Launch) (g : gG) (r0 t0 t1 t2 t3 p0 h0 h1 h2 h3 : Nat) (Q : Tr) (K : Tk) (P : Nat → Int32) (R : Rf) (a1 : Int32) {r : Int32} {Q' : Tr} {R' : Rf} (hf : fX4_readCistern Q K R a1 = some (r, Q', R')) : Ct l yX4_readCistern wsX4_readCistern (rmm 3 69) g (wTr g r0 t0 t1 t2 t3 p0 h0 h1 h2 h3 Q K P R) (wTr g r0 t0 t1 t2 t3 p0 h0 h1 h2 h3 (Q') K P (R')) [.ref r0, .int a1] (some (.int r)) := by
  refine Ct.mk (by decide) rfl (Nat.le_of_ble_eq_true rfl) ?_
  intro p e s m args below meth c A ls hx hb hr hml hts hown hlocks hA hE hP hD hS hl hAe
  obtain ⟨Qx, hQ⟩ : ∃ Qx : State → Prop, Qx = MQ below (QcG g (wTr g r0 t0 t1 t2 t3 p0 h0 h1 h2 h3 Q K P R) (wTr g r0 t0 t1 t2 t3 p0 h0 h1 h2 h3 (Q') K P (R')) (some (.int r)) s.heap.size) args s 0 0 A := ⟨_, rfl⟩
  rw [← hQ]
  have hown : s.vm.findClass RX4 = some m.cls := hown
  have hl : lv_has ls 4 [(0, .ref r0), (1, .int a1)] := hl
  have w1 := hts (.fieldLink RX4 27 "RainVault$TextReader" "draft" "LRainVault$Roof;") (List.mem_of_getElem? (i := 1) rfl)
  have w2 := hts (.fieldLink RX4 9 "RainVault$TextReader" "now" "I") (List.mem_of_getElem? (i := 2) rfl)
  have w3 := hts (.fieldLink RX4 15 "RainVault$TextReader" "taken" "I") (List.mem_of_getElem? (i := 3) rfl)
  unfold fX4_readCistern at hf
  refine lv_aload_n hx hb dX4_readCistern_0 rfl (lv_at hl 0 rfl) ?_
  refine va_get (D := g.1) (ci := 4) (v := .ref h0) (C := RX4) (T := TX4) (N := 4) hx hb hts i_X4_readCistern_X4 hown hE.1 hP 0 rfl rfl 1 (by decide) w1 (fun _ h9 => h9) rfl dX4_readCistern_1 ?_
  refine va_getN (D := g.1) (ci := 1) (v := .int R.2.2.2.1) (C := RX1) (T := TX1) (N := 9) hx hb hts i_X4_readCistern_X1 hown hE.1 hP 6 rfl rfl 3 (by decide) (va_Nw.use rfl (hE.2.1 _ (List.mem_of_getElem? (i := 2) rfl))) (fun _ h9 => h9) rfl dX4_readCistern_4 ?_
  refine lv_bipush (v := (8 : Int32)) hx hb dX4_readCistern_7 (by decide) ?_
  refine lv_icmp_lt (tgt := 14) hx hb dX4_readCistern_9 (by decide) (fun hc => ?_) (fun hc => ?_)
  · have hf := if_t hf hc
    refine lv_aload_n hx hb dX4_readCistern_14 rfl (lv_at hl 0 rfl) ?_
    refine lv_dup hx hb dX4_readCistern_15 rfl ?_
    refine va_get (D := g.1) (ci := 4) (v := .int Q.1) (C := RX4) (T := TX4) (N := 4) hx hb hts i_X4_readCistern_X4 hown hE.1 hP 0 rfl rfl 2 (by decide) w2 (fun _ h9 => h9) rfl dX4_readCistern_16 ?_
    refine lv_iconst (v := (1 : Int32)) hx hb dX4_readCistern_19 (by decide) ?_
    refine lv_iadd hx hb dX4_readCistern_20 ?_
    refine va_put (D := g.1) (ci := 4) (v := .int (Q.1 + (1 : Int32))) (ty := .int) (C := RX4) (T := TX4) (N := 4) hx hb hts i_X4_readCistern_X4 tyX4 tyX4_ok nmX4 hown hE.1 hP hD hS 0 rfl rfl 2 (by decide) w2 (fun _ h9 => h9) rfl (by decide +kernel) rfl rfl (Nat.le_of_ble_eq_true rfl) dX4_readCistern_21 (fun H locs hP hD hS => ?_)
    have hP : va_P g.1 vwK (wTr g r0 t0 t1 t2 t3 p0 h0 h1 h2 h3 ((Q.1 + (1 : Int32)), Q.2) K P R) H := hP
    have hD : va_D A (wTr g r0 t0 t1 t2 t3 p0 h0 h1 h2 h3 ((Q.1 + (1 : Int32)), Q.2) K P R) := hD
    refine lv_aload_n hx hb dX4_readCistern_24 rfl (lv_at hl 0 rfl) ?_
    refine lv_bipush (v := (7 : Int32)) hx hb dX4_readCistern_25 (by decide) ?_
    refine lv_iconst (v := (1 : Int32)) hx hb dX4_readCistern_27 (by decide) ?_
    refine lv_bipush (v := (40 : Int32)) hx hb dX4_readCistern_28 (by decide) ?_
    refine lv_bipush (v := (10 : Int32)) hx hb dX4_readCistern_30 (by decide) ?_
    obtain ⟨x101, Q102, hg, hf⟩ := o2_s hf
    refine Ct.callV0 (ws' := wTr g r0 t0 t1 t2 t3 p0 h0 h1 h2 h3 Q102 K P R) (As := [.int (7 : Int32), .int (1 : Int32), .int (40 : Int32), .int (10 : Int32)]) (rest := []) (st1 := [.int x101]) (c_X4_takePart l g r0 t0 t1 t2 t3 p0 h0 h1 h2 h3 ((Q.1 + (1 : Int32)), Q.2) K P R (7 : Int32) (1 : Int32) (40 : Int32) (10 : Int32) hg) (cwV 4 hts gX4_readCistern_X4_takePart rfl rfl rfl q_X4_takePart ⟨Nat.le_of_ble_eq_true rfl, Nat.le_of_ble_eq_true rfl⟩) ⟨hx, hb, hml, hown, hts⟩ hE hP hD hS hA 4 0 rfl rfl rfl rfl hl.1 rfl rfl (Nat.le_of_ble_eq_true rfl) dX4_readCistern_32 (fun H locs hP hD hS => ?_)
    refine lv_if_ne (tgt := 40) hx hb dX4_readCistern_35 (by decide) (fun hc => ?_) (fun hc => ?_)
    · have hf := if_f hf hc
      refine lv_aload_n hx hb dX4_readCistern_40 rfl (lv_at hl 0 rfl) ?_
      refine va_get (D := g.1) (ci := 4) (v := .int Q102.2) (C := RX4) (T := TX4) (N := 4) hx hb hts i_X4_readCistern_X4 hown hE.1 hP 0 rfl rfl 3 (by decide) w3 (fun _ h9 => h9) rfl dX4_readCistern_41 ?_
      refine lv_istore_n (lv' := [(2, .int Q102.2), (0, .ref r0), (1, .int a1)]) hx hb dX4_readCistern_44 rfl hl (by decide) rfl (fun ls hl => ?_)
      refine lv_aload_n hx hb dX4_readCistern_45 rfl (lv_at hl 1 rfl) ?_
      refine va_get (D := g.1) (ci := 4) (v := .ref h0) (C := RX4) (T := TX4) (N := 4) hx hb hts i_X4_readCistern_X4 hown hE.1 hP 0 rfl rfl 1 (by decide) w1 (fun _ h9 => h9) rfl dX4_readCistern_46 ?_
      refine lv_iload_n hx hb dX4_readCistern_49 rfl (lv_at hl 2 rfl) ?_
      refine lv_iload_n hx hb dX4_readCistern_50 rfl (lv_at hl 0 rfl) ?_
      obtain ⟨x103, R104, hg, hf⟩ := o2_s hf
      refine Ct.callV (ws' := wTr g r0 t0 t1 t2 t3 p0 h0 h1 h2 h3 Q102 K P R104) (As := [.int a1, .int Q102.2]) (rest := []) (st1 := [.int x103]) (c_X1_addCistern l g h0 h1 h2 h3 R a1 Q102.2 hg) (cwV 2 hts gX4_readCistern_X1_addCistern rfl rfl rfl q_X1_addCistern ⟨Nat.le_of_ble_eq_true rfl, Nat.le_of_ble_eq_true rfl⟩) ⟨hx, hb, hml, hown, hts⟩ hE hP hD hS hA [6, 7, 8, 9] rfl rfl rfl rfl 1 6 rfl rfl rfl rfl hl.1 rfl rfl (Nat.le_of_ble_eq_true rfl) dX4_readCistern_51 (fun H locs hP hD hS => ?_)
      refine lv_istore_n (lv' := [(3, .int x103), (2, .int Q102.2), (0, .ref r0), (1, .int a1)]) hx hb dX4_readCistern_54 rfl hl (by decide) rfl (fun ls hl => ?_)
      refine lv_aload_n hx hb dX4_readCistern_55 rfl (lv_at hl 2 rfl) ?_
      refine lv_bipush (v := (8 : Int32)) hx hb dX4_readCistern_56 (by decide) ?_
      refine lv_iconst (v := (0 : Int32)) hx hb dX4_readCistern_58 (by decide) ?_
      refine lv_iload_n hx hb dX4_readCistern_59 rfl (lv_at hl 1 rfl) ?_
      refine lv_iconst (v := (0 : Int32)) hx hb dX4_readCistern_60 (by decide) ?_
      obtain ⟨x105, Q106, hg, hf⟩ := o2_s hf
      refine Ct.callV0 (ws' := wTr g r0 t0 t1 t2 t3 p0 h0 h1 h2 h3 Q106 K P R104) (As := [.int (8 : Int32), .int (0 : Int32), .int Q102.2, .int (0 : Int32)]) (rest := []) (st1 := [.int x105]) (c_X4_takePart l g r0 t0 t1 t2 t3 p0 h0 h1 h2 h3 Q102 K P R104 (8 : Int32) (0 : Int32) Q102.2 (0 : Int32) hg) (cwV 4 hts gX4_readCistern_X4_takePart rfl rfl rfl q_X4_takePart ⟨Nat.le_of_ble_eq_true rfl, Nat.le_of_ble_eq_true rfl⟩) ⟨hx, hb, hml, hown, hts⟩ hE hP hD hS hA 4 0 rfl rfl rfl rfl hl.1 rfl rfl (Nat.le_of_ble_eq_true rfl) dX4_readCistern_61 (fun H locs hP hD hS => ?_)
      refine lv_if_eq (tgt := 124) hx hb dX4_readCistern_64 (by decide) (fun hc => ?_) (fun hc => ?_)
      · have hf := if_t hf hc
        refine lv_iconst (v := (0 : Int32)) hx hb dX4_readCistern_124 (by decide) ?_
        obtain ⟨rfl, rfl, rfl⟩ := some_p3 hf
        rw [hQ]; exact Ct.zret hx hb hr (by decide) hlocks hAe hP hD hS dX4_readCistern_125
      · have hf := if_f hf hc
        refine lv_aload_n hx hb dX4_readCistern_67 rfl (lv_at hl 2 rfl) ?_
        refine lv_iload_n hx hb dX4_readCistern_68 rfl (lv_at hl 0 rfl) ?_
        refine lv_iconst (v := (2 : Int32)) hx hb dX4_readCistern_69 (by decide) ?_
        obtain ⟨x107, R108, hg, hf⟩ := o2_s hf
        refine Ct.callV0 (ws' := wTr g r0 t0 t1 t2 t3 p0 h0 h1 h2 h3 Q106 K P R108) (As := [.int x103, .int (2 : Int32)]) (rest := []) (st1 := [.int x107]) (c_X4_setTaken l g r0 t0 t1 t2 t3 p0 h0 h1 h2 h3 Q106 K P R104 x103 (2 : Int32) hg) (cwV 2 hts gX4_readCistern_X4_setTaken rfl rfl rfl q_X4_setTaken ⟨Nat.le_of_ble_eq_true rfl, Nat.le_of_ble_eq_true rfl⟩) ⟨hx, hb, hml, hown, hts⟩ hE hP hD hS hA 4 0 rfl rfl rfl rfl hl.1 rfl rfl (Nat.le_of_ble_eq_true rfl) dX4_readCistern_70 (fun H locs hP hD hS => ?_)
        refine lv_if_eq (tgt := 124) hx hb dX4_readCistern_73 (by decide) (fun hc => ?_) (fun hc => ?_)
        · have hf := if_t hf hc
          refine lv_iconst (v := (0 : Int32)) hx hb dX4_readCistern_124 (by decide) ?_
          obtain ⟨rfl, rfl, rfl⟩ := some_p3 hf
          rw [hQ]; exact Ct.zret hx hb hr (by decide) hlocks hAe hP hD hS dX4_readCistern_125
        · have hf := if_f hf hc
          refine lv_aload_n hx hb dX4_readCistern_76 rfl (lv_at hl 2 rfl) ?_
          refine lv_bipush (v := (9 : Int32)) hx hb dX4_readCistern_77 (by decide) ?_
          refine lv_iconst (v := (0 : Int32)) hx hb dX4_readCistern_79 (by decide) ?_
          refine lv_bipush (v := (9 : Int32)) hx hb dX4_readCistern_80 (by decide) ?_
          refine lv_iconst (v := (1 : Int32)) hx hb dX4_readCistern_82 (by decide) ?_
          obtain ⟨x109, Q110, hg, hf⟩ := o2_s hf
          refine Ct.callV0 (ws' := wTr g r0 t0 t1 t2 t3 p0 h0 h1 h2 h3 Q110 K P R108) (As := [.int (9 : Int32), .int (0 : Int32), .int (9 : Int32), .int (1 : Int32)]) (rest := []) (st1 := [.int x109]) (c_X4_takePart l g r0 t0 t1 t2 t3 p0 h0 h1 h2 h3 Q106 K P R108 (9 : Int32) (0 : Int32) (9 : Int32) (1 : Int32) hg) (cwV 4 hts gX4_readCistern_X4_takePart rfl rfl rfl q_X4_takePart ⟨Nat.le_of_ble_eq_true rfl, Nat.le_of_ble_eq_true rfl⟩) ⟨hx, hb, hml, hown, hts⟩ hE hP hD hS hA 4 0 rfl rfl rfl rfl hl.1 rfl rfl (Nat.le_of_ble_eq_true rfl) dX4_readCistern_83 (fun H locs hP hD hS => ?_)
          refine lv_if_eq (tgt := 124) hx hb dX4_readCistern_86 (by decide) (fun hc => ?_) (fun hc => ?_)
          · have hf := if_t hf hc
            refine lv_iconst (v := (0 : Int32)) hx hb dX4_readCistern_124 (by decide) ?_
            obtain ⟨rfl, rfl, rfl⟩ := some_p3 hf
            rw [hQ]; exact Ct.zret hx hb hr (by decide) hlocks hAe hP hD hS dX4_readCistern_125
          · have hf := if_f hf hc
            refine lv_aload_n hx hb dX4_readCistern_89 rfl (lv_at hl 2 rfl) ?_
            refine lv_iload_n hx hb dX4_readCistern_90 rfl (lv_at hl 0 rfl) ?_
            refine lv_iconst (v := (3 : Int32)) hx hb dX4_readCistern_91 (by decide) ?_
            obtain ⟨x111, R112, hg, hf⟩ := o2_s hf
            refine Ct.callV0 (ws' := wTr g r0 t0 t1 t2 t3 p0 h0 h1 h2 h3 Q110 K P R112) (As := [.int x103, .int (3 : Int32)]) (rest := []) (st1 := [.int x111]) (c_X4_setTaken l g r0 t0 t1 t2 t3 p0 h0 h1 h2 h3 Q110 K P R108 x103 (3 : Int32) hg) (cwV 2 hts gX4_readCistern_X4_setTaken rfl rfl rfl q_X4_setTaken ⟨Nat.le_of_ble_eq_true rfl, Nat.le_of_ble_eq_true rfl⟩) ⟨hx, hb, hml, hown, hts⟩ hE hP hD hS hA 4 0 rfl rfl rfl rfl hl.1 rfl rfl (Nat.le_of_ble_eq_true rfl) dX4_readCistern_92 (fun H locs hP hD hS => ?_)
            refine lv_if_eq (tgt := 124) hx hb dX4_readCistern_95 (by decide) (fun hc => ?_) (fun hc => ?_)
            · have hf := if_t hf hc
              refine lv_iconst (v := (0 : Int32)) hx hb dX4_readCistern_124 (by decide) ?_
              obtain ⟨rfl, rfl, rfl⟩ := some_p3 hf
              rw [hQ]; exact Ct.zret hx hb hr (by decide) hlocks hAe hP hD hS dX4_readCistern_125
            · have hf := if_f hf hc
              refine lv_aload_n hx hb dX4_readCistern_98 rfl (lv_at hl 2 rfl) ?_
              refine lv_bipush (v := (10 : Int32)) hx hb dX4_readCistern_99 (by decide) ?_
              refine lv_iconst (v := (0 : Int32)) hx hb dX4_readCistern_101 (by decide) ?_
              refine lv_bipush (v := (7 : Int32)) hx hb dX4_readCistern_102 (by decide) ?_
              refine lv_iconst (v := (-1 : Int32)) hx hb dX4_readCistern_104 (by decide) ?_
              obtain ⟨x113, Q114, hg, hf⟩ := o2_s hf
              refine Ct.callV0 (ws' := wTr g r0 t0 t1 t2 t3 p0 h0 h1 h2 h3 Q114 K P R112) (As := [.int (10 : Int32), .int (0 : Int32), .int (7 : Int32), .int (-1 : Int32)]) (rest := []) (st1 := [.int x113]) (c_X4_takePart l g r0 t0 t1 t2 t3 p0 h0 h1 h2 h3 Q110 K P R112 (10 : Int32) (0 : Int32) (7 : Int32) (-1 : Int32) hg) (cwV 4 hts gX4_readCistern_X4_takePart rfl rfl rfl q_X4_takePart ⟨Nat.le_of_ble_eq_true rfl, Nat.le_of_ble_eq_true rfl⟩) ⟨hx, hb, hml, hown, hts⟩ hE hP hD hS hA 4 0 rfl rfl rfl rfl hl.1 rfl rfl (Nat.le_of_ble_eq_true rfl) dX4_readCistern_105 (fun H locs hP hD hS => ?_)
              refine lv_if_eq (tgt := 124) hx hb dX4_readCistern_108 (by decide) (fun hc => ?_) (fun hc => ?_)
              · have hf := if_t hf hc
                refine lv_iconst (v := (0 : Int32)) hx hb dX4_readCistern_124 (by decide) ?_
                obtain ⟨rfl, rfl, rfl⟩ := some_p3 hf
                rw [hQ]; exact Ct.zret hx hb hr (by decide) hlocks hAe hP hD hS dX4_readCistern_125
              · have hf := if_f hf hc
                refine lv_aload_n hx hb dX4_readCistern_111 rfl (lv_at hl 2 rfl) ?_
                refine lv_iload_n hx hb dX4_readCistern_112 rfl (lv_at hl 0 rfl) ?_
                refine lv_iconst (v := (4 : Int32)) hx hb dX4_readCistern_113 (by decide) ?_
                obtain ⟨x115, R116, hg, hf⟩ := o2_s hf
                refine Ct.callV0 (ws' := wTr g r0 t0 t1 t2 t3 p0 h0 h1 h2 h3 Q114 K P R116) (As := [.int x103, .int (4 : Int32)]) (rest := []) (st1 := [.int x115]) (c_X4_setTaken l g r0 t0 t1 t2 t3 p0 h0 h1 h2 h3 Q114 K P R112 x103 (4 : Int32) hg) (cwV 2 hts gX4_readCistern_X4_setTaken rfl rfl rfl q_X4_setTaken ⟨Nat.le_of_ble_eq_true rfl, Nat.le_of_ble_eq_true rfl⟩) ⟨hx, hb, hml, hown, hts⟩ hE hP hD hS hA 4 0 rfl rfl rfl rfl hl.1 rfl rfl (Nat.le_of_ble_eq_true rfl) dX4_readCistern_114 (fun H locs hP hD hS => ?_)
                refine lv_if_eq (tgt := 124) hx hb dX4_readCistern_117 (by decide) (fun hc => ?_) (fun hc => ?_)
                · have hf := if_t hf hc
                  refine lv_iconst (v := (0 : Int32)) hx hb dX4_readCistern_124 (by decide) ?_
                  obtain ⟨rfl, rfl, rfl⟩ := some_p3 hf
                  rw [hQ]; exact Ct.zret hx hb hr (by decide) hlocks hAe hP hD hS dX4_readCistern_125
                · have hf := if_f hf hc
                  refine lv_iconst (v := (1 : Int32)) hx hb dX4_readCistern_120 (by decide) ?_
                  refine lv_goto (tgt := 125) hx hb dX4_readCistern_121 (by decide) ?_
                  obtain ⟨rfl, rfl, rfl⟩ := some_p3 hf
                  rw [hQ]; exact Ct.zret hx hb hr (by decide) hlocks hAe hP hD hS dX4_readCistern_125
    · have hf := if_t hf hc
      refine lv_iconst (v := (0 : Int32)) hx hb dX4_readCistern_38 (by decide) ?_
      obtain ⟨rfl, rfl, rfl⟩ := some_p3 hf
      rw [hQ]; exact Ct.zret hx hb hr (by decide) hlocks hAe hP hD hS dX4_readCistern_39
  · have hf := if_f hf hc
    refine lv_iconst (v := (0 : Int32)) hx hb dX4_readCistern_12 (by decide) ?_
    obtain ⟨rfl, rfl, rfl⟩ := some_p3 hf
    rw [hQ]; exact Ct.zret hx hb hr (by decide) hlocks hAe hP hD hS dX4_readCistern_13
def fX4_readCatch_L36 (K : Tk) (x1 : Int32) (kx : Tr → Rf → Option (Int32 × Tr × Rf)) : Nat → Tr → Rf → Int32 → Option (Int32 × Tr × Rf)
  | 0, _, _, _ => none
  | k + 1, Q, R, x2 => if (4 : Int32) ≤ x2 then (kx Q R) else (o2 (fX4_takeNumber Q K (0 : Int32) (9 : Int32)) (fun x106 Q107 => if x106 = 0 then (some ((0 : Int32), Q107, R)) else (o1 (fX1_set R x1 ((7 : Int32) + x2) Q107.2) (fun R108 => fX4_readCatch_L36 K x1 kx k Q107 R108 (x2 + (1 : Int32))))))
def fX4_readCatch (Q : Tr) (K : Tk) (R : Rf) : Option (Int32 × Tr × Rf) := o2 (fX4_takeNumber ((Q.1 + (1 : Int32)), Q.2) K (0 : Int32) (R.2.2.2.1 - (1 : Int32))) (fun x101 Q102 => if x101 = 0 then (some ((0 : Int32), Q102, R)) else (fX4_readCatch_L36 K Q102.2 (fun Q109 R110 => some ((1 : Int32), Q109, R110)) fu Q102 R (0 : Int32)))
theorem q_X4_readCatch : yX4_readCatch.cls = RX4 ∧ yX4_readCatch.cls ≠ "java/lang/invoke/MethodHandle" ∧ yX4_readCatch.cls ≠ "java/lang/invoke/VarHandle" ∧ (parseMethodDescriptor yX4_readCatch.desc).map (fun d => d.parameters.length) = some 0 := by decide +kernel
theorem i_X4_readCatch_X4 : ∀ w ∈ u_ws RX4 TX4 4, w ∈ wsX4_readCatch := fun _ h => List.mem_cons_of_mem _ (List.mem_append_left _ (List.mem_append_left _ (List.mem_append_right _ (h))))
theorem i_X4_readCatch_X1 : ∀ w ∈ u_ws RX1 TX1 9, w ∈ wsX4_readCatch := fun _ h => List.mem_cons_of_mem _ (List.mem_append_left _ (List.mem_append_right _ (h)))
set_option maxHeartbeats 4000000 in
set_option maxRecDepth 100000 in
theorem c_X4_readCatch (l : Launch) (g : gG) (r0 t0 t1 t2 t3 p0 h0 h1 h2 h3 : Nat) (Q : Tr) (K : Tk) (P : Nat → Int32) (R : Rf) {r : Int32} {Q' : Tr} {R' : Rf} (hf : fX4_readCatch Q K R = some (r, Q', R')) : Ct l yX4_readCatch wsX4_readCatch (rmm 2 45) g (wTr g r0 t0 t1 t2 t3 p0 h0 h1 h2 h3 Q K P R) (wTr g r0 t0 t1 t2 t3 p0 h0 h1 h2 h3 (Q') K P (R')) [.ref r0] (some (.int r)) := by
  refine Ct.mk (by decide) rfl (Nat.le_of_ble_eq_true rfl) ?_
  intro p e s m args below meth c A ls hx hb hr hml hts hown hlocks hA hE hP hD hS hl hAe
  obtain ⟨Qx, hQ⟩ : ∃ Qx : State → Prop, Qx = MQ below (QcG g (wTr g r0 t0 t1 t2 t3 p0 h0 h1 h2 h3 Q K P R) (wTr g r0 t0 t1 t2 t3 p0 h0 h1 h2 h3 (Q') K P (R')) (some (.int r)) s.heap.size) args s 0 0 A := ⟨_, rfl⟩
  rw [← hQ]
  have hown : s.vm.findClass RX4 = some m.cls := hown
  have hl : lv_has ls 3 [(0, .ref r0)] := hl
  have w1 := hts (.fieldLink RX4 9 "RainVault$TextReader" "now" "I") (List.mem_of_getElem? (i := 1) rfl)
  have w2 := hts (.fieldLink RX4 27 "RainVault$TextReader" "draft" "LRainVault$Roof;") (List.mem_of_getElem? (i := 2) rfl)
  have w3 := hts (.fieldLink RX4 15 "RainVault$TextReader" "taken" "I") (List.mem_of_getElem? (i := 3) rfl)
  have L36 : ∀ (x1 : Int32) (kx : Tr → Rf → Option (Int32 × Tr × Rf)) (k : Nat) (Q : Tr) (R : Rf) (x2 : Int32) (H : Heap) (locs : List Loc) (ls : Array Slot), fX4_readCatch_L36 K x1 kx k Q R x2 = some (r, Q', R') → va_P g.1 vwK (wTr g r0 t0 t1 t2 t3 p0 h0 h1 h2 h3 Q K P R) H → va_D A (wTr g r0 t0 t1 t2 t3 p0 h0 h1 h2 h3 Q K P R) → va_S A s.heap H locs → lv_has ls 3 [(0, .ref r0), (1, .int x1), (2, .int x2)] → (∀ (Q : Tr) (R : Rf) (H : Heap) (locs : List Loc) (ls : Array Slot), kx Q R = some (r, Q', R') → va_P g.1 vwK (wTr g r0 t0 t1 t2 t3 p0 h0 h1 h2 h3 Q K P R) H → va_D A (wTr g r0 t0 t1 t2 t3 p0 h0 h1 h2 h3 Q K P R) → va_S A s.heap H locs → lv_has ls 3 [] → W p l e (rmm 2 45) s m args below meth c H locs 0 0 Qx (F0 m 75 ls [])) → W p l e (rmm 2 45) s m args below meth c H locs 0 0 Qx (F0 m 36 ls []) := by
    intro x1 kx k
    induction k with
    | zero => intro Q R x2 H locs ls hf; exact nomatch (show (none : Option (Int32 × Tr × Rf)) = some _ from hf)
    | succ k ih =>
      intro Q R x2 H locs ls hf hP hD hS hl hk
      rw [fX4_readCatch_L36] at hf
      refine lv_iload_n hx hb dX4_readCatch_36 rfl (lv_at hl 2 rfl) ?_
      refine lv_iconst (v := (4 : Int32)) hx hb dX4_readCatch_37 (by decide) ?_
      refine lv_icmp_ge (tgt := 75) hx hb dX4_readCatch_38 (by decide) (fun hc => ?_) (fun hc => ?_)
      · have hf := if_t hf hc
        exact hk _ _ _ _ _  hf hP hD hS (lv_sub hl [] rfl)
      · have hf := if_f hf hc
        refine lv_aload_n hx hb dX4_readCatch_41 rfl (lv_at hl 0 rfl) ?_
        refine lv_iconst (v := (0 : Int32)) hx hb dX4_readCatch_42 (by decide) ?_
        refine lv_bipush (v := (9 : Int32)) hx hb dX4_readCatch_43 (by decide) ?_
        obtain ⟨x106, Q107, hg, hf⟩ := o2_s hf
        refine Ct.callV0 (ws' := wTr g r0 t0 t1 t2 t3 p0 h0 h1 h2 h3 Q107 K P R) (As := [.int (0 : Int32), .int (9 : Int32)]) (rest := []) (st1 := [.int x106]) (c_X4_takeNumber l g r0 t0 t1 t2 t3 p0 h0 h1 h2 h3 Q K P R (0 : Int32) (9 : Int32) hg) (cwV 2 hts gX4_readCatch_X4_takeNumber rfl rfl rfl q_X4_takeNumber ⟨Nat.le_of_ble_eq_true rfl, Nat.le_of_ble_eq_true rfl⟩) ⟨hx, hb, hml, hown, hts⟩ hE hP hD hS hA 4 0 rfl rfl rfl rfl hl.1 rfl rfl (Nat.le_of_ble_eq_true rfl) dX4_readCatch_45 (fun H locs hP hD hS => ?_)
        refine lv_if_ne (tgt := 53) hx hb dX4_readCatch_48 (by decide) (fun hc => ?_) (fun hc => ?_)
        · have hf := if_f hf hc
          refine lv_aload_n hx hb dX4_readCatch_53 rfl (lv_at hl 0 rfl) ?_
          refine va_get (D := g.1) (ci := 4) (v := .ref h0) (C := RX4) (T := TX4) (N := 4) hx hb hts i_X4_readCatch_X4 hown hE.1 hP 0 rfl rfl 1 (by decide) w2 (fun _ h9 => h9) rfl dX4_readCatch_54 ?_
          refine lv_iload_n hx hb dX4_readCatch_57 rfl (lv_at hl 1 rfl) ?_
          refine lv_bipush (v := (7 : Int32)) hx hb dX4_readCatch_58 (by decide) ?_
          refine lv_iload_n hx hb dX4_readCatch_60 rfl (lv_at hl 2 rfl) ?_
          refine lv_iadd hx hb dX4_readCatch_61 ?_
          refine lv_aload_n hx hb dX4_readCatch_62 rfl (lv_at hl 0 rfl) ?_
          refine va_get (D := g.1) (ci := 4) (v := .int Q107.2) (C := RX4) (T := TX4) (N := 4) hx hb hts i_X4_readCatch_X4 hown hE.1 hP 0 rfl rfl 3 (by decide) w3 (fun _ h9 => h9) rfl dX4_readCatch_63 ?_
          obtain ⟨R108, hg, hf⟩ := o1_s hf
          refine Ct.callV (ws' := wTr g r0 t0 t1 t2 t3 p0 h0 h1 h2 h3 Q107 K P R108) (As := [.int x1, .int ((7 : Int32) + x2), .int Q107.2]) (rest := []) (st1 := []) (c_X1_set l g h0 h1 h2 h3 R x1 ((7 : Int32) + x2) Q107.2 hg) (cwV 3 hts gX4_readCatch_X1_set rfl rfl rfl q_X1_set ⟨Nat.le_of_ble_eq_true rfl, Nat.le_of_ble_eq_true rfl⟩) ⟨hx, hb, hml, hown, hts⟩ hE hP hD hS hA [6, 7, 8, 9] rfl rfl rfl rfl 1 6 rfl rfl rfl rfl hl.1 rfl rfl (Nat.le_of_ble_eq_true rfl) dX4_readCatch_66 (fun H locs hP hD hS => ?_)
          refine lv_iinc (v := (x2 + (1 : Int32))) (lv' := [(2, .int (x2 + (1 : Int32))), (0, .ref r0), (1, .int x1)]) hx hb dX4_readCatch_69 hl (k := 2) rfl rfl (by decide) rfl (fun ls hl => ?_)
          refine lv_goto (tgt := 36) hx hb dX4_readCatch_72 (by decide) ?_
          exact ih _ _ _ _ _ _  hf hP hD hS (lv_sub hl [1, 2, 0] rfl) hk
        · have hf := if_t hf hc
          refine lv_iconst (v := (0 : Int32)) hx hb dX4_readCatch_51 (by decide) ?_
          obtain ⟨rfl, rfl, rfl⟩ := some_p3 hf
          rw [hQ]; exact Ct.zret hx hb hr (by decide) hlocks hAe hP hD hS dX4_readCatch_52
  unfold fX4_readCatch at hf
  refine lv_aload_n hx hb dX4_readCatch_0 rfl (lv_at hl 0 rfl) ?_
  refine lv_dup hx hb dX4_readCatch_1 rfl ?_
  refine va_get (D := g.1) (ci := 4) (v := .int Q.1) (C := RX4) (T := TX4) (N := 4) hx hb hts i_X4_readCatch_X4 hown hE.1 hP 0 rfl rfl 2 (by decide) w1 (fun _ h9 => h9) rfl dX4_readCatch_2 ?_
  refine lv_iconst (v := (1 : Int32)) hx hb dX4_readCatch_5 (by decide) ?_
  refine lv_iadd hx hb dX4_readCatch_6 ?_
  refine va_put (D := g.1) (ci := 4) (v := .int (Q.1 + (1 : Int32))) (ty := .int) (C := RX4) (T := TX4) (N := 4) hx hb hts i_X4_readCatch_X4 tyX4 tyX4_ok nmX4 hown hE.1 hP hD hS 0 rfl rfl 2 (by decide) w1 (fun _ h9 => h9) rfl (by decide +kernel) rfl rfl (Nat.le_of_ble_eq_true rfl) dX4_readCatch_7 (fun H locs hP hD hS => ?_)
  have hP : va_P g.1 vwK (wTr g r0 t0 t1 t2 t3 p0 h0 h1 h2 h3 ((Q.1 + (1 : Int32)), Q.2) K P R) H := hP
  have hD : va_D A (wTr g r0 t0 t1 t2 t3 p0 h0 h1 h2 h3 ((Q.1 + (1 : Int32)), Q.2) K P R) := hD
  refine lv_aload_n hx hb dX4_readCatch_10 rfl (lv_at hl 0 rfl) ?_
  refine lv_iconst (v := (0 : Int32)) hx hb dX4_readCatch_11 (by decide) ?_
  refine lv_aload_n hx hb dX4_readCatch_12 rfl (lv_at hl 0 rfl) ?_
  refine va_get (D := g.1) (ci := 4) (v := .ref h0) (C := RX4) (T := TX4) (N := 4) hx hb hts i_X4_readCatch_X4 hown hE.1 hP 0 rfl rfl 1 (by decide) w2 (fun _ h9 => h9) rfl dX4_readCatch_13 ?_
  refine va_getN (D := g.1) (ci := 1) (v := .int R.2.2.2.1) (C := RX1) (T := TX1) (N := 9) hx hb hts i_X4_readCatch_X1 hown hE.1 hP 6 rfl rfl 3 (by decide) (va_Nw.use rfl (hE.2.1 _ (List.mem_of_getElem? (i := 2) rfl))) (fun _ h9 => h9) rfl dX4_readCatch_16 ?_
  refine lv_iconst (v := (1 : Int32)) hx hb dX4_readCatch_19 (by decide) ?_
  refine lv_isub hx hb dX4_readCatch_20 ?_
  obtain ⟨x101, Q102, hg, hf⟩ := o2_s hf
  refine Ct.callV0 (ws' := wTr g r0 t0 t1 t2 t3 p0 h0 h1 h2 h3 Q102 K P R) (As := [.int (0 : Int32), .int (R.2.2.2.1 - (1 : Int32))]) (rest := []) (st1 := [.int x101]) (c_X4_takeNumber l g r0 t0 t1 t2 t3 p0 h0 h1 h2 h3 ((Q.1 + (1 : Int32)), Q.2) K P R (0 : Int32) (R.2.2.2.1 - (1 : Int32)) hg) (cwV 2 hts gX4_readCatch_X4_takeNumber rfl rfl rfl q_X4_takeNumber ⟨Nat.le_of_ble_eq_true rfl, Nat.le_of_ble_eq_true rfl⟩) ⟨hx, hb, hml, hown, hts⟩ hE hP hD hS hA 4 0 rfl rfl rfl rfl hl.1 rfl rfl (Nat.le_of_ble_eq_true rfl) dX4_readCatch_21 (fun H locs hP hD hS => ?_)
  refine lv_if_ne (tgt := 29) hx hb dX4_readCatch_24 (by decide) (fun hc => ?_) (fun hc => ?_)
  · have hf := if_f hf hc
    refine lv_aload_n hx hb dX4_readCatch_29 rfl (lv_at hl 0 rfl) ?_
    refine va_get (D := g.1) (ci := 4) (v := .int Q102.2) (C := RX4) (T := TX4) (N := 4) hx hb hts i_X4_readCatch_X4 hown hE.1 hP 0 rfl rfl 3 (by decide) w3 (fun _ h9 => h9) rfl dX4_readCatch_30 ?_
    refine lv_istore_n (lv' := [(1, .int Q102.2), (0, .ref r0)]) hx hb dX4_readCatch_33 rfl hl (by decide) rfl (fun ls hl => ?_)
    refine lv_iconst (v := (0 : Int32)) hx hb dX4_readCatch_34 (by decide) ?_
    refine lv_istore_n (lv' := [(2, .int (0 : Int32)), (1, .int Q102.2), (0, .ref r0)]) hx hb dX4_readCatch_35 rfl hl (by decide) rfl (fun ls hl => ?_)
    refine L36 _ _ _ _ _ _ _ _ _  hf hP hD hS (lv_sub hl [2, 1, 0] rfl) (fun Q109 R110 H locs ls hf hP hD hS hl => ?_)
    refine lv_iconst (v := (1 : Int32)) hx hb dX4_readCatch_75 (by decide) ?_
    obtain ⟨rfl, rfl, rfl⟩ := some_p3 hf
    rw [hQ]; exact Ct.zret hx hb hr (by decide) hlocks hAe hP hD hS dX4_readCatch_76
  · have hf := if_t hf hc
    refine lv_iconst (v := (0 : Int32)) hx hb dX4_readCatch_27 (by decide) ?_
    obtain ⟨rfl, rfl, rfl⟩ := some_p3 hf
    rw [hQ]; exact Ct.zret hx hb hr (by decide) hlocks hAe hP hD hS dX4_readCatch_28
def fX4_readLock (Q : Tr) (K : Tk) (R : Rf) : Option (Int32 × Tr × Rf) := if R.2.2.2.2.1 < (8 : Int32) then (o2 (fX4_takeNumber ((Q.1 + (1 : Int32)), Q.2) K (0 : Int32) (4 : Int32)) (fun x101 Q102 => if x101 = 0 then (some ((0 : Int32), Q102, R)) else (o2 (fX4_takeNumber Q102 K (0 : Int32) (7 : Int32)) (fun x103 Q104 => if x103 = 0 then (some ((0 : Int32), Q104, R)) else (o1 (fX6_mostRight Q102.2) (fun x105 => o2 (fX4_takeNumber Q104 K (0 : Int32) x105) (fun x106 Q107 => if x106 = 0 then (some ((0 : Int32), Q107, R)) else (o2 (fX1_addCondition R Q102.2 Q104.2 Q107.2) (fun x108 R109 => some ((1 : Int32), Q107, R109)))))))))) else (some ((0 : Int32), Q, R))
theorem q_X4_readLock : yX4_readLock.cls = RX4 ∧ yX4_readLock.cls ≠ "java/lang/invoke/MethodHandle" ∧ yX4_readLock.cls ≠ "java/lang/invoke/VarHandle" ∧ (parseMethodDescriptor yX4_readLock.desc).map (fun d => d.parameters.length) = some 0 := by decide +kernel
theorem i_X4_readLock_X4 : ∀ w ∈ u_ws RX4 TX4 4, w ∈ wsX4_readLock := fun _ h => List.mem_cons_of_mem _ (List.mem_append_left _ (List.mem_append_left _ (List.mem_append_right _ (h))))
theorem i_X4_readLock_X1 : ∀ w ∈ u_ws RX1 TX1 9, w ∈ wsX4_readLock := fun _ h => List.mem_cons_of_mem _ (List.mem_append_left _ (List.mem_append_right _ (h)))
set_option maxHeartbeats 4000000 in
set_option maxRecDepth 100000 in
theorem c_X4_readLock (l : Launch) (g : gG) (r0 t0 t1 t2 t3 p0 h0 h1 h2 h3 : Nat) (Q : Tr) (K : Tk) (P : Nat → Int32) (R : Rf) {r : Int32} {Q' : Tr} {R' : Rf} (hf : fX4_readLock Q K R = some (r, Q', R')) : Ct l yX4_readLock wsX4_readLock (rmm 3 70) g (wTr g r0 t0 t1 t2 t3 p0 h0 h1 h2 h3 Q K P R) (wTr g r0 t0 t1 t2 t3 p0 h0 h1 h2 h3 (Q') K P (R')) [.ref r0] (some (.int r)) := by
  refine Ct.mk (by decide) rfl (Nat.le_of_ble_eq_true rfl) ?_
  intro p e s m args below meth c A ls hx hb hr hml hts hown hlocks hA hE hP hD hS hl hAe
  obtain ⟨Qx, hQ⟩ : ∃ Qx : State → Prop, Qx = MQ below (QcG g (wTr g r0 t0 t1 t2 t3 p0 h0 h1 h2 h3 Q K P R) (wTr g r0 t0 t1 t2 t3 p0 h0 h1 h2 h3 (Q') K P (R')) (some (.int r)) s.heap.size) args s 0 0 A := ⟨_, rfl⟩
  rw [← hQ]
  have hown : s.vm.findClass RX4 = some m.cls := hown
  have hl : lv_has ls 3 [(0, .ref r0)] := hl
  have w1 := hts (.fieldLink RX4 27 "RainVault$TextReader" "draft" "LRainVault$Roof;") (List.mem_of_getElem? (i := 1) rfl)
  have w2 := hts (.fieldLink RX4 9 "RainVault$TextReader" "now" "I") (List.mem_of_getElem? (i := 2) rfl)
  have w3 := hts (.fieldLink RX4 15 "RainVault$TextReader" "taken" "I") (List.mem_of_getElem? (i := 3) rfl)
  have w4 := hts (.initialized RX6) (List.mem_of_getElem? (i := 11) rfl)
  have w5 := hts (.static yX6_mostRight) (List.mem_of_getElem? (i := 15) rfl)
  unfold fX4_readLock at hf
  refine lv_aload_n hx hb dX4_readLock_0 rfl (lv_at hl 0 rfl) ?_
  refine va_get (D := g.1) (ci := 4) (v := .ref h0) (C := RX4) (T := TX4) (N := 4) hx hb hts i_X4_readLock_X4 hown hE.1 hP 0 rfl rfl 1 (by decide) w1 (fun _ h9 => h9) rfl dX4_readLock_1 ?_
  refine va_getN (D := g.1) (ci := 1) (v := .int R.2.2.2.2.1) (C := RX1) (T := TX1) (N := 9) hx hb hts i_X4_readLock_X1 hown hE.1 hP 6 rfl rfl 4 (by decide) (va_Nw.use rfl (hE.2.1 _ (List.mem_of_getElem? (i := 3) rfl))) (fun _ h9 => h9) rfl dX4_readLock_4 ?_
  refine lv_bipush (v := (8 : Int32)) hx hb dX4_readLock_7 (by decide) ?_
  refine lv_icmp_lt (tgt := 14) hx hb dX4_readLock_9 (by decide) (fun hc => ?_) (fun hc => ?_)
  · have hf := if_t hf hc
    refine lv_aload_n hx hb dX4_readLock_14 rfl (lv_at hl 0 rfl) ?_
    refine lv_dup hx hb dX4_readLock_15 rfl ?_
    refine va_get (D := g.1) (ci := 4) (v := .int Q.1) (C := RX4) (T := TX4) (N := 4) hx hb hts i_X4_readLock_X4 hown hE.1 hP 0 rfl rfl 2 (by decide) w2 (fun _ h9 => h9) rfl dX4_readLock_16 ?_
    refine lv_iconst (v := (1 : Int32)) hx hb dX4_readLock_19 (by decide) ?_
    refine lv_iadd hx hb dX4_readLock_20 ?_
    refine va_put (D := g.1) (ci := 4) (v := .int (Q.1 + (1 : Int32))) (ty := .int) (C := RX4) (T := TX4) (N := 4) hx hb hts i_X4_readLock_X4 tyX4 tyX4_ok nmX4 hown hE.1 hP hD hS 0 rfl rfl 2 (by decide) w2 (fun _ h9 => h9) rfl (by decide +kernel) rfl rfl (Nat.le_of_ble_eq_true rfl) dX4_readLock_21 (fun H locs hP hD hS => ?_)
    have hP : va_P g.1 vwK (wTr g r0 t0 t1 t2 t3 p0 h0 h1 h2 h3 ((Q.1 + (1 : Int32)), Q.2) K P R) H := hP
    have hD : va_D A (wTr g r0 t0 t1 t2 t3 p0 h0 h1 h2 h3 ((Q.1 + (1 : Int32)), Q.2) K P R) := hD
    refine lv_aload_n hx hb dX4_readLock_24 rfl (lv_at hl 0 rfl) ?_
    refine lv_iconst (v := (0 : Int32)) hx hb dX4_readLock_25 (by decide) ?_
    refine lv_iconst (v := (4 : Int32)) hx hb dX4_readLock_26 (by decide) ?_
    obtain ⟨x101, Q102, hg, hf⟩ := o2_s hf
    refine Ct.callV0 (ws' := wTr g r0 t0 t1 t2 t3 p0 h0 h1 h2 h3 Q102 K P R) (As := [.int (0 : Int32), .int (4 : Int32)]) (rest := []) (st1 := [.int x101]) (c_X4_takeNumber l g r0 t0 t1 t2 t3 p0 h0 h1 h2 h3 ((Q.1 + (1 : Int32)), Q.2) K P R (0 : Int32) (4 : Int32) hg) (cwV 2 hts gX4_readLock_X4_takeNumber rfl rfl rfl q_X4_takeNumber ⟨Nat.le_of_ble_eq_true rfl, Nat.le_of_ble_eq_true rfl⟩) ⟨hx, hb, hml, hown, hts⟩ hE hP hD hS hA 4 0 rfl rfl rfl rfl hl.1 rfl rfl (Nat.le_of_ble_eq_true rfl) dX4_readLock_27 (fun H locs hP hD hS => ?_)
    refine lv_if_ne (tgt := 35) hx hb dX4_readLock_30 (by decide) (fun hc => ?_) (fun hc => ?_)
    · have hf := if_f hf hc
      refine lv_aload_n hx hb dX4_readLock_35 rfl (lv_at hl 0 rfl) ?_
      refine va_get (D := g.1) (ci := 4) (v := .int Q102.2) (C := RX4) (T := TX4) (N := 4) hx hb hts i_X4_readLock_X4 hown hE.1 hP 0 rfl rfl 3 (by decide) w3 (fun _ h9 => h9) rfl dX4_readLock_36 ?_
      refine lv_istore_n (lv' := [(1, .int Q102.2), (0, .ref r0)]) hx hb dX4_readLock_39 rfl hl (by decide) rfl (fun ls hl => ?_)
      refine lv_aload_n hx hb dX4_readLock_40 rfl (lv_at hl 1 rfl) ?_
      refine lv_iconst (v := (0 : Int32)) hx hb dX4_readLock_41 (by decide) ?_
      refine lv_bipush (v := (7 : Int32)) hx hb dX4_readLock_42 (by decide) ?_
      obtain ⟨x103, Q104, hg, hf⟩ := o2_s hf
      refine Ct.callV0 (ws' := wTr g r0 t0 t1 t2 t3 p0 h0 h1 h2 h3 Q104 K P R) (As := [.int (0 : Int32), .int (7 : Int32)]) (rest := []) (st1 := [.int x103]) (c_X4_takeNumber l g r0 t0 t1 t2 t3 p0 h0 h1 h2 h3 Q102 K P R (0 : Int32) (7 : Int32) hg) (cwV 2 hts gX4_readLock_X4_takeNumber rfl rfl rfl q_X4_takeNumber ⟨Nat.le_of_ble_eq_true rfl, Nat.le_of_ble_eq_true rfl⟩) ⟨hx, hb, hml, hown, hts⟩ hE hP hD hS hA 4 0 rfl rfl rfl rfl hl.1 rfl rfl (Nat.le_of_ble_eq_true rfl) dX4_readLock_44 (fun H locs hP hD hS => ?_)
      refine lv_if_ne (tgt := 52) hx hb dX4_readLock_47 (by decide) (fun hc => ?_) (fun hc => ?_)
      · have hf := if_f hf hc
        refine lv_aload_n hx hb dX4_readLock_52 rfl (lv_at hl 1 rfl) ?_
        refine va_get (D := g.1) (ci := 4) (v := .int Q104.2) (C := RX4) (T := TX4) (N := 4) hx hb hts i_X4_readLock_X4 hown hE.1 hP 0 rfl rfl 3 (by decide) w3 (fun _ h9 => h9) rfl dX4_readLock_53 ?_
        refine lv_istore_n (lv' := [(2, .int Q104.2), (1, .int Q102.2), (0, .ref r0)]) hx hb dX4_readLock_56 rfl hl (by decide) rfl (fun ls hl => ?_)
        refine lv_aload_n hx hb dX4_readLock_57 rfl (lv_at hl 2 rfl) ?_
        refine lv_iconst (v := (0 : Int32)) hx hb dX4_readLock_58 (by decide) ?_
        refine lv_iload_n hx hb dX4_readLock_59 rfl (lv_at hl 1 rfl) ?_
        obtain ⟨x105, hg, hf⟩ := o1_s hf
        refine Ct.callSN (ws' := wTr g r0 t0 t1 t2 t3 p0 h0 h1 h2 h3 Q104 K P R) (As := [.int Q102.2]) (rest := [.int (0 : Int32), .ref r0]) (st1 := [.int x105, .int (0 : Int32), .ref r0]) (c_X6_mostRight l g Q102.2 hg) (⟨va_cnB 1 hts gX4_readLock_X6_mostRight_n95 rfl rfl rfl (hE.2.1 _ (List.mem_of_getElem? (i := 41) rfl)) w4 q_X6_mostRight.2 ⟨Nat.le_of_ble_eq_true rfl, Nat.le_of_ble_eq_true rfl⟩, w5, trivial⟩) ⟨hx, hb, hml, hown, hts⟩ hE hP hD hS hA [] rfl rfl rfl rfl rfl hl.1 rfl rfl (Nat.le_of_ble_eq_true rfl) dX4_readLock_60 (fun H locs hP hD hS => ?_)
        obtain ⟨x106, Q107, hg, hf⟩ := o2_s hf
        refine Ct.callV0 (ws' := wTr g r0 t0 t1 t2 t3 p0 h0 h1 h2 h3 Q107 K P R) (As := [.int (0 : Int32), .int x105]) (rest := []) (st1 := [.int x106]) (c_X4_takeNumber l g r0 t0 t1 t2 t3 p0 h0 h1 h2 h3 Q104 K P R (0 : Int32) x105 hg) (cwV 2 hts gX4_readLock_X4_takeNumber rfl rfl rfl q_X4_takeNumber ⟨Nat.le_of_ble_eq_true rfl, Nat.le_of_ble_eq_true rfl⟩) ⟨hx, hb, hml, hown, hts⟩ hE hP hD hS hA 4 0 rfl rfl rfl rfl hl.1 rfl rfl (Nat.le_of_ble_eq_true rfl) dX4_readLock_63 (fun H locs hP hD hS => ?_)
        refine lv_if_ne (tgt := 71) hx hb dX4_readLock_66 (by decide) (fun hc => ?_) (fun hc => ?_)
        · have hf := if_f hf hc
          refine lv_aload_n hx hb dX4_readLock_71 rfl (lv_at hl 2 rfl) ?_
          refine va_get (D := g.1) (ci := 4) (v := .ref h0) (C := RX4) (T := TX4) (N := 4) hx hb hts i_X4_readLock_X4 hown hE.1 hP 0 rfl rfl 1 (by decide) w1 (fun _ h9 => h9) rfl dX4_readLock_72 ?_
          refine lv_iload_n hx hb dX4_readLock_75 rfl (lv_at hl 1 rfl) ?_
          refine lv_iload_n hx hb dX4_readLock_76 rfl (lv_at hl 0 rfl) ?_
          refine lv_aload_n hx hb dX4_readLock_77 rfl (lv_at hl 2 rfl) ?_
          refine va_get (D := g.1) (ci := 4) (v := .int Q107.2) (C := RX4) (T := TX4) (N := 4) hx hb hts i_X4_readLock_X4 hown hE.1 hP 0 rfl rfl 3 (by decide) w3 (fun _ h9 => h9) rfl dX4_readLock_78 ?_
          obtain ⟨x108, R109, hg, hf⟩ := o2_s hf
          refine Ct.callV (ws' := wTr g r0 t0 t1 t2 t3 p0 h0 h1 h2 h3 Q107 K P R109) (As := [.int Q102.2, .int Q104.2, .int Q107.2]) (rest := []) (st1 := [.int x108]) (c_X1_addCondition l g h0 h1 h2 h3 R Q102.2 Q104.2 Q107.2 hg) (cwV 3 hts gX4_readLock_X1_addCondition rfl rfl rfl q_X1_addCondition ⟨Nat.le_of_ble_eq_true rfl, Nat.le_of_ble_eq_true rfl⟩) ⟨hx, hb, hml, hown, hts⟩ hE hP hD hS hA [6, 7, 8, 9] rfl rfl rfl rfl 1 6 rfl rfl rfl rfl hl.1 rfl rfl (Nat.le_of_ble_eq_true rfl) dX4_readLock_81 (fun H locs hP hD hS => ?_)
          refine lv_pop hx hb dX4_readLock_84 rfl ?_
          refine lv_iconst (v := (1 : Int32)) hx hb dX4_readLock_85 (by decide) ?_
          obtain ⟨rfl, rfl, rfl⟩ := some_p3 hf
          rw [hQ]; exact Ct.zret hx hb hr (by decide) hlocks hAe hP hD hS dX4_readLock_86
        · have hf := if_t hf hc
          refine lv_iconst (v := (0 : Int32)) hx hb dX4_readLock_69 (by decide) ?_
          obtain ⟨rfl, rfl, rfl⟩ := some_p3 hf
          rw [hQ]; exact Ct.zret hx hb hr (by decide) hlocks hAe hP hD hS dX4_readLock_70
      · have hf := if_t hf hc
        refine lv_iconst (v := (0 : Int32)) hx hb dX4_readLock_50 (by decide) ?_
        obtain ⟨rfl, rfl, rfl⟩ := some_p3 hf
        rw [hQ]; exact Ct.zret hx hb hr (by decide) hlocks hAe hP hD hS dX4_readLock_51
    · have hf := if_t hf hc
      refine lv_iconst (v := (0 : Int32)) hx hb dX4_readLock_33 (by decide) ?_
      obtain ⟨rfl, rfl, rfl⟩ := some_p3 hf
      rw [hQ]; exact Ct.zret hx hb hr (by decide) hlocks hAe hP hD hS dX4_readLock_34
  · have hf := if_f hf hc
    refine lv_iconst (v := (0 : Int32)) hx hb dX4_readLock_12 (by decide) ?_
    obtain ⟨rfl, rfl, rfl⟩ := some_p3 hf
    rw [hQ]; exact Ct.zret hx hb hr (by decide) hlocks hAe hP hD hS dX4_readLock_13
def fX4_readItem_J58 (Q : Tr) (R : Rf) (x1 : Int32) : Option (Int32 × Tr × Rf) := if x1 = (13 : Int32) then (some ((1 : Int32), ((Q.1 + (1 : Int32)), Q.2), (R.1, R.2.1, R.2.2.1, R.2.2.2.1, R.2.2.2.2.1, (1 : Int32), R.2.2.2.2.2.2.1, R.2.2.2.2.2.2.2.1, R.2.2.2.2.2.2.2.2))) else (some ((1 : Int32), ((Q.1 + (1 : Int32)), Q.2), (R.1, R.2.1, R.2.2.1, R.2.2.2.1, R.2.2.2.2.1, (0 : Int32), R.2.2.2.2.2.2.1, R.2.2.2.2.2.2.2.1, R.2.2.2.2.2.2.2.2)))
def fX4_readItem (Q : Tr) (K : Tk) (R : Rf) : Option (Int32 × Tr × Rf) := o1 (fX4_sortNow Q K) (fun x101 => if (6 : Int32) < x101 then (if x101 = (11 : Int32) then (o3 (fX4_readCatch Q K R) (fun x102 Q103 R104 => nb x102 (some (x102, Q103, R104)))) else (if x101 = (12 : Int32) then (o3 (fX4_readLock Q K R) (fun x105 Q106 R107 => nb x105 (some (x105, Q106, R107)))) else (if x101 = (13 : Int32) then (fX4_readItem_J58 Q R x101) else (if x101 = (14 : Int32) then (fX4_readItem_J58 Q R x101) else (some ((0 : Int32), Q, R)))))) else (o3 (fX4_readCistern Q K R x101) (fun x108 Q109 R110 => nb x108 (some (x108, Q109, R110)))))
theorem q_X4_readItem : yX4_readItem.cls = RX4 ∧ yX4_readItem.cls ≠ "java/lang/invoke/MethodHandle" ∧ yX4_readItem.cls ≠ "java/lang/invoke/VarHandle" ∧ (parseMethodDescriptor yX4_readItem.desc).map (fun d => d.parameters.length) = some 0 := by decide +kernel
theorem i_X4_readItem_X4 : ∀ w ∈ u_ws RX4 TX4 4, w ∈ wsX4_readItem := fun _ h => List.mem_cons_of_mem _ (List.mem_append_left _ (List.mem_append_left _ (List.mem_append_right _ (h))))
theorem i_X4_readItem_X1 : ∀ w ∈ u_ws RX1 TX1 9, w ∈ wsX4_readItem := fun _ h => List.mem_cons_of_mem _ (List.mem_append_left _ (List.mem_append_right _ (h)))
set_option maxHeartbeats 4000000 in
set_option maxRecDepth 100000 in
theorem c_X4_readItem (l : Launch) (g : gG) (r0 t0 t1 t2 t3 p0 h0 h1 h2 h3 : Nat) (Q : Tr) (K : Tk) (P : Nat → Int32) (R : Rf) {r : Int32} {Q' : Tr} {R' : Rf} (hf : fX4_readItem Q K R = some (r, Q', R')) : Ct l yX4_readItem wsX4_readItem (rmm 4 92) g (wTr g r0 t0 t1 t2 t3 p0 h0 h1 h2 h3 Q K P R) (wTr g r0 t0 t1 t2 t3 p0 h0 h1 h2 h3 (Q') K P (R')) [.ref r0] (some (.int r)) := by
  refine Ct.mk (by decide) rfl (Nat.le_of_ble_eq_true rfl) ?_
  intro p e s m args below meth c A ls hx hb hr hml hts hown hlocks hA hE hP hD hS hl hAe
  obtain ⟨Qx, hQ⟩ : ∃ Qx : State → Prop, Qx = MQ below (QcG g (wTr g r0 t0 t1 t2 t3 p0 h0 h1 h2 h3 Q K P R) (wTr g r0 t0 t1 t2 t3 p0 h0 h1 h2 h3 (Q') K P (R')) (some (.int r)) s.heap.size) args s 0 0 A := ⟨_, rfl⟩
  rw [← hQ]
  have hown : s.vm.findClass RX4 = some m.cls := hown
  have hl : lv_has ls 2 [(0, .ref r0)] := hl
  have w1 := hts (.fieldLink RX4 27 "RainVault$TextReader" "draft" "LRainVault$Roof;") (List.mem_of_getElem? (i := 1) rfl)
  have w2 := hts (.fieldLink RX4 9 "RainVault$TextReader" "now" "I") (List.mem_of_getElem? (i := 2) rfl)
  have J58 : ∀ (Q : Tr) (R : Rf) (x1 : Int32) (H : Heap) (locs : List Loc) (ls : Array Slot), fX4_readItem_J58 Q R x1 = some (r, Q', R') → va_P g.1 vwK (wTr g r0 t0 t1 t2 t3 p0 h0 h1 h2 h3 Q K P R) H → va_D A (wTr g r0 t0 t1 t2 t3 p0 h0 h1 h2 h3 Q K P R) → va_S A s.heap H locs → lv_has ls 2 [(0, .ref r0), (1, .int x1)] → W p l e (rmm 4 92) s m args below meth c H locs 0 0 Qx (F0 m 58 ls []) := by
    intro Q R x1 H locs ls hf hP hD hS hl
    unfold fX4_readItem_J58 at hf
    refine lv_aload_n hx hb dX4_readItem_58 rfl (lv_at hl 0 rfl) ?_
    refine va_get (D := g.1) (ci := 4) (v := .ref h0) (C := RX4) (T := TX4) (N := 4) hx hb hts i_X4_readItem_X4 hown hE.1 hP 0 rfl rfl 1 (by decide) w1 (fun _ h9 => h9) rfl dX4_readItem_59 ?_
    refine lv_iload_n hx hb dX4_readItem_62 rfl (lv_at hl 1 rfl) ?_
    refine lv_bipush (v := (13 : Int32)) hx hb dX4_readItem_63 (by decide) ?_
    refine lv_icmp_ne (tgt := 72) hx hb dX4_readItem_65 (by decide) (fun hc => ?_) (fun hc => ?_)
    · have hf := if_f hf hc
      refine lv_iconst (v := (0 : Int32)) hx hb dX4_readItem_72 (by decide) ?_
      refine va_putN (D := g.1) (ci := 1) (v := .int (0 : Int32)) (ty := .boolean) (C := RX1) (T := TX1) (N := 9) hx hb hts i_X4_readItem_X1 tyX1 tyX1_ok nmX1 hown hE.1 hP hD hS 6 rfl rfl 5 (by decide) (va_Nw.use rfl (hE.2.1 _ (List.mem_of_getElem? (i := 5) rfl))) (fun _ h9 => h9) rfl (by decide +kernel) rfl rfl (Nat.le_of_ble_eq_true rfl) dX4_readItem_73 (fun H locs hP hD hS => ?_)
      have hP : va_P g.1 vwK (wTr g r0 t0 t1 t2 t3 p0 h0 h1 h2 h3 Q K P (R.1, R.2.1, R.2.2.1, R.2.2.2.1, R.2.2.2.2.1, (0 : Int32), R.2.2.2.2.2.2.1, R.2.2.2.2.2.2.2.1, R.2.2.2.2.2.2.2.2)) H := hP
      have hD : va_D A (wTr g r0 t0 t1 t2 t3 p0 h0 h1 h2 h3 Q K P (R.1, R.2.1, R.2.2.1, R.2.2.2.1, R.2.2.2.2.1, (0 : Int32), R.2.2.2.2.2.2.1, R.2.2.2.2.2.2.2.1, R.2.2.2.2.2.2.2.2)) := hD
      refine lv_aload_n hx hb dX4_readItem_76 rfl (lv_at hl 0 rfl) ?_
      refine lv_dup hx hb dX4_readItem_77 rfl ?_
      refine va_get (D := g.1) (ci := 4) (v := .int Q.1) (C := RX4) (T := TX4) (N := 4) hx hb hts i_X4_readItem_X4 hown hE.1 hP 0 rfl rfl 2 (by decide) w2 (fun _ h9 => h9) rfl dX4_readItem_78 ?_
      refine lv_iconst (v := (1 : Int32)) hx hb dX4_readItem_81 (by decide) ?_
      refine lv_iadd hx hb dX4_readItem_82 ?_
      refine va_put (D := g.1) (ci := 4) (v := .int (Q.1 + (1 : Int32))) (ty := .int) (C := RX4) (T := TX4) (N := 4) hx hb hts i_X4_readItem_X4 tyX4 tyX4_ok nmX4 hown hE.1 hP hD hS 0 rfl rfl 2 (by decide) w2 (fun _ h9 => h9) rfl (by decide +kernel) rfl rfl (Nat.le_of_ble_eq_true rfl) dX4_readItem_83 (fun H locs hP hD hS => ?_)
      have hP : va_P g.1 vwK (wTr g r0 t0 t1 t2 t3 p0 h0 h1 h2 h3 ((Q.1 + (1 : Int32)), Q.2) K P (R.1, R.2.1, R.2.2.1, R.2.2.2.1, R.2.2.2.2.1, (0 : Int32), R.2.2.2.2.2.2.1, R.2.2.2.2.2.2.2.1, R.2.2.2.2.2.2.2.2)) H := hP
      have hD : va_D A (wTr g r0 t0 t1 t2 t3 p0 h0 h1 h2 h3 ((Q.1 + (1 : Int32)), Q.2) K P (R.1, R.2.1, R.2.2.1, R.2.2.2.1, R.2.2.2.2.1, (0 : Int32), R.2.2.2.2.2.2.1, R.2.2.2.2.2.2.2.1, R.2.2.2.2.2.2.2.2)) := hD
      refine lv_iconst (v := (1 : Int32)) hx hb dX4_readItem_86 (by decide) ?_
      obtain ⟨rfl, rfl, rfl⟩ := some_p3 hf
      rw [hQ]; exact Ct.zret hx hb hr (by decide) hlocks hAe hP hD hS dX4_readItem_87
    · have hf := if_t hf hc
      refine lv_iconst (v := (1 : Int32)) hx hb dX4_readItem_68 (by decide) ?_
      refine lv_goto (tgt := 73) hx hb dX4_readItem_69 (by decide) ?_
      refine va_putN (D := g.1) (ci := 1) (v := .int (1 : Int32)) (ty := .boolean) (C := RX1) (T := TX1) (N := 9) hx hb hts i_X4_readItem_X1 tyX1 tyX1_ok nmX1 hown hE.1 hP hD hS 6 rfl rfl 5 (by decide) (va_Nw.use rfl (hE.2.1 _ (List.mem_of_getElem? (i := 5) rfl))) (fun _ h9 => h9) rfl (by decide +kernel) rfl rfl (Nat.le_of_ble_eq_true rfl) dX4_readItem_73 (fun H locs hP hD hS => ?_)
      have hP : va_P g.1 vwK (wTr g r0 t0 t1 t2 t3 p0 h0 h1 h2 h3 Q K P (R.1, R.2.1, R.2.2.1, R.2.2.2.1, R.2.2.2.2.1, (1 : Int32), R.2.2.2.2.2.2.1, R.2.2.2.2.2.2.2.1, R.2.2.2.2.2.2.2.2)) H := hP
      have hD : va_D A (wTr g r0 t0 t1 t2 t3 p0 h0 h1 h2 h3 Q K P (R.1, R.2.1, R.2.2.1, R.2.2.2.1, R.2.2.2.2.1, (1 : Int32), R.2.2.2.2.2.2.1, R.2.2.2.2.2.2.2.1, R.2.2.2.2.2.2.2.2)) := hD
      refine lv_aload_n hx hb dX4_readItem_76 rfl (lv_at hl 0 rfl) ?_
      refine lv_dup hx hb dX4_readItem_77 rfl ?_
      refine va_get (D := g.1) (ci := 4) (v := .int Q.1) (C := RX4) (T := TX4) (N := 4) hx hb hts i_X4_readItem_X4 hown hE.1 hP 0 rfl rfl 2 (by decide) w2 (fun _ h9 => h9) rfl dX4_readItem_78 ?_
      refine lv_iconst (v := (1 : Int32)) hx hb dX4_readItem_81 (by decide) ?_
      refine lv_iadd hx hb dX4_readItem_82 ?_
      refine va_put (D := g.1) (ci := 4) (v := .int (Q.1 + (1 : Int32))) (ty := .int) (C := RX4) (T := TX4) (N := 4) hx hb hts i_X4_readItem_X4 tyX4 tyX4_ok nmX4 hown hE.1 hP hD hS 0 rfl rfl 2 (by decide) w2 (fun _ h9 => h9) rfl (by decide +kernel) rfl rfl (Nat.le_of_ble_eq_true rfl) dX4_readItem_83 (fun H locs hP hD hS => ?_)
      have hP : va_P g.1 vwK (wTr g r0 t0 t1 t2 t3 p0 h0 h1 h2 h3 ((Q.1 + (1 : Int32)), Q.2) K P (R.1, R.2.1, R.2.2.1, R.2.2.2.1, R.2.2.2.2.1, (1 : Int32), R.2.2.2.2.2.2.1, R.2.2.2.2.2.2.2.1, R.2.2.2.2.2.2.2.2)) H := hP
      have hD : va_D A (wTr g r0 t0 t1 t2 t3 p0 h0 h1 h2 h3 ((Q.1 + (1 : Int32)), Q.2) K P (R.1, R.2.1, R.2.2.1, R.2.2.2.1, R.2.2.2.2.1, (1 : Int32), R.2.2.2.2.2.2.1, R.2.2.2.2.2.2.2.1, R.2.2.2.2.2.2.2.2)) := hD
      refine lv_iconst (v := (1 : Int32)) hx hb dX4_readItem_86 (by decide) ?_
      obtain ⟨rfl, rfl, rfl⟩ := some_p3 hf
      rw [hQ]; exact Ct.zret hx hb hr (by decide) hlocks hAe hP hD hS dX4_readItem_87
  unfold fX4_readItem at hf
  refine lv_aload_n hx hb dX4_readItem_0 rfl (lv_at hl 0 rfl) ?_
  obtain ⟨x101, hg, hf⟩ := o1_s hf
  refine Ct.callV0 (ws' := wTr g r0 t0 t1 t2 t3 p0 h0 h1 h2 h3 Q K P R) (As := []) (rest := []) (st1 := [.int x101]) (c_X4_sortNow l g r0 t0 t1 t2 t3 p0 h0 h1 h2 h3 Q K P R hg) (cwV 0 hts gX4_readItem_X4_sortNow rfl rfl rfl q_X4_sortNow ⟨Nat.le_of_ble_eq_true rfl, Nat.le_of_ble_eq_true rfl⟩) ⟨hx, hb, hml, hown, hts⟩ hE hP hD hS hA 4 0 rfl rfl rfl rfl hl.1 rfl rfl (Nat.le_of_ble_eq_true rfl) dX4_readItem_1 (fun H locs hP hD hS => ?_)
  refine lv_istore_n (lv' := [(1, .int x101), (0, .ref r0)]) hx hb dX4_readItem_4 rfl hl (by decide) rfl (fun ls hl => ?_)
  refine lv_iload_n hx hb dX4_readItem_5 rfl (lv_at hl 0 rfl) ?_
  refine lv_bipush (v := (6 : Int32)) hx hb dX4_readItem_6 (by decide) ?_
  refine lv_icmp_gt (tgt := 17) hx hb dX4_readItem_8 (by decide) (fun hc => ?_) (fun hc => ?_)
  · have hf := if_t hf hc
    refine lv_iload_n hx hb dX4_readItem_17 rfl (lv_at hl 0 rfl) ?_
    by_cases hc11 : x101 = (11 : Int32)
    · have hf := if_t hf hc11
      refine lv_tableIn (off := 30) (tgt := 48) hx hb dX4_readItem_18 (ts_in _ hc11 (by decide)) (ts_hi _ hc11 (by decide)) (ts_of _ hc11 (by decide)) (by decide) ?_
      refine lv_aload_n hx hb dX4_readItem_48 rfl (lv_at hl 1 rfl) ?_
      obtain ⟨x102, Q103, R104, hg, hf⟩ := o3_s hf
      refine Ct.callV0 (ws' := wTr g r0 t0 t1 t2 t3 p0 h0 h1 h2 h3 Q103 K P R104) (As := []) (rest := []) (st1 := [.int x102]) (c_X4_readCatch l g r0 t0 t1 t2 t3 p0 h0 h1 h2 h3 Q K P R hg) (cwV 0 hts gX4_readItem_X4_readCatch rfl rfl rfl q_X4_readCatch ⟨Nat.le_of_ble_eq_true rfl, Nat.le_of_ble_eq_true rfl⟩) ⟨hx, hb, hml, hown, hts⟩ hE hP hD hS hA 4 0 rfl rfl rfl rfl hl.1 rfl rfl (Nat.le_of_ble_eq_true rfl) dX4_readItem_49 (fun H locs hP hD hS => ?_)
      obtain ⟨hn, hf⟩ := nb_s hf
      obtain ⟨rfl, rfl, rfl⟩ := some_p3 hf
      rw [hQ]; exact Ct.zret hx hb hr hn hlocks hAe hP hD hS dX4_readItem_52
    · have hf := if_f hf hc11
      by_cases hc12 : x101 = (12 : Int32)
      · have hf := if_t hf hc12
        refine lv_tableIn (off := 35) (tgt := 53) hx hb dX4_readItem_18 (ts_in _ hc12 (by decide)) (ts_hi _ hc12 (by decide)) (ts_of _ hc12 (by decide)) (by decide) ?_
        refine lv_aload_n hx hb dX4_readItem_53 rfl (lv_at hl 1 rfl) ?_
        obtain ⟨x105, Q106, R107, hg, hf⟩ := o3_s hf
        refine Ct.callV0 (ws' := wTr g r0 t0 t1 t2 t3 p0 h0 h1 h2 h3 Q106 K P R107) (As := []) (rest := []) (st1 := [.int x105]) (c_X4_readLock l g r0 t0 t1 t2 t3 p0 h0 h1 h2 h3 Q K P R hg) (cwV 0 hts gX4_readItem_X4_readLock rfl rfl rfl q_X4_readLock ⟨Nat.le_of_ble_eq_true rfl, Nat.le_of_ble_eq_true rfl⟩) ⟨hx, hb, hml, hown, hts⟩ hE hP hD hS hA 4 0 rfl rfl rfl rfl hl.1 rfl rfl (Nat.le_of_ble_eq_true rfl) dX4_readItem_54 (fun H locs hP hD hS => ?_)
        obtain ⟨hn, hf⟩ := nb_s hf
        obtain ⟨rfl, rfl, rfl⟩ := some_p3 hf
        rw [hQ]; exact Ct.zret hx hb hr hn hlocks hAe hP hD hS dX4_readItem_57
      · have hf := if_f hf hc12
        by_cases hc13 : x101 = (13 : Int32)
        · have hf := if_t hf hc13
          refine lv_tableIn (off := 40) (tgt := 58) hx hb dX4_readItem_18 (ts_in _ hc13 (by decide)) (ts_hi _ hc13 (by decide)) (ts_of _ hc13 (by decide)) (by decide) ?_
          exact J58 _ _ _ _ _ _  hf hP hD hS (lv_sub hl [1, 0] rfl)
        · have hf := if_f hf hc13
          by_cases hc14 : x101 = (14 : Int32)
          · have hf := if_t hf hc14
            refine lv_tableIn (off := 40) (tgt := 58) hx hb dX4_readItem_18 (ts_in _ hc14 (by decide)) (ts_hi _ hc14 (by decide)) (ts_of _ hc14 (by decide)) (by decide) ?_
            exact J58 _ _ _ _ _ _  hf hP hD hS (lv_sub hl [1, 0] rfl)
          · have hf := if_f hf hc14
            have hn11 := lv_neT (a := 11) hc11 (by decide)
            have hn12 := lv_neT (a := 12) hc12 (by decide)
            have hn13 := lv_neT (a := 13) hc13 (by decide)
            have hn14 := lv_neT (a := 14) hc14 (by decide)
            refine lv_tableOut (tgt := 88) hx hb dX4_readItem_18 (by omega) (by decide) ?_
            refine lv_iconst (v := (0 : Int32)) hx hb dX4_readItem_88 (by decide) ?_
            obtain ⟨rfl, rfl, rfl⟩ := some_p3 hf
            rw [hQ]; exact Ct.zret hx hb hr (by decide) hlocks hAe hP hD hS dX4_readItem_89
  · have hf := if_f hf hc
    refine lv_aload_n hx hb dX4_readItem_11 rfl (lv_at hl 1 rfl) ?_
    refine lv_iload_n hx hb dX4_readItem_12 rfl (lv_at hl 0 rfl) ?_
    obtain ⟨x108, Q109, R110, hg, hf⟩ := o3_s hf
    refine Ct.callV0 (ws' := wTr g r0 t0 t1 t2 t3 p0 h0 h1 h2 h3 Q109 K P R110) (As := [.int x101]) (rest := []) (st1 := [.int x108]) (c_X4_readCistern l g r0 t0 t1 t2 t3 p0 h0 h1 h2 h3 Q K P R x101 hg) (cwV 1 hts gX4_readItem_X4_readCistern rfl rfl rfl q_X4_readCistern ⟨Nat.le_of_ble_eq_true rfl, Nat.le_of_ble_eq_true rfl⟩) ⟨hx, hb, hml, hown, hts⟩ hE hP hD hS hA 4 0 rfl rfl rfl rfl hl.1 rfl rfl (Nat.le_of_ble_eq_true rfl) dX4_readItem_13 (fun H locs hP hD hS => ?_)
    obtain ⟨hn, hf⟩ := nb_s hf
    obtain ⟨rfl, rfl, rfl⟩ := some_p3 hf
    rw [hQ]; exact Ct.zret hx hb hr hn hlocks hAe hP hD hS dX4_readItem_16
def fX4_read_L15 (K : Tk) (kx : Tr → Rf → Option (Int32 × Tr × Tk × Rf)) : Nat → Tr → Rf → Int32 → Option (Int32 × Tr × Tk × Rf)
  | 0, _, _, _ => none
  | k + 1, Q, R, x2 => if (120 : Int32) < x2 then (kx Q R) else (o3 (fX4_readItem Q K R) (fun x108 Q109 R110 => if x108 = 0 then (kx Q109 R110) else (o1 (fX4_sortNow Q109 K) (fun x111 => if x111 = (17 : Int32) then (some (x2, Q109, K, R110)) else (o1 (fX4_sortNow Q109 K) (fun x112 => if x112 = (16 : Int32) then (fX4_read_L15 K kx k ((Q109.1 + (1 : Int32)), Q109.2) R110 (x2 + (1 : Int32))) else (o1 (fX6_at 121 K.2.1 Q109.1) (fun x113 => some (((-1 : Int32) - x113), Q109, K, R110)))))))))
def fX4_read (Q : Tr) (K : Tk) (P : Nat → Int32) (R : Rf) (a1 : Int32) : Option (Int32 × Tr × Tk × Rf) := o1 (fX5_cut K P a1) (fun K101 => fX4_read_L15 K101 (fun Q114 R115 => o1 (fX6_at 121 K101.2.1 Q114.1) (fun x116 => some (((-1 : Int32) - x116), Q114, K101, R115))) fu ((0 : Int32), Q.2) R (1 : Int32))
theorem q_X4_read : yX4_read.cls = RX4 ∧ yX4_read.cls ≠ "java/lang/invoke/MethodHandle" ∧ yX4_read.cls ≠ "java/lang/invoke/VarHandle" ∧ (parseMethodDescriptor yX4_read.desc).map (fun d => d.parameters.length) = some 1 := by decide +kernel
theorem i_X4_read_X4 : ∀ w ∈ u_ws RX4 TX4 4, w ∈ wsX4_read := fun _ h => List.mem_cons_of_mem _ (List.mem_append_left _ (List.mem_append_left _ (List.mem_append_right _ (h))))
theorem i_X4_read_X5 : ∀ w ∈ u_ws RX5 TX5 6, w ∈ wsX4_read := fun _ h => List.mem_cons_of_mem _ (List.mem_append_left _ (List.mem_append_right _ (h)))
set_option maxHeartbeats 4000000 in
set_option maxRecDepth 100000 in
theorem c_X4_read (l : Launch) (g : gG) (r0 t0 t1 t2 t3 p0 h0 h1 h2 h3 : Nat) (Q : Tr) (K : Tk) (P : Nat → Int32) (R : Rf) (a1 : Int32) {r : Int32} {Q' : Tr} {K' : Tk} {R' : Rf} (hf : fX4_read Q K P R a1 = some (r, Q', K', R')) : Ct l yX4_read wsX4_read (rmm 10 310) g (wTr g r0 t0 t1 t2 t3 p0 h0 h1 h2 h3 Q K P R) (wTr g r0 t0 t1 t2 t3 p0 h0 h1 h2 h3 (Q') (K') P (R')) [.ref r0, .int a1] (some (.int r)) := by
  refine Ct.mk (by decide) rfl (Nat.le_of_ble_eq_true rfl) ?_
  intro p e s m args below meth c A ls hx hb hr hml hts hown hlocks hA hE hP hD hS hl hAe
  obtain ⟨Qx, hQ⟩ : ∃ Qx : State → Prop, Qx = MQ below (QcG g (wTr g r0 t0 t1 t2 t3 p0 h0 h1 h2 h3 Q K P R) (wTr g r0 t0 t1 t2 t3 p0 h0 h1 h2 h3 (Q') (K') P (R')) (some (.int r)) s.heap.size) args s 0 0 A := ⟨_, rfl⟩
  rw [← hQ]
  have hown : s.vm.findClass RX4 = some m.cls := hown
  have hl : lv_has ls 3 [(0, .ref r0), (1, .int a1)] := hl
  have w1 := hts (.fieldLink RX4 23 "RainVault$TextReader" "tokens" "LRainVault$Tokens;") (List.mem_of_getElem? (i := 1) rfl)
  have w2 := hts (.fieldLink RX4 9 "RainVault$TextReader" "now" "I") (List.mem_of_getElem? (i := 2) rfl)
  have w3 := hts (.initialized RX6) (List.mem_of_getElem? (i := 18) rfl)
  have w4 := hts (.static yX6_at) (List.mem_of_getElem? (i := 17) rfl)
  have L15 : ∀ (K : Tk) (kx : Tr → Rf → Option (Int32 × Tr × Tk × Rf)) (k : Nat) (Q : Tr) (R : Rf) (x2 : Int32) (H : Heap) (locs : List Loc) (ls : Array Slot), fX4_read_L15 K kx k Q R x2 = some (r, Q', K', R') → va_P g.1 vwK (wTr g r0 t0 t1 t2 t3 p0 h0 h1 h2 h3 Q K P R) H → va_D A (wTr g r0 t0 t1 t2 t3 p0 h0 h1 h2 h3 Q K P R) → va_S A s.heap H locs → lv_has ls 3 [(0, .ref r0), (2, .int x2)] → (∀ (Q : Tr) (R : Rf) (H : Heap) (locs : List Loc) (ls : Array Slot), kx Q R = some (r, Q', K', R') → va_P g.1 vwK (wTr g r0 t0 t1 t2 t3 p0 h0 h1 h2 h3 Q K P R) H → va_D A (wTr g r0 t0 t1 t2 t3 p0 h0 h1 h2 h3 Q K P R) → va_S A s.heap H locs → lv_has ls 3 [(0, .ref r0)] → W p l e (rmm 10 310) s m args below meth c H locs 0 0 Qx (F0 m 67 ls [])) → W p l e (rmm 10 310) s m args below meth c H locs 0 0 Qx (F0 m 15 ls []) := by
    intro K kx k
    induction k with
    | zero => intro Q R x2 H locs ls hf; exact nomatch (show (none : Option (Int32 × Tr × Tk × Rf)) = some _ from hf)
    | succ k ih =>
      intro Q R x2 H locs ls hf hP hD hS hl hk
      rw [fX4_read_L15] at hf
      refine lv_iload_n hx hb dX4_read_15 rfl (lv_at hl 1 rfl) ?_
      refine lv_bipush (v := (120 : Int32)) hx hb dX4_read_16 (by decide) ?_
      refine lv_icmp_gt (tgt := 67) hx hb dX4_read_18 (by decide) (fun hc => ?_) (fun hc => ?_)
      · have hf := if_t hf hc
        exact hk _ _ _ _ _  hf hP hD hS (lv_sub hl [0] rfl)
      · have hf := if_f hf hc
        refine lv_aload_n hx hb dX4_read_21 rfl (lv_at hl 0 rfl) ?_
        obtain ⟨x108, Q109, R110, hg, hf⟩ := o3_s hf
        refine Ct.callV0 (ws' := wTr g r0 t0 t1 t2 t3 p0 h0 h1 h2 h3 Q109 K P R110) (As := []) (rest := []) (st1 := [.int x108]) (c_X4_readItem l g r0 t0 t1 t2 t3 p0 h0 h1 h2 h3 Q K P R hg) (cwV 0 hts gX4_read_X4_readItem rfl rfl rfl q_X4_readItem ⟨Nat.le_of_ble_eq_true rfl, Nat.le_of_ble_eq_true rfl⟩) ⟨hx, hb, hml, hown, hts⟩ hE hP hD hS hA 4 0 rfl rfl rfl rfl hl.1 rfl rfl (Nat.le_of_ble_eq_true rfl) dX4_read_22 (fun H locs hP hD hS => ?_)
        refine lv_if_eq (tgt := 67) hx hb dX4_read_25 (by decide) (fun hc => ?_) (fun hc => ?_)
        · have hf := if_t hf hc
          exact hk _ _ _ _ _  hf hP hD hS (lv_sub hl [0] rfl)
        · have hf := if_f hf hc
          refine lv_aload_n hx hb dX4_read_28 rfl (lv_at hl 0 rfl) ?_
          obtain ⟨x111, hg, hf⟩ := o1_s hf
          refine Ct.callV0 (ws' := wTr g r0 t0 t1 t2 t3 p0 h0 h1 h2 h3 Q109 K P R110) (As := []) (rest := []) (st1 := [.int x111]) (c_X4_sortNow l g r0 t0 t1 t2 t3 p0 h0 h1 h2 h3 Q109 K P R110 hg) (cwV 0 hts gX4_read_X4_sortNow rfl rfl rfl q_X4_sortNow ⟨Nat.le_of_ble_eq_true rfl, Nat.le_of_ble_eq_true rfl⟩) ⟨hx, hb, hml, hown, hts⟩ hE hP hD hS hA 4 0 rfl rfl rfl rfl hl.1 rfl rfl (Nat.le_of_ble_eq_true rfl) dX4_read_29 (fun H locs hP hD hS => ?_)
          refine lv_bipush (v := (17 : Int32)) hx hb dX4_read_32 (by decide) ?_
          refine lv_icmp_ne (tgt := 39) hx hb dX4_read_34 (by decide) (fun hc => ?_) (fun hc => ?_)
          · have hf := if_f hf hc
            refine lv_aload_n hx hb dX4_read_39 rfl (lv_at hl 0 rfl) ?_
            obtain ⟨x112, hg, hf⟩ := o1_s hf
            refine Ct.callV0 (ws' := wTr g r0 t0 t1 t2 t3 p0 h0 h1 h2 h3 Q109 K P R110) (As := []) (rest := []) (st1 := [.int x112]) (c_X4_sortNow l g r0 t0 t1 t2 t3 p0 h0 h1 h2 h3 Q109 K P R110 hg) (cwV 0 hts gX4_read_X4_sortNow rfl rfl rfl q_X4_sortNow ⟨Nat.le_of_ble_eq_true rfl, Nat.le_of_ble_eq_true rfl⟩) ⟨hx, hb, hml, hown, hts⟩ hE hP hD hS hA 4 0 rfl rfl rfl rfl hl.1 rfl rfl (Nat.le_of_ble_eq_true rfl) dX4_read_40 (fun H locs hP hD hS => ?_)
            refine lv_bipush (v := (16 : Int32)) hx hb dX4_read_43 (by decide) ?_
            refine lv_icmp_eq (tgt := 51) hx hb dX4_read_45 (by decide) (fun hc => ?_) (fun hc => ?_)
            · have hf := if_t hf hc
              refine lv_aload_n hx hb dX4_read_51 rfl (lv_at hl 0 rfl) ?_
              refine lv_dup hx hb dX4_read_52 rfl ?_
              refine va_get (D := g.1) (ci := 4) (v := .int Q109.1) (C := RX4) (T := TX4) (N := 4) hx hb hts i_X4_read_X4 hown hE.1 hP 0 rfl rfl 2 (by decide) w2 (fun _ h9 => h9) rfl dX4_read_53 ?_
              refine lv_iconst (v := (1 : Int32)) hx hb dX4_read_56 (by decide) ?_
              refine lv_iadd hx hb dX4_read_57 ?_
              refine va_put (D := g.1) (ci := 4) (v := .int (Q109.1 + (1 : Int32))) (ty := .int) (C := RX4) (T := TX4) (N := 4) hx hb hts i_X4_read_X4 tyX4 tyX4_ok nmX4 hown hE.1 hP hD hS 0 rfl rfl 2 (by decide) w2 (fun _ h9 => h9) rfl (by decide +kernel) rfl rfl (Nat.le_of_ble_eq_true rfl) dX4_read_58 (fun H locs hP hD hS => ?_)
              have hP : va_P g.1 vwK (wTr g r0 t0 t1 t2 t3 p0 h0 h1 h2 h3 ((Q109.1 + (1 : Int32)), Q109.2) K P R110) H := hP
              have hD : va_D A (wTr g r0 t0 t1 t2 t3 p0 h0 h1 h2 h3 ((Q109.1 + (1 : Int32)), Q109.2) K P R110) := hD
              refine lv_iinc (v := (x2 + (1 : Int32))) (lv' := [(2, .int (x2 + (1 : Int32))), (0, .ref r0)]) hx hb dX4_read_61 hl (k := 1) rfl rfl (by decide) rfl (fun ls hl => ?_)
              refine lv_goto (tgt := 15) hx hb dX4_read_64 (by decide) ?_
              exact ih _ _ _ _ _ _  hf hP hD hS (lv_sub hl [1, 0] rfl) hk
            · have hf := if_f hf hc
              refine lv_goto (tgt := 67) hx hb dX4_read_48 (by decide) ?_
              refine lv_iconst (v := (-1 : Int32)) hx hb dX4_read_67 (by decide) ?_
              refine lv_aload_n hx hb dX4_read_68 rfl (lv_at hl 0 rfl) ?_
              refine va_get (D := g.1) (ci := 4) (v := .ref t0) (C := RX4) (T := TX4) (N := 4) hx hb hts i_X4_read_X4 hown hE.1 hP 0 rfl rfl 0 (by decide) w1 (fun _ h9 => h9) rfl dX4_read_69 ?_
              refine va_getN (D := g.1) (ci := 5) (v := .ref t2) (C := RX5) (T := TX5) (N := 6) hx hb hts i_X4_read_X5 hown hE.1 hP 1 rfl rfl 2 (by decide) (va_Nw.use rfl (hE.2.1 _ (List.mem_of_getElem? (i := 16) rfl))) (fun _ h9 => h9) rfl dX4_read_72 ?_
              refine lv_aload_n hx hb dX4_read_75 rfl (lv_at hl 0 rfl) ?_
              refine va_get (D := g.1) (ci := 4) (v := .int Q109.1) (C := RX4) (T := TX4) (N := 4) hx hb hts i_X4_read_X4 hown hE.1 hP 0 rfl rfl 2 (by decide) w2 (fun _ h9 => h9) rfl dX4_read_76 ?_
              obtain ⟨x113, hg, hf⟩ := o1_s hf
              refine Ct.callSN (ws' := wTr g r0 t0 t1 t2 t3 p0 h0 h1 h2 h3 Q109 K P R110) (As := [.ref t2, .int Q109.1]) (rest := [.int (-1 : Int32)]) (st1 := [.int x113, .int (-1 : Int32)]) (c_X6_at l g t2 121 K.2.1 Q109.1 hg) (⟨va_cnB 2 hts gX4_read_X6_at_n47 rfl rfl rfl (hE.2.1 _ (List.mem_of_getElem? (i := 39) rfl)) w3 q_X6_at.2 ⟨Nat.le_of_ble_eq_true rfl, Nat.le_of_ble_eq_true rfl⟩, w4, trivial⟩) ⟨hx, hb, hml, hown, hts⟩ hE hP hD hS hA [3] rfl rfl rfl rfl rfl hl.1 rfl rfl (Nat.le_of_ble_eq_true rfl) dX4_read_79 (fun H locs hP hD hS => ?_)
              refine lv_isub hx hb dX4_read_82 ?_
              obtain ⟨rfl, rfl, rfl, rfl⟩ := some_p4 hf
              rw [hQ]; exact Ct.iret hx hb hr hlocks hAe hP hD hS dX4_read_83
          · have hf := if_t hf hc
            refine lv_iload_n hx hb dX4_read_37 rfl (lv_at hl 1 rfl) ?_
            obtain ⟨rfl, rfl, rfl, rfl⟩ := some_p4 hf
            rw [hQ]; exact Ct.iret hx hb hr hlocks hAe hP hD hS dX4_read_38
  unfold fX4_read at hf
  refine lv_aload_n hx hb dX4_read_0 rfl (lv_at hl 0 rfl) ?_
  refine va_get (D := g.1) (ci := 4) (v := .ref t0) (C := RX4) (T := TX4) (N := 4) hx hb hts i_X4_read_X4 hown hE.1 hP 0 rfl rfl 0 (by decide) w1 (fun _ h9 => h9) rfl dX4_read_1 ?_
  refine lv_iload_n hx hb dX4_read_4 rfl (lv_at hl 1 rfl) ?_
  obtain ⟨K101, hg, hf⟩ := o1_s hf
  refine Ct.callV (ws' := wTr g r0 t0 t1 t2 t3 p0 h0 h1 h2 h3 Q K101 P R) (As := [.int a1]) (rest := []) (st1 := []) (c_X5_cut l g t0 t1 t2 t3 p0 K P a1 hg) (cwV 1 hts gX4_read_X5_cut rfl rfl rfl q_X5_cut ⟨Nat.le_of_ble_eq_true rfl, Nat.le_of_ble_eq_true rfl⟩) ⟨hx, hb, hml, hown, hts⟩ hE hP hD hS hA [1, 2, 3, 4, 5] rfl rfl rfl rfl 5 1 rfl rfl rfl rfl hl.1 rfl rfl (Nat.le_of_ble_eq_true rfl) dX4_read_5 (fun H locs hP hD hS => ?_)
  refine lv_aload_n hx hb dX4_read_8 rfl (lv_at hl 0 rfl) ?_
  refine lv_iconst (v := (0 : Int32)) hx hb dX4_read_9 (by decide) ?_
  refine va_put (D := g.1) (ci := 4) (v := .int (0 : Int32)) (ty := .int) (C := RX4) (T := TX4) (N := 4) hx hb hts i_X4_read_X4 tyX4 tyX4_ok nmX4 hown hE.1 hP hD hS 0 rfl rfl 2 (by decide) w2 (fun _ h9 => h9) rfl (by decide +kernel) rfl rfl (Nat.le_of_ble_eq_true rfl) dX4_read_10 (fun H locs hP hD hS => ?_)
  have hP : va_P g.1 vwK (wTr g r0 t0 t1 t2 t3 p0 h0 h1 h2 h3 ((0 : Int32), Q.2) K101 P R) H := hP
  have hD : va_D A (wTr g r0 t0 t1 t2 t3 p0 h0 h1 h2 h3 ((0 : Int32), Q.2) K101 P R) := hD
  refine lv_iconst (v := (1 : Int32)) hx hb dX4_read_13 (by decide) ?_
  refine lv_istore_n (lv' := [(2, .int (1 : Int32)), (0, .ref r0), (1, .int a1)]) hx hb dX4_read_14 rfl hl (by decide) rfl (fun ls hl => ?_)
  refine L15 _ _ _ _ _ _ _ _ _  hf hP hD hS (lv_sub hl [1, 0] rfl) (fun Q114 R115 H locs ls hf hP hD hS hl => ?_)
  refine lv_iconst (v := (-1 : Int32)) hx hb dX4_read_67 (by decide) ?_
  refine lv_aload_n hx hb dX4_read_68 rfl (lv_at hl 0 rfl) ?_
  refine va_get (D := g.1) (ci := 4) (v := .ref t0) (C := RX4) (T := TX4) (N := 4) hx hb hts i_X4_read_X4 hown hE.1 hP 0 rfl rfl 0 (by decide) w1 (fun _ h9 => h9) rfl dX4_read_69 ?_
  refine va_getN (D := g.1) (ci := 5) (v := .ref t2) (C := RX5) (T := TX5) (N := 6) hx hb hts i_X4_read_X5 hown hE.1 hP 1 rfl rfl 2 (by decide) (va_Nw.use rfl (hE.2.1 _ (List.mem_of_getElem? (i := 16) rfl))) (fun _ h9 => h9) rfl dX4_read_72 ?_
  refine lv_aload_n hx hb dX4_read_75 rfl (lv_at hl 0 rfl) ?_
  refine va_get (D := g.1) (ci := 4) (v := .int Q114.1) (C := RX4) (T := TX4) (N := 4) hx hb hts i_X4_read_X4 hown hE.1 hP 0 rfl rfl 2 (by decide) w2 (fun _ h9 => h9) rfl dX4_read_76 ?_
  obtain ⟨x116, hg, hf⟩ := o1_s hf
  refine Ct.callSN (ws' := wTr g r0 t0 t1 t2 t3 p0 h0 h1 h2 h3 Q114 K101 P R115) (As := [.ref t2, .int Q114.1]) (rest := [.int (-1 : Int32)]) (st1 := [.int x116, .int (-1 : Int32)]) (c_X6_at l g t2 121 K101.2.1 Q114.1 hg) (⟨va_cnB 2 hts gX4_read_X6_at_n47 rfl rfl rfl (hE.2.1 _ (List.mem_of_getElem? (i := 39) rfl)) w3 q_X6_at.2 ⟨Nat.le_of_ble_eq_true rfl, Nat.le_of_ble_eq_true rfl⟩, w4, trivial⟩) ⟨hx, hb, hml, hown, hts⟩ hE hP hD hS hA [3] rfl rfl rfl rfl rfl hl.1 rfl rfl (Nat.le_of_ble_eq_true rfl) dX4_read_79 (fun H locs hP hD hS => ?_)
  refine lv_isub hx hb dX4_read_82 ?_
  obtain ⟨rfl, rfl, rfl, rfl⟩ := some_p4 hf
  rw [hQ]; exact Ct.iret hx hb hr hlocks hAe hP hD hS dX4_read_83
def fJ6_bitCount_0f7a4 (a1 : Int32) : Option (Int32) := some ((((((((a1 - (((a1.toUInt32 >>> ((1 : Int32).toUInt32 &&& Int32.toUInt32 31)).toInt32) &&& (1431655765 : Int32))) &&& (858993459 : Int32)) + ((((a1 - (((a1.toUInt32 >>> ((1 : Int32).toUInt32 &&& Int32.toUInt32 31)).toInt32) &&& (1431655765 : Int32))).toUInt32 >>> ((2 : Int32).toUInt32 &&& Int32.toUInt32 31)).toInt32) &&& (858993459 : Int32))) + (((((a1 - (((a1.toUInt32 >>> ((1 : Int32).toUInt32 &&& Int32.toUInt32 31)).toInt32) &&& (1431655765 : Int32))) &&& (858993459 : Int32)) + ((((a1 - (((a1.toUInt32 >>> ((1 : Int32).toUInt32 &&& Int32.toUInt32 31)).toInt32) &&& (1431655765 : Int32))).toUInt32 >>> ((2 : Int32).toUInt32 &&& Int32.toUInt32 31)).toInt32) &&& (858993459 : Int32))).toUInt32 >>> ((4 : Int32).toUInt32 &&& Int32.toUInt32 31)).toInt32)) &&& (252645135 : Int32)) + (((((((a1 - (((a1.toUInt32 >>> ((1 : Int32).toUInt32 &&& Int32.toUInt32 31)).toInt32) &&& (1431655765 : Int32))) &&& (858993459 : Int32)) + ((((a1 - (((a1.toUInt32 >>> ((1 : Int32).toUInt32 &&& Int32.toUInt32 31)).toInt32) &&& (1431655765 : Int32))).toUInt32 >>> ((2 : Int32).toUInt32 &&& Int32.toUInt32 31)).toInt32) &&& (858993459 : Int32))) + (((((a1 - (((a1.toUInt32 >>> ((1 : Int32).toUInt32 &&& Int32.toUInt32 31)).toInt32) &&& (1431655765 : Int32))) &&& (858993459 : Int32)) + ((((a1 - (((a1.toUInt32 >>> ((1 : Int32).toUInt32 &&& Int32.toUInt32 31)).toInt32) &&& (1431655765 : Int32))).toUInt32 >>> ((2 : Int32).toUInt32 &&& Int32.toUInt32 31)).toInt32) &&& (858993459 : Int32))).toUInt32 >>> ((4 : Int32).toUInt32 &&& Int32.toUInt32 31)).toInt32)) &&& (252645135 : Int32)).toUInt32 >>> ((8 : Int32).toUInt32 &&& Int32.toUInt32 31)).toInt32)) + ((((((((a1 - (((a1.toUInt32 >>> ((1 : Int32).toUInt32 &&& Int32.toUInt32 31)).toInt32) &&& (1431655765 : Int32))) &&& (858993459 : Int32)) + ((((a1 - (((a1.toUInt32 >>> ((1 : Int32).toUInt32 &&& Int32.toUInt32 31)).toInt32) &&& (1431655765 : Int32))).toUInt32 >>> ((2 : Int32).toUInt32 &&& Int32.toUInt32 31)).toInt32) &&& (858993459 : Int32))) + (((((a1 - (((a1.toUInt32 >>> ((1 : Int32).toUInt32 &&& Int32.toUInt32 31)).toInt32) &&& (1431655765 : Int32))) &&& (858993459 : Int32)) + ((((a1 - (((a1.toUInt32 >>> ((1 : Int32).toUInt32 &&& Int32.toUInt32 31)).toInt32) &&& (1431655765 : Int32))).toUInt32 >>> ((2 : Int32).toUInt32 &&& Int32.toUInt32 31)).toInt32) &&& (858993459 : Int32))).toUInt32 >>> ((4 : Int32).toUInt32 &&& Int32.toUInt32 31)).toInt32)) &&& (252645135 : Int32)) + (((((((a1 - (((a1.toUInt32 >>> ((1 : Int32).toUInt32 &&& Int32.toUInt32 31)).toInt32) &&& (1431655765 : Int32))) &&& (858993459 : Int32)) + ((((a1 - (((a1.toUInt32 >>> ((1 : Int32).toUInt32 &&& Int32.toUInt32 31)).toInt32) &&& (1431655765 : Int32))).toUInt32 >>> ((2 : Int32).toUInt32 &&& Int32.toUInt32 31)).toInt32) &&& (858993459 : Int32))) + (((((a1 - (((a1.toUInt32 >>> ((1 : Int32).toUInt32 &&& Int32.toUInt32 31)).toInt32) &&& (1431655765 : Int32))) &&& (858993459 : Int32)) + ((((a1 - (((a1.toUInt32 >>> ((1 : Int32).toUInt32 &&& Int32.toUInt32 31)).toInt32) &&& (1431655765 : Int32))).toUInt32 >>> ((2 : Int32).toUInt32 &&& Int32.toUInt32 31)).toInt32) &&& (858993459 : Int32))).toUInt32 >>> ((4 : Int32).toUInt32 &&& Int32.toUInt32 31)).toInt32)) &&& (252645135 : Int32)).toUInt32 >>> ((8 : Int32).toUInt32 &&& Int32.toUInt32 31)).toInt32)).toUInt32 >>> ((16 : Int32).toUInt32 &&& Int32.toUInt32 31)).toInt32)) &&& (63 : Int32))
theorem q_J6_bitCount_0f7a4 : yJ6_bitCount_0f7a4.cls = RJ6 ∧ yJ6_bitCount_0f7a4.cls ≠ "java/lang/invoke/MethodHandle" ∧ yJ6_bitCount_0f7a4.cls ≠ "java/lang/invoke/VarHandle" ∧ (parseMethodDescriptor yJ6_bitCount_0f7a4.desc).map (fun d => d.parameters.length) = some 1 := by decide +kernel
set_option maxHeartbeats 4000000 in
set_option maxRecDepth 100000 in
theorem c_J6_bitCount_0f7a4 (l : Launch) (g : gG) (a1 : Int32) {r : Int32} (hf : fJ6_bitCount_0f7a4 a1 = some r) : Ct l yJ6_bitCount_0f7a4 wsJ6_bitCount_0f7a4 (rmm 0 0) g (wNil g  ) (wNil g  ) [.int a1] (some (.int r)) := by
  refine Ct.mk (by decide) rfl (Nat.le_of_ble_eq_true rfl) ?_
  intro p e s m args below meth c A ls hx hb hr hml hts hown hlocks hA hE hP hD hS hl hAe
  obtain ⟨Qx, hQ⟩ : ∃ Qx : State → Prop, Qx = MQ below (QcG g (wNil g  ) (wNil g  ) (some (.int r)) s.heap.size) args s 0 0 A := ⟨_, rfl⟩
  rw [← hQ]
  have hown : s.vm.findClass RJ6 = some m.cls := hown
  have hl : lv_has ls 1 [(0, .int a1)] := hl
  have w1 := hts (.constant RJ6 265 (1431655765)) (List.mem_of_getElem? (i := 1) rfl)
  have w2 := hts (.constant RJ6 266 (858993459)) (List.mem_of_getElem? (i := 2) rfl)
  have w3 := hts (.constant RJ6 267 (252645135)) (List.mem_of_getElem? (i := 3) rfl)
  unfold fJ6_bitCount_0f7a4 at hf
  refine lv_iload_n hx hb dJ6_bitCount_0f7a4_0 rfl (lv_at hl 0 rfl) ?_
  refine lv_iload_n hx hb dJ6_bitCount_0f7a4_1 rfl (lv_at hl 0 rfl) ?_
  refine lv_iconst (v := (1 : Int32)) hx hb dJ6_bitCount_0f7a4_2 (by decide) ?_
  refine lv_iushr (v := (a1.toUInt32 >>> ((1 : Int32).toUInt32 &&& Int32.toUInt32 31)).toInt32) hx hb dJ6_bitCount_0f7a4_3 rfl ?_
  refine lv_ldcw hx hb hown w1 dJ6_bitCount_0f7a4_4 ?_
  refine lv_iand hx hb dJ6_bitCount_0f7a4_7 ?_
  refine lv_isub hx hb dJ6_bitCount_0f7a4_8 ?_
  refine lv_istore_n (lv' := [(0, .int (a1 - (((a1.toUInt32 >>> ((1 : Int32).toUInt32 &&& Int32.toUInt32 31)).toInt32) &&& (1431655765 : Int32))))]) hx hb dJ6_bitCount_0f7a4_9 rfl hl (by decide) rfl (fun ls hl => ?_)
  refine lv_iload_n hx hb dJ6_bitCount_0f7a4_10 rfl (lv_at hl 0 rfl) ?_
  refine lv_ldcw hx hb hown w2 dJ6_bitCount_0f7a4_11 ?_
  refine lv_iand hx hb dJ6_bitCount_0f7a4_14 ?_
  refine lv_iload_n hx hb dJ6_bitCount_0f7a4_15 rfl (lv_at hl 0 rfl) ?_
  refine lv_iconst (v := (2 : Int32)) hx hb dJ6_bitCount_0f7a4_16 (by decide) ?_
  refine lv_iushr (v := ((a1 - (((a1.toUInt32 >>> ((1 : Int32).toUInt32 &&& Int32.toUInt32 31)).toInt32) &&& (1431655765 : Int32))).toUInt32 >>> ((2 : Int32).toUInt32 &&& Int32.toUInt32 31)).toInt32) hx hb dJ6_bitCount_0f7a4_17 rfl ?_
  refine lv_ldcw hx hb hown w2 dJ6_bitCount_0f7a4_18 ?_
  refine lv_iand hx hb dJ6_bitCount_0f7a4_21 ?_
  refine lv_iadd hx hb dJ6_bitCount_0f7a4_22 ?_
  refine lv_istore_n (lv' := [(0, .int (((a1 - (((a1.toUInt32 >>> ((1 : Int32).toUInt32 &&& Int32.toUInt32 31)).toInt32) &&& (1431655765 : Int32))) &&& (858993459 : Int32)) + ((((a1 - (((a1.toUInt32 >>> ((1 : Int32).toUInt32 &&& Int32.toUInt32 31)).toInt32) &&& (1431655765 : Int32))).toUInt32 >>> ((2 : Int32).toUInt32 &&& Int32.toUInt32 31)).toInt32) &&& (858993459 : Int32))))]) hx hb dJ6_bitCount_0f7a4_23 rfl hl (by decide) rfl (fun ls hl => ?_)
  refine lv_iload_n hx hb dJ6_bitCount_0f7a4_24 rfl (lv_at hl 0 rfl) ?_
  refine lv_iload_n hx hb dJ6_bitCount_0f7a4_25 rfl (lv_at hl 0 rfl) ?_
  refine lv_iconst (v := (4 : Int32)) hx hb dJ6_bitCount_0f7a4_26 (by decide) ?_
  refine lv_iushr (v := ((((a1 - (((a1.toUInt32 >>> ((1 : Int32).toUInt32 &&& Int32.toUInt32 31)).toInt32) &&& (1431655765 : Int32))) &&& (858993459 : Int32)) + ((((a1 - (((a1.toUInt32 >>> ((1 : Int32).toUInt32 &&& Int32.toUInt32 31)).toInt32) &&& (1431655765 : Int32))).toUInt32 >>> ((2 : Int32).toUInt32 &&& Int32.toUInt32 31)).toInt32) &&& (858993459 : Int32))).toUInt32 >>> ((4 : Int32).toUInt32 &&& Int32.toUInt32 31)).toInt32) hx hb dJ6_bitCount_0f7a4_27 rfl ?_
  refine lv_iadd hx hb dJ6_bitCount_0f7a4_28 ?_
  refine lv_ldcw hx hb hown w3 dJ6_bitCount_0f7a4_29 ?_
  refine lv_iand hx hb dJ6_bitCount_0f7a4_32 ?_
  refine lv_istore_n (lv' := [(0, .int (((((a1 - (((a1.toUInt32 >>> ((1 : Int32).toUInt32 &&& Int32.toUInt32 31)).toInt32) &&& (1431655765 : Int32))) &&& (858993459 : Int32)) + ((((a1 - (((a1.toUInt32 >>> ((1 : Int32).toUInt32 &&& Int32.toUInt32 31)).toInt32) &&& (1431655765 : Int32))).toUInt32 >>> ((2 : Int32).toUInt32 &&& Int32.toUInt32 31)).toInt32) &&& (858993459 : Int32))) + (((((a1 - (((a1.toUInt32 >>> ((1 : Int32).toUInt32 &&& Int32.toUInt32 31)).toInt32) &&& (1431655765 : Int32))) &&& (858993459 : Int32)) + ((((a1 - (((a1.toUInt32 >>> ((1 : Int32).toUInt32 &&& Int32.toUInt32 31)).toInt32) &&& (1431655765 : Int32))).toUInt32 >>> ((2 : Int32).toUInt32 &&& Int32.toUInt32 31)).toInt32) &&& (858993459 : Int32))).toUInt32 >>> ((4 : Int32).toUInt32 &&& Int32.toUInt32 31)).toInt32)) &&& (252645135 : Int32)))]) hx hb dJ6_bitCount_0f7a4_33 rfl hl (by decide) rfl (fun ls hl => ?_)
  refine lv_iload_n hx hb dJ6_bitCount_0f7a4_34 rfl (lv_at hl 0 rfl) ?_
  refine lv_iload_n hx hb dJ6_bitCount_0f7a4_35 rfl (lv_at hl 0 rfl) ?_
  refine lv_bipush (v := (8 : Int32)) hx hb dJ6_bitCount_0f7a4_36 (by decide) ?_
  refine lv_iushr (v := ((((((a1 - (((a1.toUInt32 >>> ((1 : Int32).toUInt32 &&& Int32.toUInt32 31)).toInt32) &&& (1431655765 : Int32))) &&& (858993459 : Int32)) + ((((a1 - (((a1.toUInt32 >>> ((1 : Int32).toUInt32 &&& Int32.toUInt32 31)).toInt32) &&& (1431655765 : Int32))).toUInt32 >>> ((2 : Int32).toUInt32 &&& Int32.toUInt32 31)).toInt32) &&& (858993459 : Int32))) + (((((a1 - (((a1.toUInt32 >>> ((1 : Int32).toUInt32 &&& Int32.toUInt32 31)).toInt32) &&& (1431655765 : Int32))) &&& (858993459 : Int32)) + ((((a1 - (((a1.toUInt32 >>> ((1 : Int32).toUInt32 &&& Int32.toUInt32 31)).toInt32) &&& (1431655765 : Int32))).toUInt32 >>> ((2 : Int32).toUInt32 &&& Int32.toUInt32 31)).toInt32) &&& (858993459 : Int32))).toUInt32 >>> ((4 : Int32).toUInt32 &&& Int32.toUInt32 31)).toInt32)) &&& (252645135 : Int32)).toUInt32 >>> ((8 : Int32).toUInt32 &&& Int32.toUInt32 31)).toInt32) hx hb dJ6_bitCount_0f7a4_38 rfl ?_
  refine lv_iadd hx hb dJ6_bitCount_0f7a4_39 ?_
  refine lv_istore_n (lv' := [(0, .int ((((((a1 - (((a1.toUInt32 >>> ((1 : Int32).toUInt32 &&& Int32.toUInt32 31)).toInt32) &&& (1431655765 : Int32))) &&& (858993459 : Int32)) + ((((a1 - (((a1.toUInt32 >>> ((1 : Int32).toUInt32 &&& Int32.toUInt32 31)).toInt32) &&& (1431655765 : Int32))).toUInt32 >>> ((2 : Int32).toUInt32 &&& Int32.toUInt32 31)).toInt32) &&& (858993459 : Int32))) + (((((a1 - (((a1.toUInt32 >>> ((1 : Int32).toUInt32 &&& Int32.toUInt32 31)).toInt32) &&& (1431655765 : Int32))) &&& (858993459 : Int32)) + ((((a1 - (((a1.toUInt32 >>> ((1 : Int32).toUInt32 &&& Int32.toUInt32 31)).toInt32) &&& (1431655765 : Int32))).toUInt32 >>> ((2 : Int32).toUInt32 &&& Int32.toUInt32 31)).toInt32) &&& (858993459 : Int32))).toUInt32 >>> ((4 : Int32).toUInt32 &&& Int32.toUInt32 31)).toInt32)) &&& (252645135 : Int32)) + (((((((a1 - (((a1.toUInt32 >>> ((1 : Int32).toUInt32 &&& Int32.toUInt32 31)).toInt32) &&& (1431655765 : Int32))) &&& (858993459 : Int32)) + ((((a1 - (((a1.toUInt32 >>> ((1 : Int32).toUInt32 &&& Int32.toUInt32 31)).toInt32) &&& (1431655765 : Int32))).toUInt32 >>> ((2 : Int32).toUInt32 &&& Int32.toUInt32 31)).toInt32) &&& (858993459 : Int32))) + (((((a1 - (((a1.toUInt32 >>> ((1 : Int32).toUInt32 &&& Int32.toUInt32 31)).toInt32) &&& (1431655765 : Int32))) &&& (858993459 : Int32)) + ((((a1 - (((a1.toUInt32 >>> ((1 : Int32).toUInt32 &&& Int32.toUInt32 31)).toInt32) &&& (1431655765 : Int32))).toUInt32 >>> ((2 : Int32).toUInt32 &&& Int32.toUInt32 31)).toInt32) &&& (858993459 : Int32))).toUInt32 >>> ((4 : Int32).toUInt32 &&& Int32.toUInt32 31)).toInt32)) &&& (252645135 : Int32)).toUInt32 >>> ((8 : Int32).toUInt32 &&& Int32.toUInt32 31)).toInt32)))]) hx hb dJ6_bitCount_0f7a4_40 rfl hl (by decide) rfl (fun ls hl => ?_)
  refine lv_iload_n hx hb dJ6_bitCount_0f7a4_41 rfl (lv_at hl 0 rfl) ?_
  refine lv_iload_n hx hb dJ6_bitCount_0f7a4_42 rfl (lv_at hl 0 rfl) ?_
  refine lv_bipush (v := (16 : Int32)) hx hb dJ6_bitCount_0f7a4_43 (by decide) ?_
  refine lv_iushr (v := (((((((a1 - (((a1.toUInt32 >>> ((1 : Int32).toUInt32 &&& Int32.toUInt32 31)).toInt32) &&& (1431655765 : Int32))) &&& (858993459 : Int32)) + ((((a1 - (((a1.toUInt32 >>> ((1 : Int32).toUInt32 &&& Int32.toUInt32 31)).toInt32) &&& (1431655765 : Int32))).toUInt32 >>> ((2 : Int32).toUInt32 &&& Int32.toUInt32 31)).toInt32) &&& (858993459 : Int32))) + (((((a1 - (((a1.toUInt32 >>> ((1 : Int32).toUInt32 &&& Int32.toUInt32 31)).toInt32) &&& (1431655765 : Int32))) &&& (858993459 : Int32)) + ((((a1 - (((a1.toUInt32 >>> ((1 : Int32).toUInt32 &&& Int32.toUInt32 31)).toInt32) &&& (1431655765 : Int32))).toUInt32 >>> ((2 : Int32).toUInt32 &&& Int32.toUInt32 31)).toInt32) &&& (858993459 : Int32))).toUInt32 >>> ((4 : Int32).toUInt32 &&& Int32.toUInt32 31)).toInt32)) &&& (252645135 : Int32)) + (((((((a1 - (((a1.toUInt32 >>> ((1 : Int32).toUInt32 &&& Int32.toUInt32 31)).toInt32) &&& (1431655765 : Int32))) &&& (858993459 : Int32)) + ((((a1 - (((a1.toUInt32 >>> ((1 : Int32).toUInt32 &&& Int32.toUInt32 31)).toInt32) &&& (1431655765 : Int32))).toUInt32 >>> ((2 : Int32).toUInt32 &&& Int32.toUInt32 31)).toInt32) &&& (858993459 : Int32))) + (((((a1 - (((a1.toUInt32 >>> ((1 : Int32).toUInt32 &&& Int32.toUInt32 31)).toInt32) &&& (1431655765 : Int32))) &&& (858993459 : Int32)) + ((((a1 - (((a1.toUInt32 >>> ((1 : Int32).toUInt32 &&& Int32.toUInt32 31)).toInt32) &&& (1431655765 : Int32))).toUInt32 >>> ((2 : Int32).toUInt32 &&& Int32.toUInt32 31)).toInt32) &&& (858993459 : Int32))).toUInt32 >>> ((4 : Int32).toUInt32 &&& Int32.toUInt32 31)).toInt32)) &&& (252645135 : Int32)).toUInt32 >>> ((8 : Int32).toUInt32 &&& Int32.toUInt32 31)).toInt32)).toUInt32 >>> ((16 : Int32).toUInt32 &&& Int32.toUInt32 31)).toInt32) hx hb dJ6_bitCount_0f7a4_45 rfl ?_
  refine lv_iadd hx hb dJ6_bitCount_0f7a4_46 ?_
  refine lv_istore_n (lv' := [(0, .int (((((((a1 - (((a1.toUInt32 >>> ((1 : Int32).toUInt32 &&& Int32.toUInt32 31)).toInt32) &&& (1431655765 : Int32))) &&& (858993459 : Int32)) + ((((a1 - (((a1.toUInt32 >>> ((1 : Int32).toUInt32 &&& Int32.toUInt32 31)).toInt32) &&& (1431655765 : Int32))).toUInt32 >>> ((2 : Int32).toUInt32 &&& Int32.toUInt32 31)).toInt32) &&& (858993459 : Int32))) + (((((a1 - (((a1.toUInt32 >>> ((1 : Int32).toUInt32 &&& Int32.toUInt32 31)).toInt32) &&& (1431655765 : Int32))) &&& (858993459 : Int32)) + ((((a1 - (((a1.toUInt32 >>> ((1 : Int32).toUInt32 &&& Int32.toUInt32 31)).toInt32) &&& (1431655765 : Int32))).toUInt32 >>> ((2 : Int32).toUInt32 &&& Int32.toUInt32 31)).toInt32) &&& (858993459 : Int32))).toUInt32 >>> ((4 : Int32).toUInt32 &&& Int32.toUInt32 31)).toInt32)) &&& (252645135 : Int32)) + (((((((a1 - (((a1.toUInt32 >>> ((1 : Int32).toUInt32 &&& Int32.toUInt32 31)).toInt32) &&& (1431655765 : Int32))) &&& (858993459 : Int32)) + ((((a1 - (((a1.toUInt32 >>> ((1 : Int32).toUInt32 &&& Int32.toUInt32 31)).toInt32) &&& (1431655765 : Int32))).toUInt32 >>> ((2 : Int32).toUInt32 &&& Int32.toUInt32 31)).toInt32) &&& (858993459 : Int32))) + (((((a1 - (((a1.toUInt32 >>> ((1 : Int32).toUInt32 &&& Int32.toUInt32 31)).toInt32) &&& (1431655765 : Int32))) &&& (858993459 : Int32)) + ((((a1 - (((a1.toUInt32 >>> ((1 : Int32).toUInt32 &&& Int32.toUInt32 31)).toInt32) &&& (1431655765 : Int32))).toUInt32 >>> ((2 : Int32).toUInt32 &&& Int32.toUInt32 31)).toInt32) &&& (858993459 : Int32))).toUInt32 >>> ((4 : Int32).toUInt32 &&& Int32.toUInt32 31)).toInt32)) &&& (252645135 : Int32)).toUInt32 >>> ((8 : Int32).toUInt32 &&& Int32.toUInt32 31)).toInt32)) + ((((((((a1 - (((a1.toUInt32 >>> ((1 : Int32).toUInt32 &&& Int32.toUInt32 31)).toInt32) &&& (1431655765 : Int32))) &&& (858993459 : Int32)) + ((((a1 - (((a1.toUInt32 >>> ((1 : Int32).toUInt32 &&& Int32.toUInt32 31)).toInt32) &&& (1431655765 : Int32))).toUInt32 >>> ((2 : Int32).toUInt32 &&& Int32.toUInt32 31)).toInt32) &&& (858993459 : Int32))) + (((((a1 - (((a1.toUInt32 >>> ((1 : Int32).toUInt32 &&& Int32.toUInt32 31)).toInt32) &&& (1431655765 : Int32))) &&& (858993459 : Int32)) + ((((a1 - (((a1.toUInt32 >>> ((1 : Int32).toUInt32 &&& Int32.toUInt32 31)).toInt32) &&& (1431655765 : Int32))).toUInt32 >>> ((2 : Int32).toUInt32 &&& Int32.toUInt32 31)).toInt32) &&& (858993459 : Int32))).toUInt32 >>> ((4 : Int32).toUInt32 &&& Int32.toUInt32 31)).toInt32)) &&& (252645135 : Int32)) + (((((((a1 - (((a1.toUInt32 >>> ((1 : Int32).toUInt32 &&& Int32.toUInt32 31)).toInt32) &&& (1431655765 : Int32))) &&& (858993459 : Int32)) + ((((a1 - (((a1.toUInt32 >>> ((1 : Int32).toUInt32 &&& Int32.toUInt32 31)).toInt32) &&& (1431655765 : Int32))).toUInt32 >>> ((2 : Int32).toUInt32 &&& Int32.toUInt32 31)).toInt32) &&& (858993459 : Int32))) + (((((a1 - (((a1.toUInt32 >>> ((1 : Int32).toUInt32 &&& Int32.toUInt32 31)).toInt32) &&& (1431655765 : Int32))) &&& (858993459 : Int32)) + ((((a1 - (((a1.toUInt32 >>> ((1 : Int32).toUInt32 &&& Int32.toUInt32 31)).toInt32) &&& (1431655765 : Int32))).toUInt32 >>> ((2 : Int32).toUInt32 &&& Int32.toUInt32 31)).toInt32) &&& (858993459 : Int32))).toUInt32 >>> ((4 : Int32).toUInt32 &&& Int32.toUInt32 31)).toInt32)) &&& (252645135 : Int32)).toUInt32 >>> ((8 : Int32).toUInt32 &&& Int32.toUInt32 31)).toInt32)).toUInt32 >>> ((16 : Int32).toUInt32 &&& Int32.toUInt32 31)).toInt32)))]) hx hb dJ6_bitCount_0f7a4_47 rfl hl (by decide) rfl (fun ls hl => ?_)
  refine lv_iload_n hx hb dJ6_bitCount_0f7a4_48 rfl (lv_at hl 0 rfl) ?_
  refine lv_bipush (v := (63 : Int32)) hx hb dJ6_bitCount_0f7a4_49 (by decide) ?_
  refine lv_iand hx hb dJ6_bitCount_0f7a4_51 ?_
  obtain rfl := Option.some.inj hf
  rw [hQ]; exact Ct.iret hx hb hr hlocks hAe hP hD hS dJ6_bitCount_0f7a4_52
def fX6_hasLevelsOf_L14 (R : Rf) (E : Sh) (x2 : Int32) (kx : Option (Int32)) : Nat → Int32 → Option (Int32)
  | 0, _ => none
  | k + 1, x3 => if x2 ≤ x3 then (kx) else (o1 (fX1_get R x3 (2 : Int32)) (fun x103 => o1 (fX6_at 40 E.1 x3) (fun x104 => if x103 = x104 then (fX6_hasLevelsOf_L14 R E x2 kx k (x3 + (1 : Int32))) else (some (0 : Int32)))))
def fX6_hasLevelsOf (R : Rf) (E : Sh) : Option (Int32) := fX6_hasLevelsOf_L14 R E (if E.2.2 < R.2.2.2.1 then E.2.2 else R.2.2.2.1) (some (1 : Int32)) fu (0 : Int32)
theorem q_X6_hasLevelsOf : yX6_hasLevelsOf.cls = RX6 ∧ yX6_hasLevelsOf.cls ≠ "java/lang/invoke/MethodHandle" ∧ yX6_hasLevelsOf.cls ≠ "java/lang/invoke/VarHandle" ∧ (parseMethodDescriptor yX6_hasLevelsOf.desc).map (fun d => d.parameters.length) = some 2 := by decide +kernel
theorem i_X6_hasLevelsOf_X1 : ∀ w ∈ u_ws RX1 TX1 9, w ∈ wsX6_hasLevelsOf := fun _ h => List.mem_cons_of_mem _ (List.mem_append_left _ (List.mem_append_right _ (h)))
theorem i_X6_hasLevelsOf_X2 : ∀ w ∈ u_ws RX2 TX2 3, w ∈ wsX6_hasLevelsOf := fun _ h => List.mem_cons_of_mem _ (List.mem_append_right _ (h))
set_option maxHeartbeats 4000000 in
set_option maxRecDepth 100000 in
theorem c_X6_hasLevelsOf (l : Launch) (g : gG) (h0 h1 h2 h3 e0 e1 : Nat) (R : Rf) (E : Sh) {r : Int32} (hf : fX6_hasLevelsOf R E = some r) : Ct l yX6_hasLevelsOf wsX6_hasLevelsOf (rmm 1 40) g (wRfSh g h0 h1 h2 h3 e0 e1 R E) (wRfSh g h0 h1 h2 h3 e0 e1 R E) [.ref h0, .ref e0] (some (.int r)) := by
  refine Ct.mk (by decide) rfl (Nat.le_of_ble_eq_true rfl) ?_
  intro p e s m args below meth c A ls hx hb hr hml hts hown hlocks hA hE hP hD hS hl hAe
  obtain ⟨Qx, hQ⟩ : ∃ Qx : State → Prop, Qx = MQ below (QcG g (wRfSh g h0 h1 h2 h3 e0 e1 R E) (wRfSh g h0 h1 h2 h3 e0 e1 R E) (some (.int r)) s.heap.size) args s 0 0 A := ⟨_, rfl⟩
  rw [← hQ]
  have hown : s.vm.findClass RX6 = some m.cls := hown
  have hl : lv_has ls 4 [(0, .ref h0), (1, .ref e0)] := hl
  have w1 := hts (.methodLink RX6 276 Lib.Math.min.name) (List.mem_of_getElem? (i := 1) rfl)
  have w2 := hts (.static Lib.Math.min.name) (List.mem_of_getElem? (i := 2) rfl)
  have w3 := hts (.initialized "java/lang/Math") (List.mem_of_getElem? (i := 3) rfl)
  have w4 := hts (.code Lib.Math.min.name Lib.Math.min.code 2 (some .int)) (List.mem_of_getElem? (i := 4) rfl)
  have L14 : ∀ (x2 : Int32) (kx : Option (Int32)) (k : Nat) (x3 : Int32) (H : Heap) (locs : List Loc) (ls : Array Slot), fX6_hasLevelsOf_L14 R E x2 kx k x3 = some r → va_P g.1 vwK (wRfSh g h0 h1 h2 h3 e0 e1 R E) H → va_D A (wRfSh g h0 h1 h2 h3 e0 e1 R E) → va_S A s.heap H locs → lv_has ls 4 [(0, .ref h0), (1, .ref e0), (2, .int x2), (3, .int x3)] → (∀ (H : Heap) (locs : List Loc) (ls : Array Slot), kx = some r → va_P g.1 vwK (wRfSh g h0 h1 h2 h3 e0 e1 R E) H → va_D A (wRfSh g h0 h1 h2 h3 e0 e1 R E) → va_S A s.heap H locs → lv_has ls 4 [] → W p l e (rmm 1 40) s m args below meth c H locs 0 0 Qx (F0 m 44 ls [])) → W p l e (rmm 1 40) s m args below meth c H locs 0 0 Qx (F0 m 14 ls []) := by
    intro x2 kx k
    induction k with
    | zero => intro x3 H locs ls hf; exact nomatch (show (none : Option (Int32)) = some _ from hf)
    | succ k ih =>
      intro x3 H locs ls hf hP hD hS hl hk
      rw [fX6_hasLevelsOf_L14] at hf
      refine lv_iload_n hx hb dX6_hasLevelsOf_14 rfl (lv_at hl 3 rfl) ?_
      refine lv_iload_n hx hb dX6_hasLevelsOf_15 rfl (lv_at hl 2 rfl) ?_
      refine lv_icmp_ge (tgt := 44) hx hb dX6_hasLevelsOf_16 (by decide) (fun hc => ?_) (fun hc => ?_)
      · have hf := if_t hf hc
        exact hk _ _ _  hf hP hD hS (lv_sub hl [] rfl)
      · have hf := if_f hf hc
        refine lv_aload_n hx hb dX6_hasLevelsOf_19 rfl (lv_at hl 0 rfl) ?_
        refine lv_iload_n hx hb dX6_hasLevelsOf_20 rfl (lv_at hl 3 rfl) ?_
        refine lv_iconst (v := (2 : Int32)) hx hb dX6_hasLevelsOf_21 (by decide) ?_
        obtain ⟨x103, hg, hf⟩ := o1_s hf
        refine Ct.callV (ws' := wRfSh g h0 h1 h2 h3 e0 e1 R E) (As := [.int x3, .int (2 : Int32)]) (rest := []) (st1 := [.int x103]) (c_X1_get l g h0 h1 h2 h3 R x3 (2 : Int32) hg) (cwV 2 hts gX6_hasLevelsOf_X1_get rfl rfl rfl q_X1_get ⟨Nat.le_of_ble_eq_true rfl, Nat.le_of_ble_eq_true rfl⟩) ⟨hx, hb, hml, hown, hts⟩ hE hP hD hS hA [0, 1, 2, 3] rfl rfl rfl rfl 1 0 rfl rfl rfl rfl hl.1 rfl rfl (Nat.le_of_ble_eq_true rfl) dX6_hasLevelsOf_22 (fun H locs hP hD hS => ?_)
        refine lv_aload_n hx hb dX6_hasLevelsOf_25 rfl (lv_at hl 1 rfl) ?_
        refine va_getN (D := g.1) (ci := 2) (v := .ref e1) (C := RX2) (T := TX2) (N := 3) hx hb hts i_X6_hasLevelsOf_X2 hown hE.1 hP 4 rfl rfl 0 (by decide) (va_Nw.use rfl (hE.2.1 _ (List.mem_of_getElem? (i := 18) rfl))) (fun _ h9 => h9) rfl dX6_hasLevelsOf_26 ?_
        refine lv_iload_n hx hb dX6_hasLevelsOf_29 rfl (lv_at hl 3 rfl) ?_
        obtain ⟨x104, hg, hf⟩ := o1_s hf
        refine Ct.callS (ws' := wRfSh g h0 h1 h2 h3 e0 e1 R E) (As := [.ref e1, .int x3]) (rest := [.int x103]) (st1 := [.int x104, .int x103]) (c_X6_at l g e1 40 E.1 x3 hg) (va_cwS 2 hts gX6_hasLevelsOf_X6_at rfl rfl rfl q_X6_at.2 ⟨Nat.le_of_ble_eq_true rfl, Nat.le_of_ble_eq_true rfl⟩) ⟨hx, hb, hml, hown, hts⟩ hE hP hD hS hA [5] rfl rfl rfl rfl rfl hl.1 rfl rfl (Nat.le_of_ble_eq_true rfl) dX6_hasLevelsOf_30 (fun H locs hP hD hS => ?_)
        refine lv_icmp_eq (tgt := 38) hx hb dX6_hasLevelsOf_33 (by decide) (fun hc => ?_) (fun hc => ?_)
        · have hf := if_t hf hc
          refine lv_iinc (v := (x3 + (1 : Int32))) (lv' := [(3, .int (x3 + (1 : Int32))), (0, .ref h0), (1, .ref e0), (2, .int x2)]) hx hb dX6_hasLevelsOf_38 hl (k := 3) rfl rfl (by decide) rfl (fun ls hl => ?_)
          refine lv_goto (tgt := 14) hx hb dX6_hasLevelsOf_41 (by decide) ?_
          exact ih _ _ _ _  hf hP hD hS (lv_sub hl [1, 2, 3, 0] rfl) hk
        · have hf := if_f hf hc
          refine lv_iconst (v := (0 : Int32)) hx hb dX6_hasLevelsOf_36 (by decide) ?_
          obtain rfl := Option.some.inj hf
          rw [hQ]; exact Ct.zret hx hb hr (by decide) hlocks hAe hP hD hS dX6_hasLevelsOf_37
  unfold fX6_hasLevelsOf at hf
  refine lv_aload_n hx hb dX6_hasLevelsOf_0 rfl (lv_at hl 0 rfl) ?_
  refine va_getN (D := g.1) (ci := 1) (v := .int R.2.2.2.1) (C := RX1) (T := TX1) (N := 9) hx hb hts i_X6_hasLevelsOf_X1 hown hE.1 hP 0 rfl rfl 3 (by decide) (va_Nw.use rfl (hE.2.1 _ (List.mem_of_getElem? (i := 1) rfl))) (fun _ h9 => h9) rfl dX6_hasLevelsOf_1 ?_
  refine lv_aload_n hx hb dX6_hasLevelsOf_4 rfl (lv_at hl 1 rfl) ?_
  refine va_getN (D := g.1) (ci := 2) (v := .int E.2.2) (C := RX2) (T := TX2) (N := 3) hx hb hts i_X6_hasLevelsOf_X2 hown hE.1 hP 4 rfl rfl 2 (by decide) (va_Nw.use rfl (hE.2.1 _ (List.mem_of_getElem? (i := 20) rfl))) (fun _ h9 => h9) rfl dX6_hasLevelsOf_5 ?_
  refine va_mmin hx hb (hml.trans hl.1.symm) hown w1 w2 w3 w4 (Nat.le_of_ble_eq_true rfl) (Nat.le_of_ble_eq_true rfl) (Nat.zero_le _) (Nat.zero_le _) dX6_hasLevelsOf_8 ?_
  refine lv_istore_n (lv' := [(2, .int (if E.2.2 < R.2.2.2.1 then E.2.2 else R.2.2.2.1)), (0, .ref h0), (1, .ref e0)]) hx hb dX6_hasLevelsOf_11 rfl hl (by decide) rfl (fun ls hl => ?_)
  refine lv_iconst (v := (0 : Int32)) hx hb dX6_hasLevelsOf_12 (by decide) ?_
  refine lv_istore_n (lv' := [(3, .int (0 : Int32)), (2, .int (if E.2.2 < R.2.2.2.1 then E.2.2 else R.2.2.2.1)), (0, .ref h0), (1, .ref e0)]) hx hb dX6_hasLevelsOf_13 rfl hl (by decide) rfl (fun ls hl => ?_)
  refine L14 _ _ _ _ _ _ _  hf hP hD hS (lv_sub hl [2, 3, 1, 0] rfl) (fun H locs ls hf hP hD hS hl => ?_)
  refine lv_iconst (v := (1 : Int32)) hx hb dX6_hasLevelsOf_44 (by decide) ?_
  obtain rfl := Option.some.inj hf
  rw [hQ]; exact Ct.zret hx hb hr (by decide) hlocks hAe hP hD hS dX6_hasLevelsOf_45
