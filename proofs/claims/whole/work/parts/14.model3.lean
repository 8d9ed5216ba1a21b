def fX7_load_L33 (S : Ms) (x1 : Int32) (kx : (Nat → Int32) → Int32 → Option (Int32 × (Nat → Int32) × (Nat → Int32))) : Nat → (Nat → Int32) → Int32 → Option (Int32 × (Nat → Int32) × (Nat → Int32))
  | 0, _, _ => none
  | k + 1, now, x2 => rd S.2.1 4 x1 (fun x111 => if x111 ≤ x2 then (kx now x2) else (o1 (fX7_isCistern now x2) (fun x112 => if x112 = 0 then (kx now x2) else (rd S.2.2.1 160 (((40 : Int32) * x1) + x2) (fun x113 => o1 (fX7_cisternIs now x2 (1 : Int32)) (fun x114 => o1 (fX7_within x113 (0 : Int32) x114) (fun x115 => if x115 = 0 then (kx now x2) else (o1 (fX7_at x2 (2 : Int32)) (fun x116 => rd S.2.2.1 160 (((40 : Int32) * x1) + x2) (fun x117 => wr now 120 x116 x117 (fun f118 => fX7_load_L33 S x1 kx k f118 (x2 + (1 : Int32)))))))))))))
def fX7_load (now : Nat → Int32) (found : Nat → Int32) (S : Ms) (a1 : Int32) : Option (Int32 × (Nat → Int32) × (Nat → Int32)) := o1 (fX7_isSheet a1) (fun x101 => if x101 = 0 then (o2 (fX7_finding found (-1000001 : Int32)) (fun x123 found124 => some (x123, now, found124))) else (rd S.1 4 a1 (fun x102 => if x102 = 0 then (o2 (fX7_finding found (-1000006 : Int32)) (fun x121 found122 => some (x121, now, found122))) else (fX7_load_L33 S a1 (fun now119 x120 => some (x120, now119, found)) fu now (0 : Int32)))))
theorem q_X7_load : yX7_load.cls = RX7 ∧ yX7_load.cls ≠ "java/lang/invoke/MethodHandle" ∧ yX7_load.cls ≠ "java/lang/invoke/VarHandle" ∧ (parseMethodDescriptor yX7_load.desc).map (fun d => d.parameters.length) = some 1 := by decide +kernel
theorem i_X7_load_X7 : ∀ w ∈ u_ws RX7 TX7 22, w ∈ wsX7_load := fun _ h => List.mem_cons_of_mem _ (List.mem_append_right _ (h))
set_option maxHeartbeats 4000000 in
set_option maxRecDepth 100000 in
theorem c_X7_load (l : Launch) (g : gG) (m0 m1 m2 m3 m4 m5 m6 m7 m8 m9 m10 m11 m12 : Nat) (now : Nat → Int32) (kept : Nat → Int32) (aside : Nat → Int32) (ik : Int32) (found : Nat → Int32) (carried : Nat → Int32) (T : Mt) (S : Ms) (a1 : Int32) {r : Int32} {now' : Nat → Int32} {found' : Nat → Int32} (hf : fX7_load now found S a1 = some (r, now', found')) : Ct l yX7_load wsX7_load (rmm 2 43) g (wM g m0 m1 m2 m3 m4 m5 m6 m7 m8 m9 m10 m11 m12 now kept aside ik found carried T S) (wM g m0 m1 m2 m3 m4 m5 m6 m7 m8 m9 m10 m11 m12 (now') kept aside ik (found') carried T S) [.ref m0, .int a1] (some (.int r)) := by
  refine Ct.mk (by decide) rfl (Nat.le_of_ble_eq_true rfl) ?_
  intro p e s m args below meth c A ls hx hb hr hml hts hown hlocks hA hE hP hD hS hl hAe
  obtain ⟨Qx, hQ⟩ : ∃ Qx : State → Prop, Qx = MQ below (QcG g (wM g m0 m1 m2 m3 m4 m5 m6 m7 m8 m9 m10 m11 m12 now kept aside ik found carried T S) (wM g m0 m1 m2 m3 m4 m5 m6 m7 m8 m9 m10 m11 m12 (now') kept aside ik (found') carried T S) (some (.int r)) s.heap.size) args s 0 0 A := ⟨_, rfl⟩
  rw [← hQ]
  have hown : s.vm.findClass RX7 = some m.cls := hown
  have hl : lv_has ls 3 [(0, .ref m0), (1, .int a1)] := hl
  have w1 := hts (.fieldLink RX7 51 "RainVaultModel" "widths" "[I") (List.mem_of_getElem? (i := 2) rfl)
  have w2 := hts (.fieldLink RX7 54 "RainVaultModel" "sizes" "[I") (List.mem_of_getElem? (i := 4) rfl)
  have w3 := hts (.fieldLink RX7 57 "RainVaultModel" "numbers" "[I") (List.mem_of_getElem? (i := 5) rfl)
  have w4 := hts (.fieldLink RX7 9 "RainVaultModel" "now" "[I") (List.mem_of_getElem? (i := 6) rfl)
  have w5 := hts (.constant RX7 317 (-1000006)) (List.mem_of_getElem? (i := 3) rfl)
  have w6 := hts (.constant RX7 63 (-1000001)) (List.mem_of_getElem? (i := 1) rfl)
  have L33 : ∀ (found : Nat → Int32) (x1 : Int32) (kx : (Nat → Int32) → Int32 → Option (Int32 × (Nat → Int32) × (Nat → Int32))) (k : Nat) (now : Nat → Int32) (x2 : Int32) (H : Heap) (locs : List Loc) (ls : Array Slot), fX7_load_L33 S x1 kx k now x2 = some (r, now', found') → va_P g.1 vwK (wM g m0 m1 m2 m3 m4 m5 m6 m7 m8 m9 m10 m11 m12 now kept aside ik found carried T S) H → va_D A (wM g m0 m1 m2 m3 m4 m5 m6 m7 m8 m9 m10 m11 m12 now kept aside ik found carried T S) → va_S A s.heap H locs → lv_has ls 3 [(0, .ref m0), (1, .int x1), (2, .int x2)] → (∀ (now : Nat → Int32) (x2 : Int32) (H : Heap) (locs : List Loc) (ls : Array Slot), kx now x2 = some (r, now', found') → va_P g.1 vwK (wM g m0 m1 m2 m3 m4 m5 m6 m7 m8 m9 m10 m11 m12 now kept aside ik found carried T S) H → va_D A (wM g m0 m1 m2 m3 m4 m5 m6 m7 m8 m9 m10 m11 m12 now kept aside ik found carried T S) → va_S A s.heap H locs → lv_has ls 3 [(2, .int x2)] → W p l e (rmm 2 43) s m args below meth c H locs 0 0 Qx (F0 m 102 ls [])) → W p l e (rmm 2 43) s m args below meth c H locs 0 0 Qx (F0 m 33 ls []) := by
    intro found x1 kx k
    induction k with
    | zero => intro now x2 H locs ls hf; exact nomatch (show (none : Option (Int32 × (Nat → Int32) × (Nat → Int32))) = some _ from hf)
    | succ k ih =>
      intro now x2 H locs ls hf hP hD hS hl hk
      rw [fX7_load_L33] at hf
      refine lv_iload_n hx hb dX7_load_33 rfl (lv_at hl 2 rfl) ?_
      refine lv_aload_n hx hb dX7_load_34 rfl (lv_at hl 0 rfl) ?_
      refine va_get (D := g.1) (ci := 7) (v := .ref m10) (C := RX7) (T := TX7) (N := 22) hx hb hts i_X7_load_X7 hown hE.1 hP 0 rfl rfl 19 (by decide) w2 (fun _ h9 => h9) rfl dX7_load_35 ?_
      refine lv_iload_n hx hb dX7_load_38 rfl (lv_at hl 1 rfl) ?_
      obtain ⟨x111, ex, hin, hf⟩ := rd_s hf
      refine st_iald (f := S.2.1) hx hb hE.1 hP 10 0 rfl rfl hin ex dX7_load_39 ?_
      refine lv_icmp_ge (tgt := 102) hx hb dX7_load_40 (by decide) (fun hc => ?_) (fun hc => ?_)
      · have hf := if_t hf hc
        exact hk _ _ _ _ _  hf hP hD hS (lv_sub hl [2] rfl)
      · have hf := if_f hf hc
        refine lv_aload_n hx hb dX7_load_43 rfl (lv_at hl 0 rfl) ?_
        refine lv_iload_n hx hb dX7_load_44 rfl (lv_at hl 2 rfl) ?_
        obtain ⟨x112, hg, hf⟩ := o1_s hf
        refine Ct.callV0 (ws' := wM g m0 m1 m2 m3 m4 m5 m6 m7 m8 m9 m10 m11 m12 now kept aside ik found carried T S) (As := [.int x2]) (rest := []) (st1 := [.int x112]) (c_X7_isCistern l g m0 m1 m2 m3 m4 m5 m6 m7 m8 m9 m10 m11 m12 now kept aside ik found carried T S x2 hg) (cwV 1 hts gX7_load_X7_isCistern rfl rfl rfl q_X7_isCistern ⟨Nat.le_of_ble_eq_true rfl, Nat.le_of_ble_eq_true rfl⟩) ⟨hx, hb, hml, hown, hts⟩ hE hP hD hS hA 7 0 rfl rfl rfl rfl hl.1 rfl rfl (Nat.le_of_ble_eq_true rfl) dX7_load_45 (fun H locs hP hD hS => ?_)
        refine lv_if_eq (tgt := 102) hx hb dX7_load_48 (by decide) (fun hc => ?_) (fun hc => ?_)
        · have hf := if_t hf hc
          exact hk _ _ _ _ _  hf hP hD hS (lv_sub hl [2] rfl)
        · have hf := if_f hf hc
          refine lv_aload_n hx hb dX7_load_51 rfl (lv_at hl 0 rfl) ?_
          refine va_get (D := g.1) (ci := 7) (v := .ref m11) (C := RX7) (T := TX7) (N := 22) hx hb hts i_X7_load_X7 hown hE.1 hP 0 rfl rfl 20 (by decide) w3 (fun _ h9 => h9) rfl dX7_load_52 ?_
          refine lv_bipush (v := (40 : Int32)) hx hb dX7_load_55 (by decide) ?_
          refine lv_iload_n hx hb dX7_load_57 rfl (lv_at hl 1 rfl) ?_
          refine lv_imul hx hb dX7_load_58 ?_
          refine lv_iload_n hx hb dX7_load_59 rfl (lv_at hl 2 rfl) ?_
          refine lv_iadd hx hb dX7_load_60 ?_
          obtain ⟨x113, ex, hin, hf⟩ := rd_s hf
          refine st_iald (f := S.2.2.1) hx hb hE.1 hP 11 0 rfl rfl hin ex dX7_load_61 ?_
          refine lv_iconst (v := (0 : Int32)) hx hb dX7_load_62 (by decide) ?_
          refine lv_aload_n hx hb dX7_load_63 rfl (lv_at hl 0 rfl) ?_
          refine lv_iload_n hx hb dX7_load_64 rfl (lv_at hl 2 rfl) ?_
          refine lv_iconst (v := (1 : Int32)) hx hb dX7_load_65 (by decide) ?_
          obtain ⟨x114, hg, hf⟩ := o1_s hf
          refine Ct.callV0 (ws' := wM g m0 m1 m2 m3 m4 m5 m6 m7 m8 m9 m10 m11 m12 now kept aside ik found carried T S) (As := [.int x2, .int (1 : Int32)]) (rest := [.int (0 : Int32), .int x113]) (st1 := [.int x114, .int (0 : Int32), .int x113]) (c_X7_cisternIs l g m0 m1 m2 m3 m4 m5 m6 m7 m8 m9 m10 m11 m12 now kept aside ik found carried T S x2 (1 : Int32) hg) (cwV 2 hts gX7_load_X7_cisternIs rfl rfl rfl q_X7_cisternIs ⟨Nat.le_of_ble_eq_true rfl, Nat.le_of_ble_eq_true rfl⟩) ⟨hx, hb, hml, hown, hts⟩ hE hP hD hS hA 7 0 rfl rfl rfl rfl hl.1 rfl rfl (Nat.le_of_ble_eq_true rfl) dX7_load_66 (fun H locs hP hD hS => ?_)
          obtain ⟨x115, hg, hf⟩ := o1_s hf
          refine Ct.callS (ws' := wM g m0 m1 m2 m3 m4 m5 m6 m7 m8 m9 m10 m11 m12 now kept aside ik found carried T S) (As := [.int x113, .int (0 : Int32), .int x114]) (rest := []) (st1 := [.int x115]) (c_X7_within l g x113 (0 : Int32) x114 hg) (va_cwS 3 hts gX7_load_X7_within rfl rfl rfl q_X7_within.2 ⟨Nat.le_of_ble_eq_true rfl, Nat.le_of_ble_eq_true rfl⟩) ⟨hx, hb, hml, hown, hts⟩ hE hP hD hS hA [] rfl rfl rfl rfl rfl hl.1 rfl rfl (Nat.le_of_ble_eq_true rfl) dX7_load_69 (fun H locs hP hD hS => ?_)
          refine lv_if_eq (tgt := 102) hx hb dX7_load_72 (by decide) (fun hc => ?_) (fun hc => ?_)
          · have hf := if_t hf hc
            exact hk _ _ _ _ _  hf hP hD hS (lv_sub hl [2] rfl)
          · have hf := if_f hf hc
            refine lv_aload_n hx hb dX7_load_75 rfl (lv_at hl 0 rfl) ?_
            refine va_get (D := g.1) (ci := 7) (v := .ref m1) (C := RX7) (T := TX7) (N := 22) hx hb hts i_X7_load_X7 hown hE.1 hP 0 rfl rfl 0 (by decide) w4 (fun _ h9 => h9) rfl dX7_load_76 ?_
            refine lv_iload_n hx hb dX7_load_79 rfl (lv_at hl 2 rfl) ?_
            refine lv_iconst (v := (2 : Int32)) hx hb dX7_load_80 (by decide) ?_
            obtain ⟨x116, hg, hf⟩ := o1_s hf
            refine Ct.callS (ws' := wM g m0 m1 m2 m3 m4 m5 m6 m7 m8 m9 m10 m11 m12 now kept aside ik found carried T S) (As := [.int x2, .int (2 : Int32)]) (rest := [.ref m1]) (st1 := [.int x116, .ref m1]) (c_X7_at l g x2 (2 : Int32) hg) (va_cwS 2 hts gX7_load_X7_at rfl rfl rfl q_X7_at.2 ⟨Nat.le_of_ble_eq_true rfl, Nat.le_of_ble_eq_true rfl⟩) ⟨hx, hb, hml, hown, hts⟩ hE hP hD hS hA [] rfl rfl rfl rfl rfl hl.1 rfl rfl (Nat.le_of_ble_eq_true rfl) dX7_load_81 (fun H locs hP hD hS => ?_)
            refine lv_aload_n hx hb dX7_load_84 rfl (lv_at hl 0 rfl) ?_
            refine va_get (D := g.1) (ci := 7) (v := .ref m11) (C := RX7) (T := TX7) (N := 22) hx hb hts i_X7_load_X7 hown hE.1 hP 0 rfl rfl 20 (by decide) w3 (fun _ h9 => h9) rfl dX7_load_85 ?_
            refine lv_bipush (v := (40 : Int32)) hx hb dX7_load_88 (by decide) ?_
            refine lv_iload_n hx hb dX7_load_90 rfl (lv_at hl 1 rfl) ?_
            refine lv_imul hx hb dX7_load_91 ?_
            refine lv_iload_n hx hb dX7_load_92 rfl (lv_at hl 2 rfl) ?_
            refine lv_iadd hx hb dX7_load_93 ?_
            obtain ⟨x117, ex, hin, hf⟩ := rd_s hf
            refine st_iald (f := S.2.2.1) hx hb hE.1 hP 11 0 rfl rfl hin ex dX7_load_94 ?_
            obtain ⟨f118, ef, hin, hf⟩ := wr_s hf
            refine st_iast (ws' := wM g m0 m1 m2 m3 m4 m5 m6 m7 m8 m9 m10 m11 m12 f118 kept aside ik found carried T S) (f := now) (f2 := f118) hx hb hE.1 hP hD hS 1 0 rfl rfl hin ef rfl dX7_load_95 (fun H locs hP hD hS => ?_)
            refine lv_iinc (v := (x2 + (1 : Int32))) (lv' := [(2, .int (x2 + (1 : Int32))), (0, .ref m0), (1, .int x1)]) hx hb dX7_load_96 hl (k := 2) rfl rfl (by decide) rfl (fun ls hl => ?_)
            refine lv_goto (tgt := 33) hx hb dX7_load_99 (by decide) ?_
            exact ih _ _ _ _ _  hf hP hD hS (lv_sub hl [1, 2, 0] rfl) hk
  unfold fX7_load at hf
  refine lv_iload_n hx hb dX7_load_0 rfl (lv_at hl 1 rfl) ?_
  obtain ⟨x101, hg, hf⟩ := o1_s hf
  refine Ct.callS (ws' := wM g m0 m1 m2 m3 m4 m5 m6 m7 m8 m9 m10 m11 m12 now kept aside ik found carried T S) (As := [.int a1]) (rest := []) (st1 := [.int x101]) (c_X7_isSheet l g a1 hg) (va_cwS 1 hts gX7_load_X7_isSheet rfl rfl rfl q_X7_isSheet.2 ⟨Nat.le_of_ble_eq_true rfl, Nat.le_of_ble_eq_true rfl⟩) ⟨hx, hb, hml, hown, hts⟩ hE hP hD hS hA [] rfl rfl rfl rfl rfl hl.1 rfl rfl (Nat.le_of_ble_eq_true rfl) dX7_load_1 (fun H locs hP hD hS => ?_)
  refine lv_if_ne (tgt := 14) hx hb dX7_load_4 (by decide) (fun hc => ?_) (fun hc => ?_)
  · have hf := if_f hf hc
    refine lv_aload_n hx hb dX7_load_14 rfl (lv_at hl 0 rfl) ?_
    refine va_get (D := g.1) (ci := 7) (v := .ref m9) (C := RX7) (T := TX7) (N := 22) hx hb hts i_X7_load_X7 hown hE.1 hP 0 rfl rfl 18 (by decide) w1 (fun _ h9 => h9) rfl dX7_load_15 ?_
    refine lv_iload_n hx hb dX7_load_18 rfl (lv_at hl 1 rfl) ?_
    obtain ⟨x102, ex, hin, hf⟩ := rd_s hf
    refine st_iald (f := S.1) hx hb hE.1 hP 9 0 rfl rfl hin ex dX7_load_19 ?_
    refine lv_if_ne (tgt := 31) hx hb dX7_load_20 (by decide) (fun hc => ?_) (fun hc => ?_)
    · have hf := if_f hf hc
      refine lv_iconst (v := (0 : Int32)) hx hb dX7_load_31 (by decide) ?_
      refine lv_istore_n (lv' := [(2, .int (0 : Int32)), (0, .ref m0), (1, .int a1)]) hx hb dX7_load_32 rfl hl (by decide) rfl (fun ls hl => ?_)
      refine L33 _ _ _ _ _ _ _ _ _  hf hP hD hS (lv_sub hl [1, 2, 0] rfl) (fun now119 x120 H locs ls hf hP hD hS hl => ?_)
      refine lv_iload_n hx hb dX7_load_102 rfl (lv_at hl 0 rfl) ?_
      obtain ⟨rfl, rfl, rfl⟩ := some_p3 hf
      rw [hQ]; exact Ct.iret hx hb hr hlocks hAe hP hD hS dX7_load_103
    · have hf := if_t hf hc
      refine lv_aload_n hx hb dX7_load_23 rfl (lv_at hl 0 rfl) ?_
      refine lv_ldcw hx hb hown w5 dX7_load_24 ?_
      obtain ⟨x121, found122, hg, hf⟩ := o2_s hf
      refine Ct.callV0 (ws' := wM g m0 m1 m2 m3 m4 m5 m6 m7 m8 m9 m10 m11 m12 now kept aside ik found122 carried T S) (As := [.int (-1000006 : Int32)]) (rest := []) (st1 := [.int x121]) (c_X7_finding l g m0 m1 m2 m3 m4 m5 m6 m7 m8 m9 m10 m11 m12 now kept aside ik found carried T S (-1000006 : Int32) hg) (cwV 1 hts gX7_load_X7_finding rfl rfl rfl q_X7_finding ⟨Nat.le_of_ble_eq_true rfl, Nat.le_of_ble_eq_true rfl⟩) ⟨hx, hb, hml, hown, hts⟩ hE hP hD hS hA 7 0 rfl rfl rfl rfl hl.1 rfl rfl (Nat.le_of_ble_eq_true rfl) dX7_load_27 (fun H locs hP hD hS => ?_)
      obtain ⟨rfl, rfl, rfl⟩ := some_p3 hf
      rw [hQ]; exact Ct.iret hx hb hr hlocks hAe hP hD hS dX7_load_30
  · have hf := if_t hf hc
    refine lv_aload_n hx hb dX7_load_7 rfl (lv_at hl 0 rfl) ?_
    refine lv_ldc hx hb hown w6 dX7_load_8 ?_
    obtain ⟨x123, found124, hg, hf⟩ := o2_s hf
    refine Ct.callV0 (ws' := wM g m0 m1 m2 m3 m4 m5 m6 m7 m8 m9 m10 m11 m12 now kept aside ik found124 carried T S) (As := [.int (-1000001 : Int32)]) (rest := []) (st1 := [.int x123]) (c_X7_finding l g m0 m1 m2 m3 m4 m5 m6 m7 m8 m9 m10 m11 m12 now kept aside ik found carried T S (-1000001 : Int32) hg) (cwV 1 hts gX7_load_X7_finding rfl rfl rfl q_X7_finding ⟨Nat.le_of_ble_eq_true rfl, Nat.le_of_ble_eq_true rfl⟩) ⟨hx, hb, hml, hown, hts⟩ hE hP hD hS hA 7 0 rfl rfl rfl rfl hl.1 rfl rfl (Nat.le_of_ble_eq_true rfl) dX7_load_10 (fun H locs hP hD hS => ?_)
    obtain ⟨rfl, rfl, rfl⟩ := some_p3 hf
    rw [hQ]; exact Ct.iret hx hb hr hlocks hAe hP hD hS dX7_load_13
def fX7_rust_L86 (now : Nat → Int32) (S : Ms) (x1 : Int32) (kx : Int32 → Option (Int32 × (Nat → Int32) × (Nat → Int32) × (Nat → Int32))) : Nat → Int32 → Int32 → Option (Int32 × (Nat → Int32) × (Nat → Int32) × (Nat → Int32))
  | 0, _, _ => none
  | k + 1, x6, x7 => rd now 120 (2 : Int32) (fun x111 => if x111 ≤ x7 then (kx x6) else (rd S.2.1 4 x1 (fun x112 => if x112 ≤ x7 then (kx x6) else (if x6 = 0 then (fX7_rust_L86 now S x1 kx k (0 : Int32) (x7 + (1 : Int32))) else (rd S.2.2.1 160 (((40 : Int32) * x1) + x7) (fun x113 => o1 (fX7_cisternIs now x7 (2 : Int32)) (fun x114 => if x113 = x114 then (fX7_rust_L86 now S x1 kx k (1 : Int32) (x7 + (1 : Int32))) else (fX7_rust_L86 now S x1 kx k (0 : Int32) (x7 + (1 : Int32))))))))))
def fX7_rust_L64 (aside : Nat → Int32) (S : Ms) (x1 : Int32) (x2 : Int32) (kx : (Nat → Int32) → Int32 → Option (Int32 × (Nat → Int32) × (Nat → Int32) × (Nat → Int32))) : Nat → (Nat → Int32) → Int32 → Int32 → Option (Int32 × (Nat → Int32) × (Nat → Int32) × (Nat → Int32))
  | 0, _, _, _ => none
  | k + 1, now, x4, x5 => o1 (fX7_rows x2) (fun x120 => if x120 ≤ x5 then (kx now x4) else (o1 (fX7_rainGoes now x5 x2) (fun now121 => fX7_rust_L86 now121 S x1 (fun x122 => if x122 = 0 then (o2 (fX7_putBack now121 aside (0 : Int32)) (fun x123 now124 => fX7_rust_L64 aside S x1 x2 kx k now124 (x4 + x123) (x5 + (1 : Int32)))) else (o2 (fX7_putBack now121 aside (1 : Int32)) (fun x125 now126 => fX7_rust_L64 aside S x1 x2 kx k now126 (x4 + x125) (x5 + (1 : Int32))))) fu (1 : Int32) (0 : Int32))))
def fX7_rust (now : Nat → Int32) (aside : Nat → Int32) (found : Nat → Int32) (S : Ms) (a1 : Int32) (a2 : Int32) : Option (Int32 × (Nat → Int32) × (Nat → Int32) × (Nat → Int32)) := o1 (fX7_isSheet a1) (fun x101 => if x101 = 0 then (o2 (fX7_finding found (-1000001 : Int32)) (fun x133 found134 => some (x133, now, aside, found134))) else (rd S.1 4 a1 (fun x102 => if x102 = 0 then (o2 (fX7_finding found (-1000006 : Int32)) (fun x131 found132 => some (x131, now, aside, found132))) else (o1 (fX7_refusesRows now a2) (fun x103 => if x103 = 0 then (o1 (fX7_copyRow 120 now) (fun f2104 => fX7_rust_L64 f2104 S a1 a2 (fun now127 x128 => some (x128, now127, f2104, found)) fu now (0 : Int32) (0 : Int32))) else (o2 (fX7_finding found x103) (fun x129 found130 => some (x129, now, aside, found130))))))))
theorem q_X7_rust : yX7_rust.cls = RX7 ∧ yX7_rust.cls ≠ "java/lang/invoke/MethodHandle" ∧ yX7_rust.cls ≠ "java/lang/invoke/VarHandle" ∧ (parseMethodDescriptor yX7_rust.desc).map (fun d => d.parameters.length) = some 2 := by decide +kernel
theorem i_X7_rust_X7 : ∀ w ∈ u_ws RX7 TX7 22, w ∈ wsX7_rust := fun _ h => List.mem_cons_of_mem _ (List.mem_append_right _ (h))
set_option maxHeartbeats 4000000 in
set_option maxRecDepth 100000 in
theorem c_X7_rust (l : Launch) (g : gG) (m0 m1 m2 m3 m4 m5 m6 m7 m8 m9 m10 m11 m12 : Nat) (now : Nat → Int32) (kept : Nat → Int32) (aside : Nat → Int32) (ik : Int32) (found : Nat → Int32) (carried : Nat → Int32) (T : Mt) (S : Ms) (a1 : Int32) (a2 : Int32) {r : Int32} {now' : Nat → Int32} {aside' : Nat → Int32} {found' : Nat → Int32} (hf : fX7_rust now aside found S a1 a2 = some (r, now', aside', found')) : Ct l yX7_rust wsX7_rust (rmm 9 202) g (wM g m0 m1 m2 m3 m4 m5 m6 m7 m8 m9 m10 m11 m12 now kept aside ik found carried T S) (wM g m0 m1 m2 m3 m4 m5 m6 m7 m8 m9 m10 m11 m12 (now') kept (aside') ik (found') carried T S) [.ref m0, .int a1, .int a2] (some (.int r)) := by
  refine Ct.mk (by decide) rfl (Nat.le_of_ble_eq_true rfl) ?_
  intro p e s m args below meth c A ls hx hb hr hml hts hown hlocks hA hE hP hD hS hl hAe
  obtain ⟨Qx, hQ⟩ : ∃ Qx : State → Prop, Qx = MQ below (QcG g (wM g m0 m1 m2 m3 m4 m5 m6 m7 m8 m9 m10 m11 m12 now kept aside ik found carried T S) (wM g m0 m1 m2 m3 m4 m5 m6 m7 m8 m9 m10 m11 m12 (now') kept (aside') ik (found') carried T S) (some (.int r)) s.heap.size) args s 0 0 A := ⟨_, rfl⟩
  rw [← hQ]
  have hown : s.vm.findClass RX7 = some m.cls := hown
  have hl : lv_has ls 8 [(0, .ref m0), (1, .int a1), (2, .int a2)] := hl
  have w1 := hts (.fieldLink RX7 51 "RainVaultModel" "widths" "[I") (List.mem_of_getElem? (i := 2) rfl)
  have w2 := hts (.fieldLink RX7 9 "RainVaultModel" "now" "[I") (List.mem_of_getElem? (i := 4) rfl)
  have w3 := hts (.fieldLink RX7 16 "RainVaultModel" "aside" "[I") (List.mem_of_getElem? (i := 5) rfl)
  have w4 := hts (.fieldLink RX7 54 "RainVaultModel" "sizes" "[I") (List.mem_of_getElem? (i := 6) rfl)
  have w5 := hts (.fieldLink RX7 57 "RainVaultModel" "numbers" "[I") (List.mem_of_getElem? (i := 7) rfl)
  have w6 := hts (.constant RX7 317 (-1000006)) (List.mem_of_getElem? (i := 3) rfl)
  have w7 := hts (.constant RX7 63 (-1000001)) (List.mem_of_getElem? (i := 1) rfl)
  have L86 : ∀ (now : Nat → Int32) (aside : Nat → Int32) (found : Nat → Int32) (x1 : Int32) (x2 : Int32) (x4 : Int32) (x5 : Int32) (kx : Int32 → Option (Int32 × (Nat → Int32) × (Nat → Int32) × (Nat → Int32))) (k : Nat) (x6 : Int32) (x7 : Int32) (H : Heap) (locs : List Loc) (ls : Array Slot), fX7_rust_L86 now S x1 kx k x6 x7 = some (r, now', aside', found') → va_P g.1 vwK (wM g m0 m1 m2 m3 m4 m5 m6 m7 m8 m9 m10 m11 m12 now kept aside ik found carried T S) H → va_D A (wM g m0 m1 m2 m3 m4 m5 m6 m7 m8 m9 m10 m11 m12 now kept aside ik found carried T S) → va_S A s.heap H locs → lv_has ls 8 [(0, .ref m0), (1, .int x1), (2, .int x2), (4, .int x4), (5, .int x5), (6, .int x6), (7, .int x7)] → (∀ (x6 : Int32) (H : Heap) (locs : List Loc) (ls : Array Slot), kx x6 = some (r, now', aside', found') → va_P g.1 vwK (wM g m0 m1 m2 m3 m4 m5 m6 m7 m8 m9 m10 m11 m12 now kept aside ik found carried T S) H → va_D A (wM g m0 m1 m2 m3 m4 m5 m6 m7 m8 m9 m10 m11 m12 now kept aside ik found carried T S) → va_S A s.heap H locs → lv_has ls 8 [(0, .ref m0), (1, .int x1), (2, .int x2), (4, .int x4), (5, .int x5), (6, .int x6)] → W p l e (rmm 9 202) s m args below meth c H locs 0 0 Qx (F0 m 148 ls [])) → W p l e (rmm 9 202) s m args below meth c H locs 0 0 Qx (F0 m 86 ls []) := by
    intro now aside found x1 x2 x4 x5 kx k
    induction k with
    | zero => intro x6 x7 H locs ls hf; exact nomatch (show (none : Option (Int32 × (Nat → Int32) × (Nat → Int32) × (Nat → Int32))) = some _ from hf)
    | succ k ih =>
      intro x6 x7 H locs ls hf hP hD hS hl hk
      rw [fX7_rust_L86] at hf
      refine lv_iload hx hb dX7_rust_86 (lv_at hl 6 rfl) ?_
      refine lv_aload_n hx hb dX7_rust_88 rfl (lv_at hl 0 rfl) ?_
      refine va_get (D := g.1) (ci := 7) (v := .ref m1) (C := RX7) (T := TX7) (N := 22) hx hb hts i_X7_rust_X7 hown hE.1 hP 0 rfl rfl 0 (by decide) w2 (fun _ h9 => h9) rfl dX7_rust_89 ?_
      refine lv_iconst (v := (2 : Int32)) hx hb dX7_rust_92 (by decide) ?_
      obtain ⟨x111, ex, hin, hf⟩ := rd_s hf
      refine st_iald (f := now) hx hb hE.1 hP 1 0 rfl rfl hin ex dX7_rust_93 ?_
      refine lv_icmp_ge (tgt := 148) hx hb dX7_rust_94 (by decide) (fun hc => ?_) (fun hc => ?_)
      · have hf := if_t hf hc
        exact hk _ _ _ _  hf hP hD hS (lv_sub hl [0, 1, 2, 3, 4, 5] rfl)
      · have hf := if_f hf hc
        refine lv_iload hx hb dX7_rust_97 (lv_at hl 6 rfl) ?_
        refine lv_aload_n hx hb dX7_rust_99 rfl (lv_at hl 0 rfl) ?_
        refine va_get (D := g.1) (ci := 7) (v := .ref m10) (C := RX7) (T := TX7) (N := 22) hx hb hts i_X7_rust_X7 hown hE.1 hP 0 rfl rfl 19 (by decide) w4 (fun _ h9 => h9) rfl dX7_rust_100 ?_
        refine lv_iload_n hx hb dX7_rust_103 rfl (lv_at hl 1 rfl) ?_
        obtain ⟨x112, ex, hin, hf⟩ := rd_s hf
        refine st_iald (f := S.2.1) hx hb hE.1 hP 10 0 rfl rfl hin ex dX7_rust_104 ?_
        refine lv_icmp_ge (tgt := 148) hx hb dX7_rust_105 (by decide) (fun hc => ?_) (fun hc => ?_)
        · have hf := if_t hf hc
          exact hk _ _ _ _  hf hP hD hS (lv_sub hl [0, 1, 2, 3, 4, 5] rfl)
        · have hf := if_f hf hc
          refine lv_iload hx hb dX7_rust_108 (lv_at hl 5 rfl) ?_
          refine lv_if_eq (tgt := 139) hx hb dX7_rust_110 (by decide) (fun hc => ?_) (fun hc => ?_)
          · have hf := if_t hf hc
            refine lv_iconst (v := (0 : Int32)) hx hb dX7_rust_139 (by decide) ?_
            refine lv_istore (lv' := [(6, .int (0 : Int32)), (0, .ref m0), (1, .int x1), (2, .int x2), (4, .int x4), (5, .int x5), (7, .int x7)]) hx hb dX7_rust_140 hl (by decide) rfl (fun ls hl => ?_)
            refine lv_iinc (v := (x7 + (1 : Int32))) (lv' := [(7, .int (x7 + (1 : Int32))), (6, .int (0 : Int32)), (0, .ref m0), (1, .int x1), (2, .int x2), (4, .int x4), (5, .int x5)]) hx hb dX7_rust_142 hl (k := 6) rfl rfl (by decide) rfl (fun ls hl => ?_)
            refine lv_goto (tgt := 86) hx hb dX7_rust_145 (by decide) ?_
            exact ih _ _ _ _ _  hf hP hD hS (lv_sub hl [2, 3, 4, 5, 6, 1, 0] rfl) hk
          · have hf := if_f hf hc
            refine lv_aload_n hx hb dX7_rust_113 rfl (lv_at hl 0 rfl) ?_
            refine va_get (D := g.1) (ci := 7) (v := .ref m11) (C := RX7) (T := TX7) (N := 22) hx hb hts i_X7_rust_X7 hown hE.1 hP 0 rfl rfl 20 (by decide) w5 (fun _ h9 => h9) rfl dX7_rust_114 ?_
            refine lv_bipush (v := (40 : Int32)) hx hb dX7_rust_117 (by decide) ?_
            refine lv_iload_n hx hb dX7_rust_119 rfl (lv_at hl 1 rfl) ?_
            refine lv_imul hx hb dX7_rust_120 ?_
            refine lv_iload hx hb dX7_rust_121 (lv_at hl 6 rfl) ?_
            refine lv_iadd hx hb dX7_rust_123 ?_
            obtain ⟨x113, ex, hin, hf⟩ := rd_s hf
            refine st_iald (f := S.2.2.1) hx hb hE.1 hP 11 0 rfl rfl hin ex dX7_rust_124 ?_
            refine lv_aload_n hx hb dX7_rust_125 rfl (lv_at hl 0 rfl) ?_
            refine lv_iload hx hb dX7_rust_126 (lv_at hl 6 rfl) ?_
            refine lv_iconst (v := (2 : Int32)) hx hb dX7_rust_128 (by decide) ?_
            obtain ⟨x114, hg, hf⟩ := o1_s hf
            refine Ct.callV0 (ws' := wM g m0 m1 m2 m3 m4 m5 m6 m7 m8 m9 m10 m11 m12 now kept aside ik found carried T S) (As := [.int x7, .int (2 : Int32)]) (rest := [.int x113]) (st1 := [.int x114, .int x113]) (c_X7_cisternIs l g m0 m1 m2 m3 m4 m5 m6 m7 m8 m9 m10 m11 m12 now kept aside ik found carried T S x7 (2 : Int32) hg) (cwV 2 hts gX7_rust_X7_cisternIs rfl rfl rfl q_X7_cisternIs ⟨Nat.le_of_ble_eq_true rfl, Nat.le_of_ble_eq_true rfl⟩) ⟨hx, hb, hml, hown, hts⟩ hE hP hD hS hA 7 0 rfl rfl rfl rfl hl.1 rfl rfl (Nat.le_of_ble_eq_true rfl) dX7_rust_129 (fun H locs hP hD hS => ?_)
            refine lv_icmp_ne (tgt := 139) hx hb dX7_rust_132 (by decide) (fun hc => ?_) (fun hc => ?_)
            · have hf := if_f hf hc
              refine lv_iconst (v := (0 : Int32)) hx hb dX7_rust_139 (by decide) ?_
              refine lv_istore (lv' := [(6, .int (0 : Int32)), (0, .ref m0), (1, .int x1), (2, .int x2), (4, .int x4), (5, .int x5), (7, .int x7)]) hx hb dX7_rust_140 hl (by decide) rfl (fun ls hl => ?_)
              refine lv_iinc (v := (x7 + (1 : Int32))) (lv' := [(7, .int (x7 + (1 : Int32))), (6, .int (0 : Int32)), (0, .ref m0), (1, .int x1), (2, .int x2), (4, .int x4), (5, .int x5)]) hx hb dX7_rust_142 hl (k := 6) rfl rfl (by decide) rfl (fun ls hl => ?_)
              refine lv_goto (tgt := 86) hx hb dX7_rust_145 (by decide) ?_
              exact ih _ _ _ _ _  hf hP hD hS (lv_sub hl [2, 3, 4, 5, 6, 1, 0] rfl) hk
            · have hf := if_t hf hc
              refine lv_iconst (v := (1 : Int32)) hx hb dX7_rust_135 (by decide) ?_
              refine lv_goto (tgt := 140) hx hb dX7_rust_136 (by decide) ?_
              refine lv_istore (lv' := [(6, .int (1 : Int32)), (0, .ref m0), (1, .int x1), (2, .int x2), (4, .int x4), (5, .int x5), (7, .int x7)]) hx hb dX7_rust_140 hl (by decide) rfl (fun ls hl => ?_)
              refine lv_iinc (v := (x7 + (1 : Int32))) (lv' := [(7, .int (x7 + (1 : Int32))), (6, .int (1 : Int32)), (0, .ref m0), (1, .int x1), (2, .int x2), (4, .int x4), (5, .int x5)]) hx hb dX7_rust_142 hl (k := 6) rfl rfl (by decide) rfl (fun ls hl => ?_)
              refine lv_goto (tgt := 86) hx hb dX7_rust_145 (by decide) ?_
              exact ih _ _ _ _ _  hf hP hD hS (lv_sub hl [2, 3, 4, 5, 6, 1, 0] rfl) hk
  have L64 : ∀ (aside : Nat → Int32) (found : Nat → Int32) (x1 : Int32) (x2 : Int32) (kx : (Nat → Int32) → Int32 → Option (Int32 × (Nat → Int32) × (Nat → Int32) × (Nat → Int32))) (k : Nat) (now : Nat → Int32) (x4 : Int32) (x5 : Int32) (H : Heap) (locs : List Loc) (ls : Array Slot), fX7_rust_L64 aside S x1 x2 kx k now x4 x5 = some (r, now', aside', found') → va_P g.1 vwK (wM g m0 m1 m2 m3 m4 m5 m6 m7 m8 m9 m10 m11 m12 now kept aside ik found carried T S) H → va_D A (wM g m0 m1 m2 m3 m4 m5 m6 m7 m8 m9 m10 m11 m12 now kept aside ik found carried T S) → va_S A s.heap H locs → lv_has ls 8 [(0, .ref m0), (1, .int x1), (2, .int x2), (4, .int x4), (5, .int x5)] → (∀ (now : Nat → Int32) (x4 : Int32) (H : Heap) (locs : List Loc) (ls : Array Slot), kx now x4 = some (r, now', aside', found') → va_P g.1 vwK (wM g m0 m1 m2 m3 m4 m5 m6 m7 m8 m9 m10 m11 m12 now kept aside ik found carried T S) H → va_D A (wM g m0 m1 m2 m3 m4 m5 m6 m7 m8 m9 m10 m11 m12 now kept aside ik found carried T S) → va_S A s.heap H locs → lv_has ls 8 [(4, .int x4)] → W p l e (rmm 9 202) s m args below meth c H locs 0 0 Qx (F0 m 173 ls [])) → W p l e (rmm 9 202) s m args below meth c H locs 0 0 Qx (F0 m 64 ls []) := by
    intro aside found x1 x2 kx k
    induction k with
    | zero => intro now x4 x5 H locs ls hf; exact nomatch (show (none : Option (Int32 × (Nat → Int32) × (Nat → Int32) × (Nat → Int32))) = some _ from hf)
    | succ k ih =>
      intro now x4 x5 H locs ls hf hP hD hS hl hk
      rw [fX7_rust_L64] at hf
      refine lv_iload hx hb dX7_rust_64 (lv_at hl 4 rfl) ?_
      refine lv_iload_n hx hb dX7_rust_66 rfl (lv_at hl 2 rfl) ?_
      obtain ⟨x120, hg, hf⟩ := o1_s hf
      refine Ct.callS (ws' := wM g m0 m1 m2 m3 m4 m5 m6 m7 m8 m9 m10 m11 m12 now kept aside ik found carried T S) (As := [.int x2]) (rest := [.int x5]) (st1 := [.int x120, .int x5]) (c_X7_rows l g x2 hg) (va_cwS 1 hts gX7_rust_X7_rows rfl rfl rfl q_X7_rows.2 ⟨Nat.le_of_ble_eq_true rfl, Nat.le_of_ble_eq_true rfl⟩) ⟨hx, hb, hml, hown, hts⟩ hE hP hD hS hA [] rfl rfl rfl rfl rfl hl.1 rfl rfl (Nat.le_of_ble_eq_true rfl) dX7_rust_67 (fun H locs hP hD hS => ?_)
      refine lv_icmp_ge (tgt := 173) hx hb dX7_rust_70 (by decide) (fun hc => ?_) (fun hc => ?_)
      · have hf := if_t hf hc
        exact hk _ _ _ _ _  hf hP hD hS (lv_sub hl [3] rfl)
      · have hf := if_f hf hc
        refine lv_aload_n hx hb dX7_rust_73 rfl (lv_at hl 0 rfl) ?_
        refine lv_iload hx hb dX7_rust_74 (lv_at hl 4 rfl) ?_
        refine lv_iload_n hx hb dX7_rust_76 rfl (lv_at hl 2 rfl) ?_
        obtain ⟨now121, hg, hf⟩ := o1_s hf
        refine Ct.callV0 (ws' := wM g m0 m1 m2 m3 m4 m5 m6 m7 m8 m9 m10 m11 m12 now121 kept aside ik found carried T S) (As := [.int x5, .int x2]) (rest := []) (st1 := []) (c_X7_rainGoes l g m0 m1 m2 m3 m4 m5 m6 m7 m8 m9 m10 m11 m12 now kept aside ik found carried T S x5 x2 hg) (cwV 2 hts gX7_rust_X7_rainGoes rfl rfl rfl q_X7_rainGoes ⟨Nat.le_of_ble_eq_true rfl, Nat.le_of_ble_eq_true rfl⟩) ⟨hx, hb, hml, hown, hts⟩ hE hP hD hS hA 7 0 rfl rfl rfl rfl hl.1 rfl rfl (Nat.le_of_ble_eq_true rfl) dX7_rust_77 (fun H locs hP hD hS => ?_)
        refine lv_iconst (v := (1 : Int32)) hx hb dX7_rust_80 (by decide) ?_
        refine lv_istore (lv' := [(6, .int (1 : Int32)), (0, .ref m0), (1, .int x1), (2, .int x2), (4, .int x4), (5, .int x5)]) hx hb dX7_rust_81 hl (by decide) rfl (fun ls hl => ?_)
        refine lv_iconst (v := (0 : Int32)) hx hb dX7_rust_83 (by decide) ?_
        refine lv_istore (lv' := [(7, .int (0 : Int32)), (6, .int (1 : Int32)), (0, .ref m0), (1, .int x1), (2, .int x2), (4, .int x4), (5, .int x5)]) hx hb dX7_rust_84 hl (by decide) rfl (fun ls hl => ?_)
        refine L86 _ _ _ _ _ _ _ _ _ _ _ _ _ _  hf hP hD hS (lv_sub hl [2, 3, 4, 5, 6, 1, 0] rfl) (fun x122 H locs ls hf hP hD hS hl => ?_)
        refine lv_iload hx hb dX7_rust_148 (lv_at hl 3 rfl) ?_
        refine lv_aload_n hx hb dX7_rust_150 rfl (lv_at hl 0 rfl) ?_
        refine lv_iload hx hb dX7_rust_151 (lv_at hl 5 rfl) ?_
        refine lv_if_eq (tgt := 160) hx hb dX7_rust_153 (by decide) (fun hc => ?_) (fun hc => ?_)
        · have hf := if_t hf hc
          refine lv_iconst (v := (0 : Int32)) hx hb dX7_rust_160 (by decide) ?_
          obtain ⟨x123, now124, hg, hf⟩ := o2_s hf
          refine Ct.callV0 (ws' := wM g m0 m1 m2 m3 m4 m5 m6 m7 m8 m9 m10 m11 m12 now124 kept aside ik found carried T S) (As := [.int (0 : Int32)]) (rest := [.int x4]) (st1 := [.int x123, .int x4]) (c_X7_putBack l g m0 m1 m2 m3 m4 m5 m6 m7 m8 m9 m10 m11 m12 now121 kept aside ik found carried T S (0 : Int32) hg) (cwV 1 hts gX7_rust_X7_putBack rfl rfl rfl q_X7_putBack ⟨Nat.le_of_ble_eq_true rfl, Nat.le_of_ble_eq_true rfl⟩) ⟨hx, hb, hml, hown, hts⟩ hE hP hD hS hA 7 0 rfl rfl rfl rfl hl.1 rfl rfl (Nat.le_of_ble_eq_true rfl) dX7_rust_161 (fun H locs hP hD hS => ?_)
          refine lv_iadd hx hb dX7_rust_164 ?_
          refine lv_istore (lv' := [(4, .int (x4 + x123)), (0, .ref m0), (1, .int x1), (2, .int x2), (5, .int x5), (6, .int x122)]) hx hb dX7_rust_165 hl (by decide) rfl (fun ls hl => ?_)
          refine lv_iinc (v := (x5 + (1 : Int32))) (lv' := [(5, .int (x5 + (1 : Int32))), (4, .int (x4 + x123)), (0, .ref m0), (1, .int x1), (2, .int x2), (6, .int x122)]) hx hb dX7_rust_167 hl (k := 4) rfl rfl (by decide) rfl (fun ls hl => ?_)
          refine lv_goto (tgt := 64) hx hb dX7_rust_170 (by decide) ?_
          exact ih _ _ _ _ _ _  hf hP hD hS (lv_sub hl [2, 3, 4, 1, 0] rfl) hk
        · have hf := if_f hf hc
          refine lv_iconst (v := (1 : Int32)) hx hb dX7_rust_156 (by decide) ?_
          refine lv_goto (tgt := 161) hx hb dX7_rust_157 (by decide) ?_
          obtain ⟨x125, now126, hg, hf⟩ := o2_s hf
          refine Ct.callV0 (ws' := wM g m0 m1 m2 m3 m4 m5 m6 m7 m8 m9 m10 m11 m12 now126 kept aside ik found carried T S) (As := [.int (1 : Int32)]) (rest := [.int x4]) (st1 := [.int x125, .int x4]) (c_X7_putBack l g m0 m1 m2 m3 m4 m5 m6 m7 m8 m9 m10 m11 m12 now121 kept aside ik found carried T S (1 : Int32) hg) (cwV 1 hts gX7_rust_X7_putBack rfl rfl rfl q_X7_putBack ⟨Nat.le_of_ble_eq_true rfl, Nat.le_of_ble_eq_true rfl⟩) ⟨hx, hb, hml, hown, hts⟩ hE hP hD hS hA 7 0 rfl rfl rfl rfl hl.1 rfl rfl (Nat.le_of_ble_eq_true rfl) dX7_rust_161 (fun H locs hP hD hS => ?_)
          refine lv_iadd hx hb dX7_rust_164 ?_
          refine lv_istore (lv' := [(4, .int (x4 + x125)), (0, .ref m0), (1, .int x1), (2, .int x2), (5, .int x5), (6, .int x122)]) hx hb dX7_rust_165 hl (by decide) rfl (fun ls hl => ?_)
          refine lv_iinc (v := (x5 + (1 : Int32))) (lv' := [(5, .int (x5 + (1 : Int32))), (4, .int (x4 + x125)), (0, .ref m0), (1, .int x1), (2, .int x2), (6, .int x122)]) hx hb dX7_rust_167 hl (k := 4) rfl rfl (by decide) rfl (fun ls hl => ?_)
          refine lv_goto (tgt := 64) hx hb dX7_rust_170 (by decide) ?_
          exact ih _ _ _ _ _ _  hf hP hD hS (lv_sub hl [2, 3, 4, 1, 0] rfl) hk
  unfold fX7_rust at hf
  refine lv_iload_n hx hb dX7_rust_0 rfl (lv_at hl 1 rfl) ?_
  obtain ⟨x101, hg, hf⟩ := o1_s hf
  refine Ct.callS (ws' := wM g m0 m1 m2 m3 m4 m5 m6 m7 m8 m9 m10 m11 m12 now kept aside ik found carried T S) (As := [.int a1]) (rest := []) (st1 := [.int x101]) (c_X7_isSheet l g a1 hg) (va_cwS 1 hts gX7_rust_X7_isSheet rfl rfl rfl q_X7_isSheet.2 ⟨Nat.le_of_ble_eq_true rfl, Nat.le_of_ble_eq_true rfl⟩) ⟨hx, hb, hml, hown, hts⟩ hE hP hD hS hA [] rfl rfl rfl rfl rfl hl.1 rfl rfl (Nat.le_of_ble_eq_true rfl) dX7_rust_1 (fun H locs hP hD hS => ?_)
  refine lv_if_ne (tgt := 14) hx hb dX7_rust_4 (by decide) (fun hc => ?_) (fun hc => ?_)
  · have hf := if_f hf hc
    refine lv_aload_n hx hb dX7_rust_14 rfl (lv_at hl 0 rfl) ?_
    refine va_get (D := g.1) (ci := 7) (v := .ref m9) (C := RX7) (T := TX7) (N := 22) hx hb hts i_X7_rust_X7 hown hE.1 hP 0 rfl rfl 18 (by decide) w1 (fun _ h9 => h9) rfl dX7_rust_15 ?_
    refine lv_iload_n hx hb dX7_rust_18 rfl (lv_at hl 1 rfl) ?_
    obtain ⟨x102, ex, hin, hf⟩ := rd_s hf
    refine st_iald (f := S.1) hx hb hE.1 hP 9 0 rfl rfl hin ex dX7_rust_19 ?_
    refine lv_if_ne (tgt := 31) hx hb dX7_rust_20 (by decide) (fun hc => ?_) (fun hc => ?_)
    · have hf := if_f hf hc
      refine lv_aload_n hx hb dX7_rust_31 rfl (lv_at hl 0 rfl) ?_
      refine lv_iload_n hx hb dX7_rust_32 rfl (lv_at hl 2 rfl) ?_
      obtain ⟨x103, hg, hf⟩ := o1_s hf
      refine Ct.callV0 (ws' := wM g m0 m1 m2 m3 m4 m5 m6 m7 m8 m9 m10 m11 m12 now kept aside ik found carried T S) (As := [.int a2]) (rest := []) (st1 := [.int x103]) (c_X7_refusesRows l g m0 m1 m2 m3 m4 m5 m6 m7 m8 m9 m10 m11 m12 now kept aside ik found carried T S a2 hg) (cwV 1 hts gX7_rust_X7_refusesRows rfl rfl rfl q_X7_refusesRows ⟨Nat.le_of_ble_eq_true rfl, Nat.le_of_ble_eq_true rfl⟩) ⟨hx, hb, hml, hown, hts⟩ hE hP hD hS hA 7 0 rfl rfl rfl rfl hl.1 rfl rfl (Nat.le_of_ble_eq_true rfl) dX7_rust_33 (fun H locs hP hD hS => ?_)
      refine lv_istore_n (lv' := [(3, .int x103), (0, .ref m0), (1, .int a1), (2, .int a2)]) hx hb dX7_rust_36 rfl hl (by decide) rfl (fun ls hl => ?_)
      refine lv_iload_n hx hb dX7_rust_37 rfl (lv_at hl 0 rfl) ?_
      refine lv_if_eq (tgt := 47) hx hb dX7_rust_38 (by decide) (fun hc => ?_) (fun hc => ?_)
      · have hf := if_t hf hc
        refine lv_aload_n hx hb dX7_rust_47 rfl (lv_at hl 1 rfl) ?_
        refine va_get (D := g.1) (ci := 7) (v := .ref m1) (C := RX7) (T := TX7) (N := 22) hx hb hts i_X7_rust_X7 hown hE.1 hP 0 rfl rfl 0 (by decide) w2 (fun _ h9 => h9) rfl dX7_rust_48 ?_
        refine lv_aload_n hx hb dX7_rust_51 rfl (lv_at hl 1 rfl) ?_
        refine va_get (D := g.1) (ci := 7) (v := .ref m3) (C := RX7) (T := TX7) (N := 22) hx hb hts i_X7_rust_X7 hown hE.1 hP 0 rfl rfl 2 (by decide) w3 (fun _ h9 => h9) rfl dX7_rust_52 ?_
        obtain ⟨f2104, hg, hf⟩ := o1_s hf
        refine Ct.callS (ws' := wM g m0 m1 m2 m3 m4 m5 m6 m7 m8 m9 m10 m11 m12 now kept f2104 ik found carried T S) (As := [.ref m1, .ref m3]) (rest := []) (st1 := []) (c_X7_copyRow l g m1 m3 120 now aside hg) (va_cwS 2 hts gX7_rust_X7_copyRow rfl rfl rfl q_X7_copyRow.2 ⟨Nat.le_of_ble_eq_true rfl, Nat.le_of_ble_eq_true rfl⟩) ⟨hx, hb, hml, hown, hts⟩ hE hP hD hS hA [1, 3] rfl rfl rfl rfl rfl hl.1 rfl rfl (Nat.le_of_ble_eq_true rfl) dX7_rust_55 (fun H locs hP hD hS => ?_)
        refine lv_iconst (v := (0 : Int32)) hx hb dX7_rust_58 (by decide) ?_
        refine lv_istore (lv' := [(4, .int (0 : Int32)), (3, .int x103), (0, .ref m0), (1, .int a1), (2, .int a2)]) hx hb dX7_rust_59 hl (by decide) rfl (fun ls hl => ?_)
        refine lv_iconst (v := (0 : Int32)) hx hb dX7_rust_61 (by decide) ?_
        refine lv_istore (lv' := [(5, .int (0 : Int32)), (4, .int (0 : Int32)), (3, .int x103), (0, .ref m0), (1, .int a1), (2, .int a2)]) hx hb dX7_rust_62 hl (by decide) rfl (fun ls hl => ?_)
        refine L64 _ _ _ _ _ _ _ _ _ _ _ _  hf hP hD hS (lv_sub hl [3, 4, 5, 1, 0] rfl) (fun now127 x128 H locs ls hf hP hD hS hl => ?_)
        refine lv_iload hx hb dX7_rust_173 (lv_at hl 0 rfl) ?_
        obtain ⟨rfl, rfl, rfl, rfl⟩ := some_p4 hf
        rw [hQ]; exact Ct.iret hx hb hr hlocks hAe hP hD hS dX7_rust_175
      · have hf := if_f hf hc
        refine lv_aload_n hx hb dX7_rust_41 rfl (lv_at hl 1 rfl) ?_
        refine lv_iload_n hx hb dX7_rust_42 rfl (lv_at hl 0 rfl) ?_
        obtain ⟨x129, found130, hg, hf⟩ := o2_s hf
        refine Ct.callV0 (ws' := wM g m0 m1 m2 m3 m4 m5 m6 m7 m8 m9 m10 m11 m12 now kept aside ik found130 carried T S) (As := [.int x103]) (rest := []) (st1 := [.int x129]) (c_X7_finding l g m0 m1 m2 m3 m4 m5 m6 m7 m8 m9 m10 m11 m12 now kept aside ik found carried T S x103 hg) (cwV 1 hts gX7_rust_X7_finding rfl rfl rfl q_X7_finding ⟨Nat.le_of_ble_eq_true rfl, Nat.le_of_ble_eq_true rfl⟩) ⟨hx, hb, hml, hown, hts⟩ hE hP hD hS hA 7 0 rfl rfl rfl rfl hl.1 rfl rfl (Nat.le_of_ble_eq_true rfl) dX7_rust_43 (fun H locs hP hD hS => ?_)
        obtain ⟨rfl, rfl, rfl, rfl⟩ := some_p4 hf
        rw [hQ]; exact Ct.iret hx hb hr hlocks hAe hP hD hS dX7_rust_46
    · have hf := if_t hf hc
      refine lv_aload_n hx hb dX7_rust_23 rfl (lv_at hl 0 rfl) ?_
      refine lv_ldcw hx hb hown w6 dX7_rust_24 ?_
      obtain ⟨x131, found132, hg, hf⟩ := o2_s hf
      refine Ct.callV0 (ws' := wM g m0 m1 m2 m3 m4 m5 m6 m7 m8 m9 m10 m11 m12 now kept aside ik found132 carried T S) (As := [.int (-1000006 : Int32)]) (rest := []) (st1 := [.int x131]) (c_X7_finding l g m0 m1 m2 m3 m4 m5 m6 m7 m8 m9 m10 m11 m12 now kept aside ik found carried T S (-1000006 : Int32) hg) (cwV 1 hts gX7_rust_X7_finding rfl rfl rfl q_X7_finding ⟨Nat.le_of_ble_eq_true rfl, Nat.le_of_ble_eq_true rfl⟩) ⟨hx, hb, hml, hown, hts⟩ hE hP hD hS hA 7 0 rfl rfl rfl rfl hl.1 rfl rfl (Nat.le_of_ble_eq_true rfl) dX7_rust_27 (fun H locs hP hD hS => ?_)
      obtain ⟨rfl, rfl, rfl, rfl⟩ := some_p4 hf
      rw [hQ]; exact Ct.iret hx hb hr hlocks hAe hP hD hS dX7_rust_30
  · have hf := if_t hf hc
    refine lv_aload_n hx hb dX7_rust_7 rfl (lv_at hl 0 rfl) ?_
    refine lv_ldc hx hb hown w7 dX7_rust_8 ?_
    obtain ⟨x133, found134, hg, hf⟩ := o2_s hf
    refine Ct.callV0 (ws' := wM g m0 m1 m2 m3 m4 m5 m6 m7 m8 m9 m10 m11 m12 now kept aside ik found134 carried T S) (As := [.int (-1000001 : Int32)]) (rest := []) (st1 := [.int x133]) (c_X7_finding l g m0 m1 m2 m3 m4 m5 m6 m7 m8 m9 m10 m11 m12 now kept aside ik found carried T S (-1000001 : Int32) hg) (cwV 1 hts gX7_rust_X7_finding rfl rfl rfl q_X7_finding ⟨Nat.le_of_ble_eq_true rfl, Nat.le_of_ble_eq_true rfl⟩) ⟨hx, hb, hml, hown, hts⟩ hE hP hD hS hA 7 0 rfl rfl rfl rfl hl.1 rfl rfl (Nat.le_of_ble_eq_true rfl) dX7_rust_10 (fun H locs hP hD hS => ?_)
    obtain ⟨rfl, rfl, rfl, rfl⟩ := some_p4 hf
    rw [hQ]; exact Ct.iret hx hb hr hlocks hAe hP hD hS dX7_rust_13
def fX7_judge_L64 (aside : Nat → Int32) (found : Nat → Int32) (S : Ms) (x1 : Int32) (kx : (Nat → Int32) → Option (Int32 × (Nat → Int32) × (Nat → Int32) × (Nat → Int32))) : Nat → (Nat → Int32) → Int32 → Option (Int32 × (Nat → Int32) × (Nat → Int32) × (Nat → Int32))
  | 0, _, _ => none
  | k + 1, now, x2 => rd S.2.1 4 x1 (fun x113 => if x113 ≤ x2 then (kx now) else (rd S.2.2.1 160 (((40 : Int32) * x1) + x2) (fun x114 => o1 (fX7_within x114 (0 : Int32) (39 : Int32)) (fun x115 => if x115 = 0 then (o2 (fX7_putBack now aside ((2 : Int32) + x2)) (fun x118 now119 => some (x118, now119, aside, found))) else (o2 (fX7_hour now (x114 / (10 : Int32)) (x114 - x114 / (10 : Int32) * (10 : Int32))) (fun x116 now117 => fX7_judge_L64 aside found S x1 kx k now117 (x2 + (1 : Int32))))))))
def fX7_judge (now : Nat → Int32) (aside : Nat → Int32) (found : Nat → Int32) (S : Ms) (a1 : Int32) : Option (Int32 × (Nat → Int32) × (Nat → Int32) × (Nat → Int32)) := o1 (fX7_isSheet a1) (fun x101 => if x101 = 0 then (o2 (fX7_finding found (-1000001 : Int32)) (fun x130 found131 => some (x130, now, aside, found131))) else (rd S.1 4 a1 (fun x102 => if x102 = 0 then (o2 (fX7_finding found (-1000006 : Int32)) (fun x128 found129 => some (x128, now, aside, found129))) else (rd S.2.1 4 a1 (fun x103 => o1 (fX7_isTooLate now x103) (fun x104 => if x104 = 0 then (o1 (fX7_copyRow 120 now) (fun f2105 => fX7_judge_L64 f2105 found S a1 (fun now120 => o1 (fX7_isOpen now120) (fun x121 => if x121 = 0 then (o2 (fX7_putBack now120 f2105 (1 : Int32)) (fun x122 now123 => some (x122, now123, f2105, found))) else (o2 (fX7_putBack now120 f2105 (0 : Int32)) (fun x124 now125 => some (x124, now125, f2105, found))))) fu now (0 : Int32))) else (o2 (fX7_finding found (-1000005 : Int32)) (fun x126 found127 => some (x126, now, aside, found127)))))))))
theorem q_X7_judge : yX7_judge.cls = RX7 ∧ yX7_judge.cls ≠ "java/lang/invoke/MethodHandle" ∧ yX7_judge.cls ≠ "java/lang/invoke/VarHandle" ∧ (parseMethodDescriptor yX7_judge.desc).map (fun d => d.parameters.length) = some 1 := by decide +kernel
theorem i_X7_judge_X7 : ∀ w ∈ u_ws RX7 TX7 22, w ∈ wsX7_judge := fun _ h => List.mem_cons_of_mem _ (List.mem_append_right _ (h))
set_option maxHeartbeats 4000000 in
set_option maxRecDepth 100000 in
theorem c_X7_judge (l : Launch) (g : gG) (m0 m1 m2 m3 m4 m5 m6 m7 m8 m9 m10 m11 m12 : Nat) (now : Nat → Int32) (kept : Nat → Int32) (aside : Nat → Int32) (ik : Int32) (found : Nat → Int32) (carried : Nat → Int32) (T : Mt) (S : Ms) (a1 : Int32) {r : Int32} {now' : Nat → Int32} {aside' : Nat → Int32} {found' : Nat → Int32} (hf : fX7_judge now aside found S a1 = some (r, now', aside', found')) : Ct l yX7_judge wsX7_judge (rmm 8 177) g (wM g m0 m1 m2 m3 m4 m5 m6 m7 m8 m9 m10 m11 m12 now kept aside ik found carried T S) (wM g m0 m1 m2 m3 m4 m5 m6 m7 m8 m9 m10 m11 m12 (now') kept (aside') ik (found') carried T S) [.ref m0, .int a1] (some (.int r)) := by
  refine Ct.mk (by decide) rfl (Nat.le_of_ble_eq_true rfl) ?_
  intro p e s m args below meth c A ls hx hb hr hml hts hown hlocks hA hE hP hD hS hl hAe
  obtain ⟨Qx, hQ⟩ : ∃ Qx : State → Prop, Qx = MQ below (QcG g (wM g m0 m1 m2 m3 m4 m5 m6 m7 m8 m9 m10 m11 m12 now kept aside ik found carried T S) (wM g m0 m1 m2 m3 m4 m5 m6 m7 m8 m9 m10 m11 m12 (now') kept (aside') ik (found') carried T S) (some (.int r)) s.heap.size) args s 0 0 A := ⟨_, rfl⟩
  rw [← hQ]
  have hown : s.vm.findClass RX7 = some m.cls := hown
  have hl : lv_has ls 5 [(0, .ref m0), (1, .int a1)] := hl
  have w1 := hts (.fieldLink RX7 51 "RainVaultModel" "widths" "[I") (List.mem_of_getElem? (i := 2) rfl)
  have w2 := hts (.fieldLink RX7 54 "RainVaultModel" "sizes" "[I") (List.mem_of_getElem? (i := 4) rfl)
  have w3 := hts (.fieldLink RX7 9 "RainVaultModel" "now" "[I") (List.mem_of_getElem? (i := 6) rfl)
  have w4 := hts (.fieldLink RX7 16 "RainVaultModel" "aside" "[I") (List.mem_of_getElem? (i := 7) rfl)
  have w5 := hts (.fieldLink RX7 57 "RainVaultModel" "numbers" "[I") (List.mem_of_getElem? (i := 8) rfl)
  have w6 := hts (.constant RX7 173 (-1000005)) (List.mem_of_getElem? (i := 5) rfl)
  have w7 := hts (.constant RX7 317 (-1000006)) (List.mem_of_getElem? (i := 3) rfl)
  have w8 := hts (.constant RX7 63 (-1000001)) (List.mem_of_getElem? (i := 1) rfl)
  have L64 : ∀ (aside : Nat → Int32) (found : Nat → Int32) (x1 : Int32) (kx : (Nat → Int32) → Option (Int32 × (Nat → Int32) × (Nat → Int32) × (Nat → Int32))) (k : Nat) (now : Nat → Int32) (x2 : Int32) (H : Heap) (locs : List Loc) (ls : Array Slot), fX7_judge_L64 aside found S x1 kx k now x2 = some (r, now', aside', found') → va_P g.1 vwK (wM g m0 m1 m2 m3 m4 m5 m6 m7 m8 m9 m10 m11 m12 now kept aside ik found carried T S) H → va_D A (wM g m0 m1 m2 m3 m4 m5 m6 m7 m8 m9 m10 m11 m12 now kept aside ik found carried T S) → va_S A s.heap H locs → lv_has ls 5 [(0, .ref m0), (1, .int x1), (2, .int x2)] → (∀ (now : Nat → Int32) (H : Heap) (locs : List Loc) (ls : Array Slot), kx now = some (r, now', aside', found') → va_P g.1 vwK (wM g m0 m1 m2 m3 m4 m5 m6 m7 m8 m9 m10 m11 m12 now kept aside ik found carried T S) H → va_D A (wM g m0 m1 m2 m3 m4 m5 m6 m7 m8 m9 m10 m11 m12 now kept aside ik found carried T S) → va_S A s.heap H locs → lv_has ls 5 [(0, .ref m0)] → W p l e (rmm 8 177) s m args below meth c H locs 0 0 Qx (F0 m 124 ls [])) → W p l e (rmm 8 177) s m args below meth c H locs 0 0 Qx (F0 m 64 ls []) := by
    intro aside found x1 kx k
    induction k with
    | zero => intro now x2 H locs ls hf; exact nomatch (show (none : Option (Int32 × (Nat → Int32) × (Nat → Int32) × (Nat → Int32))) = some _ from hf)
    | succ k ih =>
      intro now x2 H locs ls hf hP hD hS hl hk
      rw [fX7_judge_L64] at hf
      refine lv_iload_n hx hb dX7_judge_64 rfl (lv_at hl 2 rfl) ?_
      refine lv_aload_n hx hb dX7_judge_65 rfl (lv_at hl 0 rfl) ?_
      refine va_get (D := g.1) (ci := 7) (v := .ref m10) (C := RX7) (T := TX7) (N := 22) hx hb hts i_X7_judge_X7 hown hE.1 hP 0 rfl rfl 19 (by decide) w2 (fun _ h9 => h9) rfl dX7_judge_66 ?_
      refine lv_iload_n hx hb dX7_judge_69 rfl (lv_at hl 1 rfl) ?_
      obtain ⟨x113, ex, hin, hf⟩ := rd_s hf
      refine st_iald (f := S.2.1) hx hb hE.1 hP 10 0 rfl rfl hin ex dX7_judge_70 ?_
      refine lv_icmp_ge (tgt := 124) hx hb dX7_judge_71 (by decide) (fun hc => ?_) (fun hc => ?_)
      · have hf := if_t hf hc
        exact hk _ _ _ _  hf hP hD hS (lv_sub hl [0] rfl)
      · have hf := if_f hf hc
        refine lv_aload_n hx hb dX7_judge_74 rfl (lv_at hl 0 rfl) ?_
        refine va_get (D := g.1) (ci := 7) (v := .ref m11) (C := RX7) (T := TX7) (N := 22) hx hb hts i_X7_judge_X7 hown hE.1 hP 0 rfl rfl 20 (by decide) w5 (fun _ h9 => h9) rfl dX7_judge_75 ?_
        refine lv_bipush (v := (40 : Int32)) hx hb dX7_judge_78 (by decide) ?_
        refine lv_iload_n hx hb dX7_judge_80 rfl (lv_at hl 1 rfl) ?_
        refine lv_imul hx hb dX7_judge_81 ?_
        refine lv_iload_n hx hb dX7_judge_82 rfl (lv_at hl 2 rfl) ?_
        refine lv_iadd hx hb dX7_judge_83 ?_
        obtain ⟨x114, ex, hin, hf⟩ := rd_s hf
        refine st_iald (f := S.2.2.1) hx hb hE.1 hP 11 0 rfl rfl hin ex dX7_judge_84 ?_
        refine lv_istore_n (lv' := [(3, .int x114), (0, .ref m0), (1, .int x1), (2, .int x2)]) hx hb dX7_judge_85 rfl hl (by decide) rfl (fun ls hl => ?_)
        refine lv_iload_n hx hb dX7_judge_86 rfl (lv_at hl 0 rfl) ?_
        refine lv_iconst (v := (0 : Int32)) hx hb dX7_judge_87 (by decide) ?_
        refine lv_bipush (v := (39 : Int32)) hx hb dX7_judge_88 (by decide) ?_
        obtain ⟨x115, hg, hf⟩ := o1_s hf
        refine Ct.callS (ws' := wM g m0 m1 m2 m3 m4 m5 m6 m7 m8 m9 m10 m11 m12 now kept aside ik found carried T S) (As := [.int x114, .int (0 : Int32), .int (39 : Int32)]) (rest := []) (st1 := [.int x115]) (c_X7_within l g x114 (0 : Int32) (39 : Int32) hg) (va_cwS 3 hts gX7_judge_X7_within rfl rfl rfl q_X7_within.2 ⟨Nat.le_of_ble_eq_true rfl, Nat.le_of_ble_eq_true rfl⟩) ⟨hx, hb, hml, hown, hts⟩ hE hP hD hS hA [] rfl rfl rfl rfl rfl hl.1 rfl rfl (Nat.le_of_ble_eq_true rfl) dX7_judge_90 (fun H locs hP hD hS => ?_)
        refine lv_if_ne (tgt := 104) hx hb dX7_judge_93 (by decide) (fun hc => ?_) (fun hc => ?_)
        · have hf := if_f hf hc
          refine lv_aload_n hx hb dX7_judge_104 rfl (lv_at hl 1 rfl) ?_
          refine lv_iload_n hx hb dX7_judge_105 rfl (lv_at hl 0 rfl) ?_
          refine lv_bipush (v := (10 : Int32)) hx hb dX7_judge_106 (by decide) ?_
          refine lv_idiv hx hb dX7_judge_108 (by decide) ?_
          refine lv_iload_n hx hb dX7_judge_109 rfl (lv_at hl 0 rfl) ?_
          refine lv_bipush (v := (10 : Int32)) hx hb dX7_judge_110 (by decide) ?_
          refine lv_irem hx hb dX7_judge_112 (by decide) ?_
          obtain ⟨x116, now117, hg, hf⟩ := o2_s hf
          refine Ct.callV0 (ws' := wM g m0 m1 m2 m3 m4 m5 m6 m7 m8 m9 m10 m11 m12 now117 kept aside ik found carried T S) (As := [.int (x114 / (10 : Int32)), .int (x114 - x114 / (10 : Int32) * (10 : Int32))]) (rest := []) (st1 := [.int x116]) (c_X7_hour l g m0 m1 m2 m3 m4 m5 m6 m7 m8 m9 m10 m11 m12 now kept aside ik found carried T S (x114 / (10 : Int32)) (x114 - x114 / (10 : Int32) * (10 : Int32)) hg) (cwV 2 hts gX7_judge_X7_hour rfl rfl rfl q_X7_hour ⟨Nat.le_of_ble_eq_true rfl, Nat.le_of_ble_eq_true rfl⟩) ⟨hx, hb, hml, hown, hts⟩ hE hP hD hS hA 7 0 rfl rfl rfl rfl hl.1 rfl rfl (Nat.le_of_ble_eq_true rfl) dX7_judge_113 (fun H locs hP hD hS => ?_)
          refine lv_istore (lv' := [(4, .int x116), (3, .int x114), (0, .ref m0), (1, .int x1), (2, .int x2)]) hx hb dX7_judge_116 hl (by decide) rfl (fun ls hl => ?_)
          refine lv_iinc (v := (x2 + (1 : Int32))) (lv' := [(2, .int (x2 + (1 : Int32))), (4, .int x116), (3, .int x114), (0, .ref m0), (1, .int x1)]) hx hb dX7_judge_118 hl (k := 4) rfl rfl (by decide) rfl (fun ls hl => ?_)
          refine lv_goto (tgt := 64) hx hb dX7_judge_121 (by decide) ?_
          exact ih _ _ _ _ _  hf hP hD hS (lv_sub hl [3, 4, 0] rfl) hk
        · have hf := if_t hf hc
          refine lv_aload_n hx hb dX7_judge_96 rfl (lv_at hl 1 rfl) ?_
          refine lv_iconst (v := (2 : Int32)) hx hb dX7_judge_97 (by decide) ?_
          refine lv_iload_n hx hb dX7_judge_98 rfl (lv_at hl 3 rfl) ?_
          refine lv_iadd hx hb dX7_judge_99 ?_
          obtain ⟨x118, now119, hg, hf⟩ := o2_s hf
          refine Ct.callV0 (ws' := wM g m0 m1 m2 m3 m4 m5 m6 m7 m8 m9 m10 m11 m12 now119 kept aside ik found carried T S) (As := [.int ((2 : Int32) + x2)]) (rest := []) (st1 := [.int x118]) (c_X7_putBack l g m0 m1 m2 m3 m4 m5 m6 m7 m8 m9 m10 m11 m12 now kept aside ik found carried T S ((2 : Int32) + x2) hg) (cwV 1 hts gX7_judge_X7_putBack rfl rfl rfl q_X7_putBack ⟨Nat.le_of_ble_eq_true rfl, Nat.le_of_ble_eq_true rfl⟩) ⟨hx, hb, hml, hown, hts⟩ hE hP hD hS hA 7 0 rfl rfl rfl rfl hl.1 rfl rfl (Nat.le_of_ble_eq_true rfl) dX7_judge_100 (fun H locs hP hD hS => ?_)
          obtain ⟨rfl, rfl, rfl, rfl⟩ := some_p4 hf
          rw [hQ]; exact Ct.iret hx hb hr hlocks hAe hP hD hS dX7_judge_103
  unfold fX7_judge at hf
  refine lv_iload_n hx hb dX7_judge_0 rfl (lv_at hl 1 rfl) ?_
  obtain ⟨x101, hg, hf⟩ := o1_s hf
  refine Ct.callS (ws' := wM g m0 m1 m2 m3 m4 m5 m6 m7 m8 m9 m10 m11 m12 now kept aside ik found carried T S) (As := [.int a1]) (rest := []) (st1 := [.int x101]) (c_X7_isSheet l g a1 hg) (va_cwS 1 hts gX7_judge_X7_isSheet rfl rfl rfl q_X7_isSheet.2 ⟨Nat.le_of_ble_eq_true rfl, Nat.le_of_ble_eq_true rfl⟩) ⟨hx, hb, hml, hown, hts⟩ hE hP hD hS hA [] rfl rfl rfl rfl rfl hl.1 rfl rfl (Nat.le_of_ble_eq_true rfl) dX7_judge_1 (fun H locs hP hD hS => ?_)
  refine lv_if_ne (tgt := 14) hx hb dX7_judge_4 (by decide) (fun hc => ?_) (fun hc => ?_)
  · have hf := if_f hf hc
    refine lv_aload_n hx hb dX7_judge_14 rfl (lv_at hl 0 rfl) ?_
    refine va_get (D := g.1) (ci := 7) (v := .ref m9) (C := RX7) (T := TX7) (N := 22) hx hb hts i_X7_judge_X7 hown hE.1 hP 0 rfl rfl 18 (by decide) w1 (fun _ h9 => h9) rfl dX7_judge_15 ?_
    refine lv_iload_n hx hb dX7_judge_18 rfl (lv_at hl 1 rfl) ?_
    obtain ⟨x102, ex, hin, hf⟩ := rd_s hf
    refine st_iald (f := S.1) hx hb hE.1 hP 9 0 rfl rfl hin ex dX7_judge_19 ?_
    refine lv_if_ne (tgt := 31) hx hb dX7_judge_20 (by decide) (fun hc => ?_) (fun hc => ?_)
    · have hf := if_f hf hc
      refine lv_aload_n hx hb dX7_judge_31 rfl (lv_at hl 0 rfl) ?_
      refine lv_aload_n hx hb dX7_judge_32 rfl (lv_at hl 0 rfl) ?_
      refine va_get (D := g.1) (ci := 7) (v := .ref m10) (C := RX7) (T := TX7) (N := 22) hx hb hts i_X7_judge_X7 hown hE.1 hP 0 rfl rfl 19 (by decide) w2 (fun _ h9 => h9) rfl dX7_judge_33 ?_
      refine lv_iload_n hx hb dX7_judge_36 rfl (lv_at hl 1 rfl) ?_
      obtain ⟨x103, ex, hin, hf⟩ := rd_s hf
      refine st_iald (f := S.2.1) hx hb hE.1 hP 10 0 rfl rfl hin ex dX7_judge_37 ?_
      obtain ⟨x104, hg, hf⟩ := o1_s hf
      refine Ct.callV0 (ws' := wM g m0 m1 m2 m3 m4 m5 m6 m7 m8 m9 m10 m11 m12 now kept aside ik found carried T S) (As := [.int x103]) (rest := []) (st1 := [.int x104]) (c_X7_isTooLate l g m0 m1 m2 m3 m4 m5 m6 m7 m8 m9 m10 m11 m12 now kept aside ik found carried T S x103 hg) (cwV 1 hts gX7_judge_X7_isTooLate rfl rfl rfl q_X7_isTooLate ⟨Nat.le_of_ble_eq_true rfl, Nat.le_of_ble_eq_true rfl⟩) ⟨hx, hb, hml, hown, hts⟩ hE hP hD hS hA 7 0 rfl rfl rfl rfl hl.1 rfl rfl (Nat.le_of_ble_eq_true rfl) dX7_judge_38 (fun H locs hP hD hS => ?_)
      refine lv_if_eq (tgt := 51) hx hb dX7_judge_41 (by decide) (fun hc => ?_) (fun hc => ?_)
      · have hf := if_t hf hc
        refine lv_aload_n hx hb dX7_judge_51 rfl (lv_at hl 0 rfl) ?_
        refine va_get (D := g.1) (ci := 7) (v := .ref m1) (C := RX7) (T := TX7) (N := 22) hx hb hts i_X7_judge_X7 hown hE.1 hP 0 rfl rfl 0 (by decide) w3 (fun _ h9 => h9) rfl dX7_judge_52 ?_
        refine lv_aload_n hx hb dX7_judge_55 rfl (lv_at hl 0 rfl) ?_
        refine va_get (D := g.1) (ci := 7) (v := .ref m3) (C := RX7) (T := TX7) (N := 22) hx hb hts i_X7_judge_X7 hown hE.1 hP 0 rfl rfl 2 (by decide) w4 (fun _ h9 => h9) rfl dX7_judge_56 ?_
        obtain ⟨f2105, hg, hf⟩ := o1_s hf
        refine Ct.callS (ws' := wM g m0 m1 m2 m3 m4 m5 m6 m7 m8 m9 m10 m11 m12 now kept f2105 ik found carried T S) (As := [.ref m1, .ref m3]) (rest := []) (st1 := []) (c_X7_copyRow l g m1 m3 120 now aside hg) (va_cwS 2 hts gX7_judge_X7_copyRow rfl rfl rfl q_X7_copyRow.2 ⟨Nat.le_of_ble_eq_true rfl, Nat.le_of_ble_eq_true rfl⟩) ⟨hx, hb, hml, hown, hts⟩ hE hP hD hS hA [1, 3] rfl rfl rfl rfl rfl hl.1 rfl rfl (Nat.le_of_ble_eq_true rfl) dX7_judge_59 (fun H locs hP hD hS => ?_)
        refine lv_iconst (v := (0 : Int32)) hx hb dX7_judge_62 (by decide) ?_
        refine lv_istore_n (lv' := [(2, .int (0 : Int32)), (0, .ref m0), (1, .int a1)]) hx hb dX7_judge_63 rfl hl (by decide) rfl (fun ls hl => ?_)
        refine L64 _ _ _ _ _ _ _ _ _ _  hf hP hD hS (lv_sub hl [1, 2, 0] rfl) (fun now120 H locs ls hf hP hD hS hl => ?_)
        refine lv_aload_n hx hb dX7_judge_124 rfl (lv_at hl 0 rfl) ?_
        refine lv_aload_n hx hb dX7_judge_125 rfl (lv_at hl 0 rfl) ?_
        obtain ⟨x121, hg, hf⟩ := o1_s hf
        refine Ct.callV0 (ws' := wM g m0 m1 m2 m3 m4 m5 m6 m7 m8 m9 m10 m11 m12 now120 kept f2105 ik found carried T S) (As := []) (rest := [.ref m0]) (st1 := [.int x121, .ref m0]) (c_X7_isOpen l g m0 m1 m2 m3 m4 m5 m6 m7 m8 m9 m10 m11 m12 now120 kept f2105 ik found carried T S hg) (cwV 0 hts gX7_judge_X7_isOpen rfl rfl rfl q_X7_isOpen ⟨Nat.le_of_ble_eq_true rfl, Nat.le_of_ble_eq_true rfl⟩) ⟨hx, hb, hml, hown, hts⟩ hE hP hD hS hA 7 0 rfl rfl rfl rfl hl.1 rfl rfl (Nat.le_of_ble_eq_true rfl) dX7_judge_126 (fun H locs hP hD hS => ?_)
        refine lv_if_eq (tgt := 136) hx hb dX7_judge_129 (by decide) (fun hc => ?_) (fun hc => ?_)
        · have hf := if_t hf hc
          refine lv_iconst (v := (1 : Int32)) hx hb dX7_judge_136 (by decide) ?_
          obtain ⟨x122, now123, hg, hf⟩ := o2_s hf
          refine Ct.callV0 (ws' := wM g m0 m1 m2 m3 m4 m5 m6 m7 m8 m9 m10 m11 m12 now123 kept f2105 ik found carried T S) (As := [.int (1 : Int32)]) (rest := []) (st1 := [.int x122]) (c_X7_putBack l g m0 m1 m2 m3 m4 m5 m6 m7 m8 m9 m10 m11 m12 now120 kept f2105 ik found carried T S (1 : Int32) hg) (cwV 1 hts gX7_judge_X7_putBack rfl rfl rfl q_X7_putBack ⟨Nat.le_of_ble_eq_true rfl, Nat.le_of_ble_eq_true rfl⟩) ⟨hx, hb, hml, hown, hts⟩ hE hP hD hS hA 7 0 rfl rfl rfl rfl hl.1 rfl rfl (Nat.le_of_ble_eq_true rfl) dX7_judge_137 (fun H locs hP hD hS => ?_)
          obtain ⟨rfl, rfl, rfl, rfl⟩ := some_p4 hf
          rw [hQ]; exact Ct.iret hx hb hr hlocks hAe hP hD hS dX7_judge_140
        · have hf := if_f hf hc
          refine lv_iconst (v := (0 : Int32)) hx hb dX7_judge_132 (by decide) ?_
          refine lv_goto (tgt := 137) hx hb dX7_judge_133 (by decide) ?_
          obtain ⟨x124, now125, hg, hf⟩ := o2_s hf
          refine Ct.callV0 (ws' := wM g m0 m1 m2 m3 m4 m5 m6 m7 m8 m9 m10 m11 m12 now125 kept f2105 ik found carried T S) (As := [.int (0 : Int32)]) (rest := []) (st1 := [.int x124]) (c_X7_putBack l g m0 m1 m2 m3 m4 m5 m6 m7 m8 m9 m10 m11 m12 now120 kept f2105 ik found carried T S (0 : Int32) hg) (cwV 1 hts gX7_judge_X7_putBack rfl rfl rfl q_X7_putBack ⟨Nat.le_of_ble_eq_true rfl, Nat.le_of_ble_eq_true rfl⟩) ⟨hx, hb, hml, hown, hts⟩ hE hP hD hS hA 7 0 rfl rfl rfl rfl hl.1 rfl rfl (Nat.le_of_ble_eq_true rfl) dX7_judge_137 (fun H locs hP hD hS => ?_)
          obtain ⟨rfl, rfl, rfl, rfl⟩ := some_p4 hf
          rw [hQ]; exact Ct.iret hx hb hr hlocks hAe hP hD hS dX7_judge_140
      · have hf := if_f hf hc
        refine lv_aload_n hx hb dX7_judge_44 rfl (lv_at hl 0 rfl) ?_
        refine lv_ldc hx hb hown w6 dX7_judge_45 ?_
        obtain ⟨x126, found127, hg, hf⟩ := o2_s hf
        refine Ct.callV0 (ws' := wM g m0 m1 m2 m3 m4 m5 m6 m7 m8 m9 m10 m11 m12 now kept aside ik found127 carried T S) (As := [.int (-1000005 : Int32)]) (rest := []) (st1 := [.int x126]) (c_X7_finding l g m0 m1 m2 m3 m4 m5 m6 m7 m8 m9 m10 m11 m12 now kept aside ik found carried T S (-1000005 : Int32) hg) (cwV 1 hts gX7_judge_X7_finding rfl rfl rfl q_X7_finding ⟨Nat.le_of_ble_eq_true rfl, Nat.le_of_ble_eq_true rfl⟩) ⟨hx, hb, hml, hown, hts⟩ hE hP hD hS hA 7 0 rfl rfl rfl rfl hl.1 rfl rfl (Nat.le_of_ble_eq_true rfl) dX7_judge_47 (fun H locs hP hD hS => ?_)
        obtain ⟨rfl, rfl, rfl, rfl⟩ := some_p4 hf
        rw [hQ]; exact Ct.iret hx hb hr hlocks hAe hP hD hS dX7_judge_50
    · have hf := if_t hf hc
      refine lv_aload_n hx hb dX7_judge_23 rfl (lv_at hl 0 rfl) ?_
      refine lv_ldcw hx hb hown w7 dX7_judge_24 ?_
      obtain ⟨x128, found129, hg, hf⟩ := o2_s hf
      refine Ct.callV0 (ws' := wM g m0 m1 m2 m3 m4 m5 m6 m7 m8 m9 m10 m11 m12 now kept aside ik found129 carried T S) (As := [.int (-1000006 : Int32)]) (rest := []) (st1 := [.int x128]) (c_X7_finding l g m0 m1 m2 m3 m4 m5 m6 m7 m8 m9 m10 m11 m12 now kept aside ik found carried T S (-1000006 : Int32) hg) (cwV 1 hts gX7_judge_X7_finding rfl rfl rfl q_X7_finding ⟨Nat.le_of_ble_eq_true rfl, Nat.le_of_ble_eq_true rfl⟩) ⟨hx, hb, hml, hown, hts⟩ hE hP hD hS hA 7 0 rfl rfl rfl rfl hl.1 rfl rfl (Nat.le_of_ble_eq_true rfl) dX7_judge_27 (fun H locs hP hD hS => ?_)
      obtain ⟨rfl, rfl, rfl, rfl⟩ := some_p4 hf
      rw [hQ]; exact Ct.iret hx hb hr hlocks hAe hP hD hS dX7_judge_30
  · have hf := if_t hf hc
    refine lv_aload_n hx hb dX7_judge_7 rfl (lv_at hl 0 rfl) ?_
    refine lv_ldc hx hb hown w8 dX7_judge_8 ?_
    obtain ⟨x130, found131, hg, hf⟩ := o2_s hf
    refine Ct.callV0 (ws' := wM g m0 m1 m2 m3 m4 m5 m6 m7 m8 m9 m10 m11 m12 now kept aside ik found131 carried T S) (As := [.int (-1000001 : Int32)]) (rest := []) (st1 := [.int x130]) (c_X7_finding l g m0 m1 m2 m3 m4 m5 m6 m7 m8 m9 m10 m11 m12 now kept aside ik found carried T S (-1000001 : Int32) hg) (cwV 1 hts gX7_judge_X7_finding rfl rfl rfl q_X7_finding ⟨Nat.le_of_ble_eq_true rfl, Nat.le_of_ble_eq_true rfl⟩) ⟨hx, hb, hml, hown, hts⟩ hE hP hD hS hA 7 0 rfl rfl rfl rfl hl.1 rfl rfl (Nat.le_of_ble_eq_true rfl) dX7_judge_10 (fun H locs hP hD hS => ?_)
    obtain ⟨rfl, rfl, rfl, rfl⟩ := some_p4 hf
    rw [hQ]; exact Ct.iret hx hb hr hlocks hAe hP hD hS dX7_judge_13
def fX7_image (now : Nat → Int32) (kept : Nat → Int32) (ik : Int32) : Option (Int32 × (Nat → Int32) × Int32) := o1 (fX7_copyRow 120 now) (fun f2101 => some ((1 : Int32), f2101, (1 : Int32)))
theorem q_X7_image : yX7_image.cls = RX7 ∧ yX7_image.cls ≠ "java/lang/invoke/MethodHandle" ∧ yX7_image.cls ≠ "java/lang/invoke/VarHandle" ∧ (parseMethodDescriptor yX7_image.desc).map (fun d => d.parameters.length) = some 0 := by decide +kernel
theorem i_X7_image_X7 : ∀ w ∈ u_ws RX7 TX7 22, w ∈ wsX7_image := fun _ h => List.mem_cons_of_mem _ (List.mem_append_right _ (h))
set_option maxHeartbeats 4000000 in
set_option maxRecDepth 100000 in
theorem c_X7_image (l : Launch) (g : gG) (m0 m1 m2 m3 m4 m5 m6 m7 m8 m9 m10 m11 m12 : Nat) (now : Nat → Int32) (kept : Nat → Int32) (aside : Nat → Int32) (ik : Int32) (found : Nat → Int32) (carried : Nat → Int32) (T : Mt) (S : Ms) {r : Int32} {kept' : Nat → Int32} {ik' : Int32} (hf : fX7_image now kept ik = some (r, kept', ik')) : Ct l yX7_image wsX7_image (rmm 1 22) g (wM g m0 m1 m2 m3 m4 m5 m6 m7 m8 m9 m10 m11 m12 now kept aside ik found carried T S) (wM g m0 m1 m2 m3 m4 m5 m6 m7 m8 m9 m10 m11 m12 now (kept') aside (ik') found carried T S) [.ref m0] (some (.int r)) := by
  refine Ct.mk (by decide) rfl (Nat.le_of_ble_eq_true rfl) ?_
  intro p e s m args below meth c A ls hx hb hr hml hts hown hlocks hA hE hP hD hS hl hAe
  obtain ⟨Qx, hQ⟩ : ∃ Qx : State → Prop, Qx = MQ below (QcG g (wM g m0 m1 m2 m3 m4 m5 m6 m7 m8 m9 m10 m11 m12 now kept aside ik found carried T S) (wM g m0 m1 m2 m3 m4 m5 m6 m7 m8 m9 m10 m11 m12 now (kept') aside (ik') found carried T S) (some (.int r)) s.heap.size) args s 0 0 A := ⟨_, rfl⟩
  rw [← hQ]
  have hown : s.vm.findClass RX7 = some m.cls := hown
  have hl : lv_has ls 1 [(0, .ref m0)] := hl
  have w1 := hts (.fieldLink RX7 9 "RainVaultModel" "now" "[I") (List.mem_of_getElem? (i := 1) rfl)
  have w2 := hts (.fieldLink RX7 13 "RainVaultModel" "kept" "[I") (List.mem_of_getElem? (i := 2) rfl)
  have w3 := hts (.fieldLink RX7 326 "RainVaultModel" "isKept" "Z") (List.mem_of_getElem? (i := 3) rfl)
  unfold fX7_image at hf
  refine lv_aload_n hx hb dX7_image_0 rfl (lv_at hl 0 rfl) ?_
  refine va_get (D := g.1) (ci := 7) (v := .ref m1) (C := RX7) (T := TX7) (N := 22) hx hb hts i_X7_image_X7 hown hE.1 hP 0 rfl rfl 0 (by decide) w1 (fun _ h9 => h9) rfl dX7_image_1 ?_
  refine lv_aload_n hx hb dX7_image_4 rfl (lv_at hl 0 rfl) ?_
  refine va_get (D := g.1) (ci := 7) (v := .ref m2) (C := RX7) (T := TX7) (N := 22) hx hb hts i_X7_image_X7 hown hE.1 hP 0 rfl rfl 1 (by decide) w2 (fun _ h9 => h9) rfl dX7_image_5 ?_
  obtain ⟨f2101, hg, hf⟩ := o1_s hf
  refine Ct.callS (ws' := wM g m0 m1 m2 m3 m4 m5 m6 m7 m8 m9 m10 m11 m12 now f2101 aside ik found carried T S) (As := [.ref m1, .ref m2]) (rest := []) (st1 := []) (c_X7_copyRow l g m1 m2 120 now kept hg) (va_cwS 2 hts gX7_image_X7_copyRow rfl rfl rfl q_X7_copyRow.2 ⟨Nat.le_of_ble_eq_true rfl, Nat.le_of_ble_eq_true rfl⟩) ⟨hx, hb, hml, hown, hts⟩ hE hP hD hS hA [1, 2] rfl rfl rfl rfl rfl hl.1 rfl rfl (Nat.le_of_ble_eq_true rfl) dX7_image_8 (fun H locs hP hD hS => ?_)
  refine lv_aload_n hx hb dX7_image_11 rfl (lv_at hl 0 rfl) ?_
  refine lv_iconst (v := (1 : Int32)) hx hb dX7_image_12 (by decide) ?_
  refine va_put (D := g.1) (ci := 7) (v := .int (1 : Int32)) (ty := .boolean) (C := RX7) (T := TX7) (N := 22) hx hb hts i_X7_image_X7 tyX7 tyX7_ok nmX7 hown hE.1 hP hD hS 0 rfl rfl 3 (by decide) w3 (fun _ h9 => h9) rfl (by decide +kernel) rfl rfl (Nat.le_of_ble_eq_true rfl) dX7_image_13 (fun H locs hP hD hS => ?_)
  have hP : va_P g.1 vwK (wM g m0 m1 m2 m3 m4 m5 m6 m7 m8 m9 m10 m11 m12 now f2101 aside (1 : Int32) found carried T S) H := hP
  have hD : va_D A (wM g m0 m1 m2 m3 m4 m5 m6 m7 m8 m9 m10 m11 m12 now f2101 aside (1 : Int32) found carried T S) := hD
  refine lv_iconst (v := (1 : Int32)) hx hb dX7_image_16 (by decide) ?_
  obtain ⟨rfl, rfl, rfl⟩ := some_p3 hf
  rw [hQ]; exact Ct.iret hx hb hr hlocks hAe hP hD hS dX7_image_17
def fX7_undo (now : Nat → Int32) (kept : Nat → Int32) (ik : Int32) (found : Nat → Int32) : Option (Int32 × (Nat → Int32) × (Nat → Int32)) := if ik = 0 then (o2 (fX7_finding found (-1000004 : Int32)) (fun x103 found104 => some (x103, now, found104))) else (o1 (fX7_copyRow 120 kept) (fun f2101 => rd f2101 120 (0 : Int32) (fun x102 => some (x102, f2101, found))))
theorem q_X7_undo : yX7_undo.cls = RX7 ∧ yX7_undo.cls ≠ "java/lang/invoke/MethodHandle" ∧ yX7_undo.cls ≠ "java/lang/invoke/VarHandle" ∧ (parseMethodDescriptor yX7_undo.desc).map (fun d => d.parameters.length) = some 0 := by decide +kernel
theorem i_X7_undo_X7 : ∀ w ∈ u_ws RX7 TX7 22, w ∈ wsX7_undo := fun _ h => List.mem_cons_of_mem _ (List.mem_append_right _ (h))
set_option maxHeartbeats 4000000 in
set_option maxRecDepth 100000 in
theorem c_X7_undo (l : Launch) (g : gG) (m0 m1 m2 m3 m4 m5 m6 m7 m8 m9 m10 m11 m12 : Nat) (now : Nat → Int32) (kept : Nat → Int32) (aside : Nat → Int32) (ik : Int32) (found : Nat → Int32) (carried : Nat → Int32) (T : Mt) (S : Ms) {r : Int32} {now' : Nat → Int32} {found' : Nat → Int32} (hf : fX7_undo now kept ik found = some (r, now', found')) : Ct l yX7_undo wsX7_undo (rmm 1 22) g (wM g m0 m1 m2 m3 m4 m5 m6 m7 m8 m9 m10 m11 m12 now kept aside ik found carried T S) (wM g m0 m1 m2 m3 m4 m5 m6 m7 m8 m9 m10 m11 m12 (now') kept aside ik (found') carried T S) [.ref m0] (some (.int r)) := by
  refine Ct.mk (by decide) rfl (Nat.le_of_ble_eq_true rfl) ?_
  intro p e s m args below meth c A ls hx hb hr hml hts hown hlocks hA hE hP hD hS hl hAe
  obtain ⟨Qx, hQ⟩ : ∃ Qx : State → Prop, Qx = MQ below (QcG g (wM g m0 m1 m2 m3 m4 m5 m6 m7 m8 m9 m10 m11 m12 now kept aside ik found carried T S) (wM g m0 m1 m2 m3 m4 m5 m6 m7 m8 m9 m10 m11 m12 (now') kept aside ik (found') carried T S) (some (.int r)) s.heap.size) args s 0 0 A := ⟨_, rfl⟩
  rw [← hQ]
  have hown : s.vm.findClass RX7 = some m.cls := hown
  have hl : lv_has ls 1 [(0, .ref m0)] := hl
  have w1 := hts (.fieldLink RX7 326 "RainVaultModel" "isKept" "Z") (List.mem_of_getElem? (i := 1) rfl)
  have w2 := hts (.fieldLink RX7 13 "RainVaultModel" "kept" "[I") (List.mem_of_getElem? (i := 3) rfl)
  have w3 := hts (.fieldLink RX7 9 "RainVaultModel" "now" "[I") (List.mem_of_getElem? (i := 4) rfl)
  have w4 := hts (.constant RX7 190 (-1000004)) (List.mem_of_getElem? (i := 2) rfl)
  unfold fX7_undo at hf
  refine lv_aload_n hx hb dX7_undo_0 rfl (lv_at hl 0 rfl) ?_
  refine va_get (D := g.1) (ci := 7) (v := .int ik) (C := RX7) (T := TX7) (N := 22) hx hb hts i_X7_undo_X7 hown hE.1 hP 0 rfl rfl 3 (by decide) w1 (fun _ h9 => h9) rfl dX7_undo_1 ?_
  refine lv_if_ne (tgt := 14) hx hb dX7_undo_4 (by decide) (fun hc => ?_) (fun hc => ?_)
  · have hf := if_f hf hc
    refine lv_aload_n hx hb dX7_undo_14 rfl (lv_at hl 0 rfl) ?_
    refine va_get (D := g.1) (ci := 7) (v := .ref m2) (C := RX7) (T := TX7) (N := 22) hx hb hts i_X7_undo_X7 hown hE.1 hP 0 rfl rfl 1 (by decide) w2 (fun _ h9 => h9) rfl dX7_undo_15 ?_
    refine lv_aload_n hx hb dX7_undo_18 rfl (lv_at hl 0 rfl) ?_
    refine va_get (D := g.1) (ci := 7) (v := .ref m1) (C := RX7) (T := TX7) (N := 22) hx hb hts i_X7_undo_X7 hown hE.1 hP 0 rfl rfl 0 (by decide) w3 (fun _ h9 => h9) rfl dX7_undo_19 ?_
    obtain ⟨f2101, hg, hf⟩ := o1_s hf
    refine Ct.callS (ws' := wM g m0 m1 m2 m3 m4 m5 m6 m7 m8 m9 m10 m11 m12 f2101 kept aside ik found carried T S) (As := [.ref m2, .ref m1]) (rest := []) (st1 := []) (c_X7_copyRow l g m2 m1 120 kept now hg) (va_cwS 2 hts gX7_undo_X7_copyRow rfl rfl rfl q_X7_copyRow.2 ⟨Nat.le_of_ble_eq_true rfl, Nat.le_of_ble_eq_true rfl⟩) ⟨hx, hb, hml, hown, hts⟩ hE hP hD hS hA [2, 1] rfl rfl rfl rfl rfl hl.1 rfl rfl (Nat.le_of_ble_eq_true rfl) dX7_undo_22 (fun H locs hP hD hS => ?_)
    refine lv_aload_n hx hb dX7_undo_25 rfl (lv_at hl 0 rfl) ?_
    refine va_get (D := g.1) (ci := 7) (v := .ref m1) (C := RX7) (T := TX7) (N := 22) hx hb hts i_X7_undo_X7 hown hE.1 hP 0 rfl rfl 0 (by decide) w3 (fun _ h9 => h9) rfl dX7_undo_26 ?_
    refine lv_iconst (v := (0 : Int32)) hx hb dX7_undo_29 (by decide) ?_
    obtain ⟨x102, ex, hin, hf⟩ := rd_s hf
    refine st_iald (f := f2101) hx hb hE.1 hP 1 0 rfl rfl hin ex dX7_undo_30 ?_
    obtain ⟨rfl, rfl, rfl⟩ := some_p3 hf
    rw [hQ]; exact Ct.iret hx hb hr hlocks hAe hP hD hS dX7_undo_31
  · have hf := if_t hf hc
    refine lv_aload_n hx hb dX7_undo_7 rfl (lv_at hl 0 rfl) ?_
    refine lv_ldc hx hb hown w4 dX7_undo_8 ?_
    obtain ⟨x103, found104, hg, hf⟩ := o2_s hf
    refine Ct.callV0 (ws' := wM g m0 m1 m2 m3 m4 m5 m6 m7 m8 m9 m10 m11 m12 now kept aside ik found104 carried T S) (As := [.int (-1000004 : Int32)]) (rest := []) (st1 := [.int x103]) (c_X7_finding l g m0 m1 m2 m3 m4 m5 m6 m7 m8 m9 m10 m11 m12 now kept aside ik found carried T S (-1000004 : Int32) hg) (cwV 1 hts gX7_undo_X7_finding rfl rfl rfl q_X7_finding ⟨Nat.le_of_ble_eq_true rfl, Nat.le_of_ble_eq_true rfl⟩) ⟨hx, hb, hml, hown, hts⟩ hE hP hD hS hA 7 0 rfl rfl rfl rfl hl.1 rfl rfl (Nat.le_of_ble_eq_true rfl) dX7_undo_10 (fun H locs hP hD hS => ?_)
    obtain ⟨rfl, rfl, rfl⟩ := some_p3 hf
    rw [hQ]; exact Ct.iret hx hb hr hlocks hAe hP hD hS dX7_undo_13
def fX7_tear (ik : Int32) : Option (Int32 × Int32) := if ik = 0 then (some ((0 : Int32), (0 : Int32))) else (some ((1 : Int32), (0 : Int32)))
theorem q_X7_tear : yX7_tear.cls = RX7 ∧ yX7_tear.cls ≠ "java/lang/invoke/MethodHandle" ∧ yX7_tear.cls ≠ "java/lang/invoke/VarHandle" ∧ (parseMethodDescriptor yX7_tear.desc).map (fun d => d.parameters.length) = some 0 := by decide +kernel
theorem i_X7_tear_X7 : ∀ w ∈ u_ws RX7 TX7 22, w ∈ wsX7_tear := fun _ h => List.mem_cons_of_mem _ (List.mem_append_right _ (h))
set_option maxHeartbeats 4000000 in
set_option maxRecDepth 100000 in
theorem c_X7_tear (l : Launch) (g : gG) (m0 m1 m2 m3 m4 m5 m6 m7 m8 m9 m10 m11 m12 : Nat) (now : Nat → Int32) (kept : Nat → Int32) (aside : Nat → Int32) (ik : Int32) (found : Nat → Int32) (carried : Nat → Int32) (T : Mt) (S : Ms) {r : Int32} {ik' : Int32} (hf : fX7_tear ik = some (r, ik')) : Ct l yX7_tear wsX7_tear (rmm 0 0) g (wM g m0 m1 m2 m3 m4 m5 m6 m7 m8 m9 m10 m11 m12 now kept aside ik found carried T S) (wM g m0 m1 m2 m3 m4 m5 m6 m7 m8 m9 m10 m11 m12 now kept aside (ik') found carried T S) [.ref m0] (some (.int r)) := by
  refine Ct.mk (by decide) rfl (Nat.le_of_ble_eq_true rfl) ?_
  intro p e s m args below meth c A ls hx hb hr hml hts hown hlocks hA hE hP hD hS hl hAe
  obtain ⟨Qx, hQ⟩ : ∃ Qx : State → Prop, Qx = MQ below (QcG g (wM g m0 m1 m2 m3 m4 m5 m6 m7 m8 m9 m10 m11 m12 now kept aside ik found carried T S) (wM g m0 m1 m2 m3 m4 m5 m6 m7 m8 m9 m10 m11 m12 now kept aside (ik') found carried T S) (some (.int r)) s.heap.size) args s 0 0 A := ⟨_, rfl⟩
  rw [← hQ]
  have hown : s.vm.findClass RX7 = some m.cls := hown
  have hl : lv_has ls 2 [(0, .ref m0)] := hl
  have w1 := hts (.fieldLink RX7 326 "RainVaultModel" "isKept" "Z") (List.mem_of_getElem? (i := 1) rfl)
  unfold fX7_tear at hf
  refine lv_aload_n hx hb dX7_tear_0 rfl (lv_at hl 0 rfl) ?_
  refine va_get (D := g.1) (ci := 7) (v := .int ik) (C := RX7) (T := TX7) (N := 22) hx hb hts i_X7_tear_X7 hown hE.1 hP 0 rfl rfl 3 (by decide) w1 (fun _ h9 => h9) rfl dX7_tear_1 ?_
  refine lv_if_eq (tgt := 11) hx hb dX7_tear_4 (by decide) (fun hc => ?_) (fun hc => ?_)
  · have hf := if_t hf hc
    refine lv_iconst (v := (0 : Int32)) hx hb dX7_tear_11 (by decide) ?_
    refine lv_istore_n (lv' := [(1, .int (0 : Int32)), (0, .ref m0)]) hx hb dX7_tear_12 rfl hl (by decide) rfl (fun ls hl => ?_)
    refine lv_aload_n hx hb dX7_tear_13 rfl (lv_at hl 1 rfl) ?_
    refine lv_iconst (v := (0 : Int32)) hx hb dX7_tear_14 (by decide) ?_
    refine va_put (D := g.1) (ci := 7) (v := .int (0 : Int32)) (ty := .boolean) (C := RX7) (T := TX7) (N := 22) hx hb hts i_X7_tear_X7 tyX7 tyX7_ok nmX7 hown hE.1 hP hD hS 0 rfl rfl 3 (by decide) w1 (fun _ h9 => h9) rfl (by decide +kernel) rfl rfl (Nat.le_of_ble_eq_true rfl) dX7_tear_15 (fun H locs hP hD hS => ?_)
    have hP : va_P g.1 vwK (wM g m0 m1 m2 m3 m4 m5 m6 m7 m8 m9 m10 m11 m12 now kept aside (0 : Int32) found carried T S) H := hP
    have hD : va_D A (wM g m0 m1 m2 m3 m4 m5 m6 m7 m8 m9 m10 m11 m12 now kept aside (0 : Int32) found carried T S) := hD
    refine lv_iload_n hx hb dX7_tear_18 rfl (lv_at hl 0 rfl) ?_
    obtain ⟨rfl, rfl⟩ := some_p2 hf
    rw [hQ]; exact Ct.iret hx hb hr hlocks hAe hP hD hS dX7_tear_19
  · have hf := if_f hf hc
    refine lv_iconst (v := (1 : Int32)) hx hb dX7_tear_7 (by decide) ?_
    refine lv_goto (tgt := 12) hx hb dX7_tear_8 (by decide) ?_
    refine lv_istore_n (lv' := [(1, .int (1 : Int32)), (0, .ref m0)]) hx hb dX7_tear_12 rfl hl (by decide) rfl (fun ls hl => ?_)
    refine lv_aload_n hx hb dX7_tear_13 rfl (lv_at hl 1 rfl) ?_
    refine lv_iconst (v := (0 : Int32)) hx hb dX7_tear_14 (by decide) ?_
    refine va_put (D := g.1) (ci := 7) (v := .int (0 : Int32)) (ty := .boolean) (C := RX7) (T := TX7) (N := 22) hx hb hts i_X7_tear_X7 tyX7 tyX7_ok nmX7 hown hE.1 hP hD hS 0 rfl rfl 3 (by decide) w1 (fun _ h9 => h9) rfl (by decide +kernel) rfl rfl (Nat.le_of_ble_eq_true rfl) dX7_tear_15 (fun H locs hP hD hS => ?_)
    have hP : va_P g.1 vwK (wM g m0 m1 m2 m3 m4 m5 m6 m7 m8 m9 m10 m11 m12 now kept aside (0 : Int32) found carried T S) H := hP
    have hD : va_D A (wM g m0 m1 m2 m3 m4 m5 m6 m7 m8 m9 m10 m11 m12 now kept aside (0 : Int32) found carried T S) := hD
    refine lv_iload_n hx hb dX7_tear_18 rfl (lv_at hl 0 rfl) ?_
    obtain ⟨rfl, rfl⟩ := some_p2 hf
    rw [hQ]; exact Ct.iret hx hb hr hlocks hAe hP hD hS dX7_tear_19
def fX7_count_L95 (now : Nat → Int32) (kx : Int32 → Option (Int32 × (Nat → Int32))) : Nat → Int32 → Int32 → Option (Int32 × (Nat → Int32))
  | 0, _, _ => none
  | k + 1, x2, x3 => if (10 : Int32) ≤ x3 then (kx x2) else (rd now 120 ((6 : Int32) + x3) (fun x108 => if 0 ≤ x108 then (fX7_count_L95 now kx k (x2 + (1 : Int32)) (x3 + (1 : Int32))) else (fX7_count_L95 now kx k (x2 + (0 : Int32)) (x3 + (1 : Int32)))))
def fX7_count (now : Nat → Int32) (found : Nat → Int32) (T : Mt) (a1 : Int32) : Option (Int32 × (Nat → Int32)) := if a1 = (0 : Int32) then (rd now 120 (0 : Int32) (fun x101 => some (x101, found))) else (if a1 = (1 : Int32) then (rd now 120 (2 : Int32) (fun x102 => some (x102, found))) else (if a1 = (2 : Int32) then (rd now 120 (3 : Int32) (fun x103 => some (x103, found))) else (if a1 = (3 : Int32) then (o1 (fX7_levels now) (fun x104 => some (x104, found))) else (if a1 = (4 : Int32) then (rd now 120 (4 : Int32) (fun x105 => some (x105, found))) else (if a1 = (5 : Int32) then (some (T.2.2.1, found)) else (if a1 = (6 : Int32) then (rd now 120 (5 : Int32) (fun x106 => some (x106, found))) else (if a1 = (7 : Int32) then (fX7_count_L95 now (fun x109 => some (x109, found)) fu (0 : Int32) (0 : Int32)) else (o2 (fX7_finding found (-1000001 : Int32)) (fun x110 found111 => some (x110, found111))))))))))
theorem q_X7_count : yX7_count.cls = RX7 ∧ yX7_count.cls ≠ "java/lang/invoke/MethodHandle" ∧ yX7_count.cls ≠ "java/lang/invoke/VarHandle" ∧ (parseMethodDescriptor yX7_count.desc).map (fun d => d.parameters.length) = some 1 := by decide +kernel
theorem i_X7_count_X7 : ∀ w ∈ u_ws RX7 TX7 22, w ∈ wsX7_count := fun _ h => List.mem_cons_of_mem _ (List.mem_append_right _ (h))
set_option maxHeartbeats 4000000 in
set_option maxRecDepth 100000 in
theorem c_X7_count (l : Launch) (g : gG) (m0 m1 m2 m3 m4 m5 m6 m7 m8 m9 m10 m11 m12 : Nat) (now : Nat → Int32) (kept : Nat → Int32) (aside : Nat → Int32) (ik : Int32) (found : Nat → Int32) (carried : Nat → Int32) (T : Mt) (S : Ms) (a1 : Int32) {r : Int32} {found' : Nat → Int32} (hf : fX7_count now found T a1 = some (r, found')) : Ct l yX7_count wsX7_count (rmm 3 65) g (wM g m0 m1 m2 m3 m4 m5 m6 m7 m8 m9 m10 m11 m12 now kept aside ik found carried T S) (wM g m0 m1 m2 m3 m4 m5 m6 m7 m8 m9 m10 m11 m12 now kept aside ik (found') carried T S) [.ref m0, .int a1] (some (.int r)) := by
  refine Ct.mk (by decide) rfl (Nat.le_of_ble_eq_true rfl) ?_
  intro p e s m args below meth c A ls hx hb hr hml hts hown hlocks hA hE hP hD hS hl hAe
  obtain ⟨Qx, hQ⟩ : ∃ Qx : State → Prop, Qx = MQ below (QcG g (wM g m0 m1 m2 m3 m4 m5 m6 m7 m8 m9 m10 m11 m12 now kept aside ik found carried T S) (wM g m0 m1 m2 m3 m4 m5 m6 m7 m8 m9 m10 m11 m12 now kept aside ik (found') carried T S) (some (.int r)) s.heap.size) args s 0 0 A := ⟨_, rfl⟩
  rw [← hQ]
  have hown : s.vm.findClass RX7 = some m.cls := hown
  have hl : lv_has ls 4 [(0, .ref m0), (1, .int a1)] := hl
  have w1 := hts (.fieldLink RX7 9 "RainVaultModel" "now" "[I") (List.mem_of_getElem? (i := 1) rfl)
  have w2 := hts (.fieldLink RX7 225 "RainVaultModel" "taped" "I") (List.mem_of_getElem? (i := 2) rfl)
  have w3 := hts (.constant RX7 63 (-1000001)) (List.mem_of_getElem? (i := 3) rfl)
  have L95 : ∀ (found : Nat → Int32) (kx : Int32 → Option (Int32 × (Nat → Int32))) (k : Nat) (x2 : Int32) (x3 : Int32) (H : Heap) (locs : List Loc) (ls : Array Slot), fX7_count_L95 now kx k x2 x3 = some (r, found') → va_P g.1 vwK (wM g m0 m1 m2 m3 m4 m5 m6 m7 m8 m9 m10 m11 m12 now kept aside ik found carried T S) H → va_D A (wM g m0 m1 m2 m3 m4 m5 m6 m7 m8 m9 m10 m11 m12 now kept aside ik found carried T S) → va_S A s.heap H locs → lv_has ls 4 [(0, .ref m0), (2, .int x2), (3, .int x3)] → (∀ (x2 : Int32) (H : Heap) (locs : List Loc) (ls : Array Slot), kx x2 = some (r, found') → va_P g.1 vwK (wM g m0 m1 m2 m3 m4 m5 m6 m7 m8 m9 m10 m11 m12 now kept aside ik found carried T S) H → va_D A (wM g m0 m1 m2 m3 m4 m5 m6 m7 m8 m9 m10 m11 m12 now kept aside ik found carried T S) → va_S A s.heap H locs → lv_has ls 4 [(2, .int x2)] → W p l e (rmm 3 65) s m args below meth c H locs 0 0 Qx (F0 m 127 ls [])) → W p l e (rmm 3 65) s m args below meth c H locs 0 0 Qx (F0 m 95 ls []) := by
    intro found kx k
    induction k with
    | zero => intro x2 x3 H locs ls hf; exact nomatch (show (none : Option (Int32 × (Nat → Int32))) = some _ from hf)
    | succ k ih =>
      intro x2 x3 H locs ls hf hP hD hS hl hk
      rw [fX7_count_L95] at hf
      refine lv_iload_n hx hb dX7_count_95 rfl (lv_at hl 2 rfl) ?_
      refine lv_bipush (v := (10 : Int32)) hx hb dX7_count_96 (by decide) ?_
      refine lv_icmp_ge (tgt := 127) hx hb dX7_count_98 (by decide) (fun hc => ?_) (fun hc => ?_)
      · have hf := if_t hf hc
        exact hk _ _ _ _  hf hP hD hS (lv_sub hl [1] rfl)
      · have hf := if_f hf hc
        refine lv_iload_n hx hb dX7_count_101 rfl (lv_at hl 1 rfl) ?_
        refine lv_aload_n hx hb dX7_count_102 rfl (lv_at hl 0 rfl) ?_
        refine va_get (D := g.1) (ci := 7) (v := .ref m1) (C := RX7) (T := TX7) (N := 22) hx hb hts i_X7_count_X7 hown hE.1 hP 0 rfl rfl 0 (by decide) w1 (fun _ h9 => h9) rfl dX7_count_103 ?_
        refine lv_bipush (v := (6 : Int32)) hx hb dX7_count_106 (by decide) ?_
        refine lv_iload_n hx hb dX7_count_108 rfl (lv_at hl 2 rfl) ?_
        refine lv_iadd hx hb dX7_count_109 ?_
        obtain ⟨x108, ex, hin, hf⟩ := rd_s hf
        refine st_iald (f := now) hx hb hE.1 hP 1 0 rfl rfl hin ex dX7_count_110 ?_
        refine lv_if_ge (tgt := 118) hx hb dX7_count_111 (by decide) (fun hc => ?_) (fun hc => ?_)
        · have hf := if_t hf hc
          refine lv_iconst (v := (1 : Int32)) hx hb dX7_count_118 (by decide) ?_
          refine lv_iadd hx hb dX7_count_119 ?_
          refine lv_istore_n (lv' := [(2, .int (x2 + (1 : Int32))), (0, .ref m0), (3, .int x3)]) hx hb dX7_count_120 rfl hl (by decide) rfl (fun ls hl => ?_)
          refine lv_iinc (v := (x3 + (1 : Int32))) (lv' := [(3, .int (x3 + (1 : Int32))), (2, .int (x2 + (1 : Int32))), (0, .ref m0)]) hx hb dX7_count_121 hl (k := 2) rfl rfl (by decide) rfl (fun ls hl => ?_)
          refine lv_goto (tgt := 95) hx hb dX7_count_124 (by decide) ?_
          exact ih _ _ _ _ _  hf hP hD hS (lv_sub hl [2, 1, 0] rfl) hk
        · have hf := if_f hf hc
          refine lv_iconst (v := (0 : Int32)) hx hb dX7_count_114 (by decide) ?_
          refine lv_goto (tgt := 119) hx hb dX7_count_115 (by decide) ?_
          refine lv_iadd hx hb dX7_count_119 ?_
          refine lv_istore_n (lv' := [(2, .int (x2 + (0 : Int32))), (0, .ref m0), (3, .int x3)]) hx hb dX7_count_120 rfl hl (by decide) rfl (fun ls hl => ?_)
          refine lv_iinc (v := (x3 + (1 : Int32))) (lv' := [(3, .int (x3 + (1 : Int32))), (2, .int (x2 + (0 : Int32))), (0, .ref m0)]) hx hb dX7_count_121 hl (k := 2) rfl rfl (by decide) rfl (fun ls hl => ?_)
          refine lv_goto (tgt := 95) hx hb dX7_count_124 (by decide) ?_
          exact ih _ _ _ _ _  hf hP hD hS (lv_sub hl [2, 1, 0] rfl) hk
  unfold fX7_count at hf
  refine lv_iconst (v := (0 : Int32)) hx hb dX7_count_0 (by decide) ?_
  refine lv_istore_n (lv' := [(2, .int (0 : Int32)), (0, .ref m0), (1, .int a1)]) hx hb dX7_count_1 rfl hl (by decide) rfl (fun ls hl => ?_)
  refine lv_iload_n hx hb dX7_count_2 rfl (lv_at hl 2 rfl) ?_
  by_cases hc0 : a1 = (0 : Int32)
  · have hf := if_t hf hc0
    refine lv_tableIn (off := 45) (tgt := 48) hx hb dX7_count_3 (ts_in _ hc0 (by decide)) (ts_hi _ hc0 (by decide)) (ts_of _ hc0 (by decide)) (by decide) ?_
    refine lv_aload_n hx hb dX7_count_48 rfl (lv_at hl 1 rfl) ?_
    refine va_get (D := g.1) (ci := 7) (v := .ref m1) (C := RX7) (T := TX7) (N := 22) hx hb hts i_X7_count_X7 hown hE.1 hP 0 rfl rfl 0 (by decide) w1 (fun _ h9 => h9) rfl dX7_count_49 ?_
    refine lv_iconst (v := (0 : Int32)) hx hb dX7_count_52 (by decide) ?_
    obtain ⟨x101, ex, hin, hf⟩ := rd_s hf
    refine st_iald (f := now) hx hb hE.1 hP 1 0 rfl rfl hin ex dX7_count_53 ?_
    obtain ⟨rfl, rfl⟩ := some_p2 hf
    rw [hQ]; exact Ct.iret hx hb hr hlocks hAe hP hD hS dX7_count_54
  · have hf := if_f hf hc0
    by_cases hc1 : a1 = (1 : Int32)
    · have hf := if_t hf hc1
      refine lv_tableIn (off := 52) (tgt := 55) hx hb dX7_count_3 (ts_in _ hc1 (by decide)) (ts_hi _ hc1 (by decide)) (ts_of _ hc1 (by decide)) (by decide) ?_
      refine lv_aload_n hx hb dX7_count_55 rfl (lv_at hl 1 rfl) ?_
      refine va_get (D := g.1) (ci := 7) (v := .ref m1) (C := RX7) (T := TX7) (N := 22) hx hb hts i_X7_count_X7 hown hE.1 hP 0 rfl rfl 0 (by decide) w1 (fun _ h9 => h9) rfl dX7_count_56 ?_
      refine lv_iconst (v := (2 : Int32)) hx hb dX7_count_59 (by decide) ?_
      obtain ⟨x102, ex, hin, hf⟩ := rd_s hf
      refine st_iald (f := now) hx hb hE.1 hP 1 0 rfl rfl hin ex dX7_count_60 ?_
      obtain ⟨rfl, rfl⟩ := some_p2 hf
      rw [hQ]; exact Ct.iret hx hb hr hlocks hAe hP hD hS dX7_count_61
    · have hf := if_f hf hc1
      by_cases hc2 : a1 = (2 : Int32)
      · have hf := if_t hf hc2
        refine lv_tableIn (off := 59) (tgt := 62) hx hb dX7_count_3 (ts_in _ hc2 (by decide)) (ts_hi _ hc2 (by decide)) (ts_of _ hc2 (by decide)) (by decide) ?_
        refine lv_aload_n hx hb dX7_count_62 rfl (lv_at hl 1 rfl) ?_
        refine va_get (D := g.1) (ci := 7) (v := .ref m1) (C := RX7) (T := TX7) (N := 22) hx hb hts i_X7_count_X7 hown hE.1 hP 0 rfl rfl 0 (by decide) w1 (fun _ h9 => h9) rfl dX7_count_63 ?_
        refine lv_iconst (v := (3 : Int32)) hx hb dX7_count_66 (by decide) ?_
        obtain ⟨x103, ex, hin, hf⟩ := rd_s hf
        refine st_iald (f := now) hx hb hE.1 hP 1 0 rfl rfl hin ex dX7_count_67 ?_
        obtain ⟨rfl, rfl⟩ := some_p2 hf
        rw [hQ]; exact Ct.iret hx hb hr hlocks hAe hP hD hS dX7_count_68
      · have hf := if_f hf hc2
        by_cases hc3 : a1 = (3 : Int32)
        · have hf := if_t hf hc3
          refine lv_tableIn (off := 66) (tgt := 69) hx hb dX7_count_3 (ts_in _ hc3 (by decide)) (ts_hi _ hc3 (by decide)) (ts_of _ hc3 (by decide)) (by decide) ?_
          refine lv_aload_n hx hb dX7_count_69 rfl (lv_at hl 1 rfl) ?_
          obtain ⟨x104, hg, hf⟩ := o1_s hf
          refine Ct.callV0 (ws' := wM g m0 m1 m2 m3 m4 m5 m6 m7 m8 m9 m10 m11 m12 now kept aside ik found carried T S) (As := []) (rest := []) (st1 := [.int x104]) (c_X7_levels l g m0 m1 m2 m3 m4 m5 m6 m7 m8 m9 m10 m11 m12 now kept aside ik found carried T S hg) (cwV 0 hts gX7_count_X7_levels rfl rfl rfl q_X7_levels ⟨Nat.le_of_ble_eq_true rfl, Nat.le_of_ble_eq_true rfl⟩) ⟨hx, hb, hml, hown, hts⟩ hE hP hD hS hA 7 0 rfl rfl rfl rfl hl.1 rfl rfl (Nat.le_of_ble_eq_true rfl) dX7_count_70 (fun H locs hP hD hS => ?_)
          obtain ⟨rfl, rfl⟩ := some_p2 hf
          rw [hQ]; exact Ct.iret hx hb hr hlocks hAe hP hD hS dX7_count_73
        · have hf := if_f hf hc3
          by_cases hc4 : a1 = (4 : Int32)
          · have hf := if_t hf hc4
            refine lv_tableIn (off := 71) (tgt := 74) hx hb dX7_count_3 (ts_in _ hc4 (by decide)) (ts_hi _ hc4 (by decide)) (ts_of _ hc4 (by decide)) (by decide) ?_
            refine lv_aload_n hx hb dX7_count_74 rfl (lv_at hl 1 rfl) ?_
            refine va_get (D := g.1) (ci := 7) (v := .ref m1) (C := RX7) (T := TX7) (N := 22) hx hb hts i_X7_count_X7 hown hE.1 hP 0 rfl rfl 0 (by decide) w1 (fun _ h9 => h9) rfl dX7_count_75 ?_
            refine lv_iconst (v := (4 : Int32)) hx hb dX7_count_78 (by decide) ?_
            obtain ⟨x105, ex, hin, hf⟩ := rd_s hf
            refine st_iald (f := now) hx hb hE.1 hP 1 0 rfl rfl hin ex dX7_count_79 ?_
            obtain ⟨rfl, rfl⟩ := some_p2 hf
            rw [hQ]; exact Ct.iret hx hb hr hlocks hAe hP hD hS dX7_count_80
          · have hf := if_f hf hc4
            by_cases hc5 : a1 = (5 : Int32)
            · have hf := if_t hf hc5
              refine lv_tableIn (off := 78) (tgt := 81) hx hb dX7_count_3 (ts_in _ hc5 (by decide)) (ts_hi _ hc5 (by decide)) (ts_of _ hc5 (by decide)) (by decide) ?_
              refine lv_aload_n hx hb dX7_count_81 rfl (lv_at hl 1 rfl) ?_
              refine va_get (D := g.1) (ci := 7) (v := .int T.2.2.1) (C := RX7) (T := TX7) (N := 22) hx hb hts i_X7_count_X7 hown hE.1 hP 0 rfl rfl 7 (by decide) w2 (fun _ h9 => h9) rfl dX7_count_82 ?_
              obtain ⟨rfl, rfl⟩ := some_p2 hf
              rw [hQ]; exact Ct.iret hx hb hr hlocks hAe hP hD hS dX7_count_85
            · have hf := if_f hf hc5
              by_cases hc6 : a1 = (6 : Int32)
              · have hf := if_t hf hc6
                refine lv_tableIn (off := 83) (tgt := 86) hx hb dX7_count_3 (ts_in _ hc6 (by decide)) (ts_hi _ hc6 (by decide)) (ts_of _ hc6 (by decide)) (by decide) ?_
                refine lv_aload_n hx hb dX7_count_86 rfl (lv_at hl 1 rfl) ?_
                refine va_get (D := g.1) (ci := 7) (v := .ref m1) (C := RX7) (T := TX7) (N := 22) hx hb hts i_X7_count_X7 hown hE.1 hP 0 rfl rfl 0 (by decide) w1 (fun _ h9 => h9) rfl dX7_count_87 ?_
                refine lv_iconst (v := (5 : Int32)) hx hb dX7_count_90 (by decide) ?_
                obtain ⟨x106, ex, hin, hf⟩ := rd_s hf
                refine st_iald (f := now) hx hb hE.1 hP 1 0 rfl rfl hin ex dX7_count_91 ?_
                obtain ⟨rfl, rfl⟩ := some_p2 hf
                rw [hQ]; exact Ct.iret hx hb hr hlocks hAe hP hD hS dX7_count_92
              · have hf := if_f hf hc6
                by_cases hc7 : a1 = (7 : Int32)
                · have hf := if_t hf hc7
                  refine lv_tableIn (off := 90) (tgt := 93) hx hb dX7_count_3 (ts_in _ hc7 (by decide)) (ts_hi _ hc7 (by decide)) (ts_of _ hc7 (by decide)) (by decide) ?_
                  refine lv_iconst (v := (0 : Int32)) hx hb dX7_count_93 (by decide) ?_
                  refine lv_istore_n (lv' := [(3, .int (0 : Int32)), (2, .int (0 : Int32)), (0, .ref m0), (1, .int a1)]) hx hb dX7_count_94 rfl hl (by decide) rfl (fun ls hl => ?_)
                  refine L95 _ _ _ _ _ _ _ _  hf hP hD hS (lv_sub hl [2, 1, 0] rfl) (fun x109 H locs ls hf hP hD hS hl => ?_)
                  refine lv_iload_n hx hb dX7_count_127 rfl (lv_at hl 0 rfl) ?_
                  obtain ⟨rfl, rfl⟩ := some_p2 hf
                  rw [hQ]; exact Ct.iret hx hb hr hlocks hAe hP hD hS dX7_count_128
                · have hf := if_f hf hc7
                  have hn0 := lv_neT (a := 0) hc0 (by decide)
                  have hn1 := lv_neT (a := 1) hc1 (by decide)
                  have hn2 := lv_neT (a := 2) hc2 (by decide)
                  have hn3 := lv_neT (a := 3) hc3 (by decide)
                  have hn4 := lv_neT (a := 4) hc4 (by decide)
                  have hn5 := lv_neT (a := 5) hc5 (by decide)
                  have hn6 := lv_neT (a := 6) hc6 (by decide)
                  have hn7 := lv_neT (a := 7) hc7 (by decide)
                  refine lv_tableOut (tgt := 129) hx hb dX7_count_3 (by omega) (by decide) ?_
                  refine lv_aload_n hx hb dX7_count_129 rfl (lv_at hl 1 rfl) ?_
                  refine lv_ldc hx hb hown w3 dX7_count_130 ?_
                  obtain ⟨x110, found111, hg, hf⟩ := o2_s hf
                  refine Ct.callV0 (ws' := wM g m0 m1 m2 m3 m4 m5 m6 m7 m8 m9 m10 m11 m12 now kept aside ik found111 carried T S) (As := [.int (-1000001 : Int32)]) (rest := []) (st1 := [.int x110]) (c_X7_finding l g m0 m1 m2 m3 m4 m5 m6 m7 m8 m9 m10 m11 m12 now kept aside ik found carried T S (-1000001 : Int32) hg) (cwV 1 hts gX7_count_X7_finding rfl rfl rfl q_X7_finding ⟨Nat.le_of_ble_eq_true rfl, Nat.le_of_ble_eq_true rfl⟩) ⟨hx, hb, hml, hown, hts⟩ hE hP hD hS hA 7 0 rfl rfl rfl rfl hl.1 rfl rfl (Nat.le_of_ble_eq_true rfl) dX7_count_132 (fun H locs hP hD hS => ?_)
                  obtain ⟨rfl, rfl⟩ := some_p2 hf
                  rw [hQ]; exact Ct.iret hx hb hr hlocks hAe hP hD hS dX7_count_135
def fX7_status (found : Nat → Int32) (a1 : Int32) : Option (Int32 × (Nat → Int32)) := o1 (fX7_within a1 (-1 : Int32) (6 : Int32)) (fun x101 => if x101 = 0 then (o2 (fX7_finding found (-1000001 : Int32)) (fun x102 found103 => some (x102, found103))) else (rd found 8 (a1 + (1 : Int32)) (fun x104 => some (x104, found))))
theorem q_X7_status : yX7_status.cls = RX7 ∧ yX7_status.cls ≠ "java/lang/invoke/MethodHandle" ∧ yX7_status.cls ≠ "java/lang/invoke/VarHandle" ∧ (parseMethodDescriptor yX7_status.desc).map (fun d => d.parameters.length) = some 1 := by decide +kernel
theorem i_X7_status_X7 : ∀ w ∈ u_ws RX7 TX7 22, w ∈ wsX7_status := fun _ h => List.mem_cons_of_mem _ (List.mem_append_right _ (h))
set_option maxHeartbeats 4000000 in
set_option maxRecDepth 100000 in
theorem c_X7_status (l : Launch) (g : gG) (m0 m1 m2 m3 m4 m5 m6 m7 m8 m9 m10 m11 m12 : Nat) (now : Nat → Int32) (kept : Nat → Int32) (aside : Nat → Int32) (ik : Int32) (found : Nat → Int32) (carried : Nat → Int32) (T : Mt) (S : Ms) (a1 : Int32) {r : Int32} {found' : Nat → Int32} (hf : fX7_status found a1 = some (r, found')) : Ct l yX7_status wsX7_status (rmm 1 22) g (wM g m0 m1 m2 m3 m4 m5 m6 m7 m8 m9 m10 m11 m12 now kept aside ik found carried T S) (wM g m0 m1 m2 m3 m4 m5 m6 m7 m8 m9 m10 m11 m12 now kept aside ik (found') carried T S) [.ref m0, .int a1] (some (.int r)) := by
  refine Ct.mk (by decide) rfl (Nat.le_of_ble_eq_true rfl) ?_
  intro p e s m args below meth c A ls hx hb hr hml hts hown hlocks hA hE hP hD hS hl hAe
  obtain ⟨Qx, hQ⟩ : ∃ Qx : State → Prop, Qx = MQ below (QcG g (wM g m0 m1 m2 m3 m4 m5 m6 m7 m8 m9 m10 m11 m12 now kept aside ik found carried T S) (wM g m0 m1 m2 m3 m4 m5 m6 m7 m8 m9 m10 m11 m12 now kept aside ik (found') carried T S) (some (.int r)) s.heap.size) args s 0 0 A := ⟨_, rfl⟩
  rw [← hQ]
  have hown : s.vm.findClass RX7 = some m.cls := hown
  have hl : lv_has ls 2 [(0, .ref m0), (1, .int a1)] := hl
  have w1 := hts (.constant RX7 63 (-1000001)) (List.mem_of_getElem? (i := 2) rfl)
  have w2 := hts (.fieldLink RX7 19 "RainVaultModel" "found" "[I") (List.mem_of_getElem? (i := 1) rfl)
  unfold fX7_status at hf
  refine lv_iload_n hx hb dX7_status_0 rfl (lv_at hl 1 rfl) ?_
  refine lv_iconst (v := (-1 : Int32)) hx hb dX7_status_1 (by decide) ?_
  refine lv_bipush (v := (6 : Int32)) hx hb dX7_status_2 (by decide) ?_
  obtain ⟨x101, hg, hf⟩ := o1_s hf
  refine Ct.callS (ws' := wM g m0 m1 m2 m3 m4 m5 m6 m7 m8 m9 m10 m11 m12 now kept aside ik found carried T S) (As := [.int a1, .int (-1 : Int32), .int (6 : Int32)]) (rest := []) (st1 := [.int x101]) (c_X7_within l g a1 (-1 : Int32) (6 : Int32) hg) (va_cwS 3 hts gX7_status_X7_within rfl rfl rfl q_X7_within.2 ⟨Nat.le_of_ble_eq_true rfl, Nat.le_of_ble_eq_true rfl⟩) ⟨hx, hb, hml, hown, hts⟩ hE hP hD hS hA [] rfl rfl rfl rfl rfl hl.1 rfl rfl (Nat.le_of_ble_eq_true rfl) dX7_status_4 (fun H locs hP hD hS => ?_)
  refine lv_if_eq (tgt := 21) hx hb dX7_status_7 (by decide) (fun hc => ?_) (fun hc => ?_)
  · have hf := if_t hf hc
    refine lv_aload_n hx hb dX7_status_21 rfl (lv_at hl 0 rfl) ?_
    refine lv_ldc hx hb hown w1 dX7_status_22 ?_
    obtain ⟨x102, found103, hg, hf⟩ := o2_s hf
    refine Ct.callV0 (ws' := wM g m0 m1 m2 m3 m4 m5 m6 m7 m8 m9 m10 m11 m12 now kept aside ik found103 carried T S) (As := [.int (-1000001 : Int32)]) (rest := []) (st1 := [.int x102]) (c_X7_finding l g m0 m1 m2 m3 m4 m5 m6 m7 m8 m9 m10 m11 m12 now kept aside ik found carried T S (-1000001 : Int32) hg) (cwV 1 hts gX7_status_X7_finding rfl rfl rfl q_X7_finding ⟨Nat.le_of_ble_eq_true rfl, Nat.le_of_ble_eq_true rfl⟩) ⟨hx, hb, hml, hown, hts⟩ hE hP hD hS hA 7 0 rfl rfl rfl rfl hl.1 rfl rfl (Nat.le_of_ble_eq_true rfl) dX7_status_24 (fun H locs hP hD hS => ?_)
    obtain ⟨rfl, rfl⟩ := some_p2 hf
    rw [hQ]; exact Ct.iret hx hb hr hlocks hAe hP hD hS dX7_status_27
  · have hf := if_f hf hc
    refine lv_aload_n hx hb dX7_status_10 rfl (lv_at hl 0 rfl) ?_
    refine va_get (D := g.1) (ci := 7) (v := .ref m4) (C := RX7) (T := TX7) (N := 22) hx hb hts i_X7_status_X7 hown hE.1 hP 0 rfl rfl 4 (by decide) w2 (fun _ h9 => h9) rfl dX7_status_11 ?_
    refine lv_iload_n hx hb dX7_status_14 rfl (lv_at hl 1 rfl) ?_
    refine lv_iconst (v := (1 : Int32)) hx hb dX7_status_15 (by decide) ?_
    refine lv_iadd hx hb dX7_status_16 ?_
    obtain ⟨x104, ex, hin, hf⟩ := rd_s hf
    refine st_iald (f := found) hx hb hE.1 hP 4 0 rfl rfl hin ex dX7_status_17 ?_
    refine lv_goto (tgt := 27) hx hb dX7_status_18 (by decide) ?_
    obtain ⟨rfl, rfl⟩ := some_p2 hf
    rw [hQ]; exact Ct.iret hx hb hr hlocks hAe hP hD hS dX7_status_27
