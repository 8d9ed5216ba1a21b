def fX7_levels_L4 (now : Nat → Int32) (kx : Int32 → Option (Int32)) : Nat → Int32 → Int32 → Option (Int32)
  | 0, _, _ => none
  | k + 1, x1, x2 => rd now 120 (2 : Int32) (fun x103 => if x103 ≤ x2 then (kx x1) else (o1 (fX7_cisternIs now x2 (2 : Int32)) (fun x104 => fX7_levels_L4 now kx k (x1 + x104) (x2 + (1 : Int32)))))
def fX7_levels (now : Nat → Int32) : Option (Int32) := fX7_levels_L4 now (fun x105 => some x105) fu (0 : Int32) (0 : Int32)
theorem q_X7_levels : yX7_levels.cls = RX7 ∧ yX7_levels.cls ≠ "java/lang/invoke/MethodHandle" ∧ yX7_levels.cls ≠ "java/lang/invoke/VarHandle" ∧ (parseMethodDescriptor yX7_levels.desc).map (fun d => d.parameters.length) = some 0 := by decide +kernel
theorem i_X7_levels_X7 : ∀ w ∈ u_ws RX7 TX7 22, w ∈ wsX7_levels := fun _ h => List.mem_cons_of_mem _ (List.mem_append_right _ (h))
set_option maxHeartbeats 4000000 in
set_option maxRecDepth 100000 in
theorem c_X7_levels (l : Launch) (g : gG) (m0 m1 m2 m3 m4 m5 m6 m7 m8 m9 m10 m11 m12 : Nat) (now : Nat → Int32) (kept : Nat → Int32) (aside : Nat → Int32) (ik : Int32) (found : Nat → Int32) (carried : Nat → Int32) (T : Mt) (S : Ms) {r : Int32} (hf : fX7_levels now = some r) : Ct l yX7_levels wsX7_levels (rmm 2 43) g (wM g m0 m1 m2 m3 m4 m5 m6 m7 m8 m9 m10 m11 m12 now kept aside ik found carried T S) (wM g m0 m1 m2 m3 m4 m5 m6 m7 m8 m9 m10 m11 m12 now kept aside ik found carried T S) [.ref m0] (some (.int r)) := by
  refine Ct.mk (by decide) rfl (Nat.le_of_ble_eq_true rfl) ?_
  intro p e s m args below meth c A ls hx hb hr hml hts hown hlocks hA hE hP hD hS hl hAe
  obtain ⟨Qx, hQ⟩ : ∃ Qx : State → Prop, Qx = MQ below (QcG g (wM g m0 m1 m2 m3 m4 m5 m6 m7 m8 m9 m10 m11 m12 now kept aside ik found carried T S) (wM g m0 m1 m2 m3 m4 m5 m6 m7 m8 m9 m10 m11 m12 now kept aside ik found carried T S) (some (.int r)) s.heap.size) args s 0 0 A := ⟨_, rfl⟩
  rw [← hQ]
  have hown : s.vm.findClass RX7 = some m.cls := hown
  have hl : lv_has ls 3 [(0, .ref m0)] := hl
  have w1 := hts (.fieldLink RX7 9 "RainVaultModel" "now" "[I") (List.mem_of_getElem? (i := 1) rfl)
  have L4 : ∀ (kx : Int32 → Option (Int32)) (k : Nat) (x1 : Int32) (x2 : Int32) (H : Heap) (locs : List Loc) (ls : Array Slot), fX7_levels_L4 now kx k x1 x2 = some r → va_P g.1 vwK (wM g m0 m1 m2 m3 m4 m5 m6 m7 m8 m9 m10 m11 m12 now kept aside ik found carried T S) H → va_D A (wM g m0 m1 m2 m3 m4 m5 m6 m7 m8 m9 m10 m11 m12 now kept aside ik found carried T S) → va_S A s.heap H locs → lv_has ls 3 [(0, .ref m0), (1, .int x1), (2, .int x2)] → (∀ (x1 : Int32) (H : Heap) (locs : List Loc) (ls : Array Slot), kx x1 = some r → va_P g.1 vwK (wM g m0 m1 m2 m3 m4 m5 m6 m7 m8 m9 m10 m11 m12 now kept aside ik found carried T S) H → va_D A (wM g m0 m1 m2 m3 m4 m5 m6 m7 m8 m9 m10 m11 m12 now kept aside ik found carried T S) → va_S A s.heap H locs → lv_has ls 3 [(1, .int x1)] → W p l e (rmm 2 43) s m args below meth c H locs 0 0 Qx (F0 m 29 ls [])) → W p l e (rmm 2 43) s m args below meth c H locs 0 0 Qx (F0 m 4 ls []) := by
    intro kx k
    induction k with
    | zero => intro x1 x2 H locs ls hf; exact nomatch (show (none : Option (Int32)) = some _ from hf)
    | succ k ih =>
      intro x1 x2 H locs ls hf hP hD hS hl hk
      rw [fX7_levels_L4] at hf
      refine lv_iload_n hx hb dX7_levels_4 rfl (lv_at hl 2 rfl) ?_
      refine lv_aload_n hx hb dX7_levels_5 rfl (lv_at hl 0 rfl) ?_
      refine va_get (D := g.1) (ci := 7) (v := .ref m1) (C := RX7) (T := TX7) (N := 22) hx hb hts i_X7_levels_X7 hown hE.1 hP 0 rfl rfl 0 (by decide) w1 (fun _ h9 => h9) rfl dX7_levels_6 ?_
      refine lv_iconst (v := (2 : Int32)) hx hb dX7_levels_9 (by decide) ?_
      obtain ⟨x103, ex, hin, hf⟩ := rd_s hf
      refine st_iald (f := now) hx hb hE.1 hP 1 0 rfl rfl hin ex dX7_levels_10 ?_
      refine lv_icmp_ge (tgt := 29) hx hb dX7_levels_11 (by decide) (fun hc => ?_) (fun hc => ?_)
      · have hf := if_t hf hc
        exact hk _ _ _ _  hf hP hD hS (lv_sub hl [1] rfl)
      · have hf := if_f hf hc
        refine lv_iload_n hx hb dX7_levels_14 rfl (lv_at hl 1 rfl) ?_
        refine lv_aload_n hx hb dX7_levels_15 rfl (lv_at hl 0 rfl) ?_
        refine lv_iload_n hx hb dX7_levels_16 rfl (lv_at hl 2 rfl) ?_
        refine lv_iconst (v := (2 : Int32)) hx hb dX7_levels_17 (by decide) ?_
        obtain ⟨x104, hg, hf⟩ := o1_s hf
        refine Ct.callV0 (ws' := wM g m0 m1 m2 m3 m4 m5 m6 m7 m8 m9 m10 m11 m12 now kept aside ik found carried T S) (As := [.int x2, .int (2 : Int32)]) (rest := [.int x1]) (st1 := [.int x104, .int x1]) (c_X7_cisternIs l g m0 m1 m2 m3 m4 m5 m6 m7 m8 m9 m10 m11 m12 now kept aside ik found carried T S x2 (2 : Int32) hg) (cwV 2 hts gX7_levels_X7_cisternIs rfl rfl rfl q_X7_cisternIs ⟨Nat.le_of_ble_eq_true rfl, Nat.le_of_ble_eq_true rfl⟩) ⟨hx, hb, hml, hown, hts⟩ hE hP hD hS hA 7 0 rfl rfl rfl rfl hl.1 rfl rfl (Nat.le_of_ble_eq_true rfl) dX7_levels_18 (fun H locs hP hD hS => ?_)
        refine lv_iadd hx hb dX7_levels_21 ?_
        refine lv_istore_n (lv' := [(1, .int (x1 + x104)), (0, .ref m0), (2, .int x2)]) hx hb dX7_levels_22 rfl hl (by decide) rfl (fun ls hl => ?_)
        refine lv_iinc (v := (x2 + (1 : Int32))) (lv' := [(2, .int (x2 + (1 : Int32))), (1, .int (x1 + x104)), (0, .ref m0)]) hx hb dX7_levels_23 hl (k := 2) rfl rfl (by decide) rfl (fun ls hl => ?_)
        refine lv_goto (tgt := 4) hx hb dX7_levels_26 (by decide) ?_
        exact ih _ _ _ _ _  hf hP hD hS (lv_sub hl [2, 1, 0] rfl) hk
  unfold fX7_levels at hf
  refine lv_iconst (v := (0 : Int32)) hx hb dX7_levels_0 (by decide) ?_
  refine lv_istore_n (lv' := [(1, .int (0 : Int32)), (0, .ref m0)]) hx hb dX7_levels_1 rfl hl (by decide) rfl (fun ls hl => ?_)
  refine lv_iconst (v := (0 : Int32)) hx hb dX7_levels_2 (by decide) ?_
  refine lv_istore_n (lv' := [(2, .int (0 : Int32)), (1, .int (0 : Int32)), (0, .ref m0)]) hx hb dX7_levels_3 rfl hl (by decide) rfl (fun ls hl => ?_)
  refine L4 _ _ _ _ _ _ _  hf hP hD hS (lv_sub hl [2, 1, 0] rfl) (fun x105 H locs ls hf hP hD hS hl => ?_)
  refine lv_iload_n hx hb dX7_levels_29 rfl (lv_at hl 0 rfl) ?_
  obtain rfl := Option.some.inj hf
  rw [hQ]; exact Ct.iret hx hb hr hlocks hAe hP hD hS dX7_levels_30
def fX7_ahead_J48 (now : Nat → Int32) (aside : Nat → Int32) (found : Nat → Int32) (x1 : Int32) (x2 : Int32) (x3 : Int32) (x4 : Int32) (x5 : Int32) : Option (Int32 × (Nat → Int32) × (Nat → Int32) × (Nat → Int32)) := if x5 = 0 then (o1 (fX7_copyRow 120 now) (fun f2106 => o2 (fX7_hoursGo now x1 x2 x3) (fun x107 now108 => rd now108 120 (4 : Int32) (fun x109 => rd f2106 120 (4 : Int32) (fun x110 => if x4 = 0 then (o1 (fX7_open now108) (fun x121 => o2 (fX7_putBack now108 f2106 x121) (fun x122 now123 => some (x122, now123, f2106, found)))) else (if x4 = (1 : Int32) then (o2 (fX7_putBack now108 f2106 x107) (fun x119 now120 => some (x119, now120, f2106, found))) else (if x4 = (2 : Int32) then (o1 (fX7_levels now108) (fun x116 => o2 (fX7_putBack now108 f2106 x116) (fun x117 now118 => some (x117, now118, f2106, found)))) else (if x4 = (3 : Int32) then (o2 (fX7_putBack now108 f2106 (x109 - x110)) (fun x114 now115 => some (x114, now115, f2106, found))) else (o1 (fX7_cisternIs now108 (x4 - (4 : Int32)) (2 : Int32)) (fun x111 => o2 (fX7_putBack now108 f2106 x111) (fun x112 now113 => some (x112, now113, f2106, found)))))))))))) else (o2 (fX7_finding found x5) (fun x124 found125 => some (x124, now, aside, found125)))
def fX7_ahead (now : Nat → Int32) (aside : Nat → Int32) (found : Nat → Int32) (a1 : Int32) (a2 : Int32) (a3 : Int32) (a4 : Int32) : Option (Int32 × (Nat → Int32) × (Nat → Int32) × (Nat → Int32)) := o1 (fX7_refuses now a1 a2 a3 (0 : Int32) (100 : Int32)) (fun x101 => if x101 = (-1000001 : Int32) then (o2 (fX7_finding found (-1000001 : Int32)) (fun x102 found103 => some (x102, now, aside, found103))) else (if a4 < 0 then (o2 (fX7_finding found (-1000001 : Int32)) (fun x104 found105 => some (x104, now, aside, found105))) else (if a4 ≤ (3 : Int32) then (fX7_ahead_J48 now aside found a1 a2 a3 a4 x101) else (o1 (fX7_isCistern now (a4 - (4 : Int32))) (fun x126 => if x126 = 0 then (o2 (fX7_finding found (-1000001 : Int32)) (fun x127 found128 => some (x127, now, aside, found128))) else (fX7_ahead_J48 now aside found a1 a2 a3 a4 x101))))))
theorem q_X7_ahead : yX7_ahead.cls = RX7 ∧ yX7_ahead.cls ≠ "java/lang/invoke/MethodHandle" ∧ yX7_ahead.cls ≠ "java/lang/invoke/VarHandle" ∧ (parseMethodDescriptor yX7_ahead.desc).map (fun d => d.parameters.length) = some 4 := by decide +kernel
theorem i_X7_ahead_X7 : ∀ w ∈ u_ws RX7 TX7 22, w ∈ wsX7_ahead := fun _ h => List.mem_cons_of_mem _ (List.mem_append_right _ (h))
set_option maxHeartbeats 4000000 in
set_option maxRecDepth 100000 in
theorem c_X7_ahead (l : Launch) (g : gG) (m0 m1 m2 m3 m4 m5 m6 m7 m8 m9 m10 m11 m12 : Nat) (now : Nat → Int32) (kept : Nat → Int32) (aside : Nat → Int32) (ik : Int32) (found : Nat → Int32) (carried : Nat → Int32) (T : Mt) (S : Ms) (a1 : Int32) (a2 : Int32) (a3 : Int32) (a4 : Int32) {r : Int32} {now' : Nat → Int32} {aside' : Nat → Int32} {found' : Nat → Int32} (hf : fX7_ahead now aside found a1 a2 a3 a4 = some (r, now', aside', found')) : Ct l yX7_ahead wsX7_ahead (rmm 9 202) g (wM g m0 m1 m2 m3 m4 m5 m6 m7 m8 m9 m10 m11 m12 now kept aside ik found carried T S) (wM g m0 m1 m2 m3 m4 m5 m6 m7 m8 m9 m10 m11 m12 (now') kept (aside') ik (found') carried T S) [.ref m0, .int a1, .int a2, .int a3, .int a4] (some (.int r)) := by
  refine Ct.mk (by decide) rfl (Nat.le_of_ble_eq_true rfl) ?_
  intro p e s m args below meth c A ls hx hb hr hml hts hown hlocks hA hE hP hD hS hl hAe
  obtain ⟨Qx, hQ⟩ : ∃ Qx : State → Prop, Qx = MQ below (QcG g (wM g m0 m1 m2 m3 m4 m5 m6 m7 m8 m9 m10 m11 m12 now kept aside ik found carried T S) (wM g m0 m1 m2 m3 m4 m5 m6 m7 m8 m9 m10 m11 m12 (now') kept (aside') ik (found') carried T S) (some (.int r)) s.heap.size) args s 0 0 A := ⟨_, rfl⟩
  rw [← hQ]
  have hown : s.vm.findClass RX7 = some m.cls := hown
  have hl : lv_has ls 8 [(0, .ref m0), (1, .int a1), (2, .int a2), (3, .int a3), (4, .int a4)] := hl
  have w1 := hts (.constant RX7 63 (-1000001)) (List.mem_of_getElem? (i := 1) rfl)
  have w2 := hts (.fieldLink RX7 9 "RainVaultModel" "now" "[I") (List.mem_of_getElem? (i := 2) rfl)
  have w3 := hts (.fieldLink RX7 16 "RainVaultModel" "aside" "[I") (List.mem_of_getElem? (i := 3) rfl)
  have J48 : ∀ (now : Nat → Int32) (aside : Nat → Int32) (found : Nat → Int32) (x1 : Int32) (x2 : Int32) (x3 : Int32) (x4 : Int32) (x5 : Int32) (H : Heap) (locs : List Loc) (ls : Array Slot), fX7_ahead_J48 now aside found x1 x2 x3 x4 x5 = some (r, now', aside', found') → va_P g.1 vwK (wM g m0 m1 m2 m3 m4 m5 m6 m7 m8 m9 m10 m11 m12 now kept aside ik found carried T S) H → va_D A (wM g m0 m1 m2 m3 m4 m5 m6 m7 m8 m9 m10 m11 m12 now kept aside ik found carried T S) → va_S A s.heap H locs → lv_has ls 8 [(0, .ref m0), (1, .int x1), (2, .int x2), (3, .int x3), (4, .int x4), (5, .int x5)] → W p l e (rmm 9 202) s m args below meth c H locs 0 0 Qx (F0 m 48 ls []) := by
    intro now aside found x1 x2 x3 x4 x5 H locs ls hf hP hD hS hl
    unfold fX7_ahead_J48 at hf
    refine lv_iload hx hb dX7_ahead_48 (lv_at hl 5 rfl) ?_
    refine lv_if_eq (tgt := 60) hx hb dX7_ahead_50 (by decide) (fun hc => ?_) (fun hc => ?_)
    · have hf := if_t hf hc
      refine lv_aload_n hx hb dX7_ahead_60 rfl (lv_at hl 0 rfl) ?_
      refine va_get (D := g.1) (ci := 7) (v := .ref m1) (C := RX7) (T := TX7) (N := 22) hx hb hts i_X7_ahead_X7 hown hE.1 hP 0 rfl rfl 0 (by decide) w2 (fun _ h9 => h9) rfl dX7_ahead_61 ?_
      refine lv_aload_n hx hb dX7_ahead_64 rfl (lv_at hl 0 rfl) ?_
      refine va_get (D := g.1) (ci := 7) (v := .ref m3) (C := RX7) (T := TX7) (N := 22) hx hb hts i_X7_ahead_X7 hown hE.1 hP 0 rfl rfl 2 (by decide) w3 (fun _ h9 => h9) rfl dX7_ahead_65 ?_
      obtain ⟨f2106, hg, hf⟩ := o1_s hf
      refine Ct.callS (ws' := wM g m0 m1 m2 m3 m4 m5 m6 m7 m8 m9 m10 m11 m12 now kept f2106 ik found carried T S) (As := [.ref m1, .ref m3]) (rest := []) (st1 := []) (c_X7_copyRow l g m1 m3 120 now aside hg) (va_cwS 2 hts gX7_ahead_X7_copyRow rfl rfl rfl q_X7_copyRow.2 ⟨Nat.le_of_ble_eq_true rfl, Nat.le_of_ble_eq_true rfl⟩) ⟨hx, hb, hml, hown, hts⟩ hE hP hD hS hA [1, 3] rfl rfl rfl rfl rfl hl.1 rfl rfl (Nat.le_of_ble_eq_true rfl) dX7_ahead_68 (fun H locs hP hD hS => ?_)
      refine lv_aload_n hx hb dX7_ahead_71 rfl (lv_at hl 0 rfl) ?_
      refine lv_iload_n hx hb dX7_ahead_72 rfl (lv_at hl 1 rfl) ?_
      refine lv_iload_n hx hb dX7_ahead_73 rfl (lv_at hl 2 rfl) ?_
      refine lv_iload_n hx hb dX7_ahead_74 rfl (lv_at hl 3 rfl) ?_
      obtain ⟨x107, now108, hg, hf⟩ := o2_s hf
      refine Ct.callV0 (ws' := wM g m0 m1 m2 m3 m4 m5 m6 m7 m8 m9 m10 m11 m12 now108 kept f2106 ik found carried T S) (As := [.int x1, .int x2, .int x3]) (rest := []) (st1 := [.int x107]) (c_X7_hoursGo l g m0 m1 m2 m3 m4 m5 m6 m7 m8 m9 m10 m11 m12 now kept f2106 ik found carried T S x1 x2 x3 hg) (cwV 3 hts gX7_ahead_X7_hoursGo rfl rfl rfl q_X7_hoursGo ⟨Nat.le_of_ble_eq_true rfl, Nat.le_of_ble_eq_true rfl⟩) ⟨hx, hb, hml, hown, hts⟩ hE hP hD hS hA 7 0 rfl rfl rfl rfl hl.1 rfl rfl (Nat.le_of_ble_eq_true rfl) dX7_ahead_75 (fun H locs hP hD hS => ?_)
      refine lv_istore (lv' := [(6, .int x107), (0, .ref m0), (1, .int x1), (2, .int x2), (3, .int x3), (4, .int x4), (5, .int x5)]) hx hb dX7_ahead_78 hl (by decide) rfl (fun ls hl => ?_)
      refine lv_aload_n hx hb dX7_ahead_80 rfl (lv_at hl 1 rfl) ?_
      refine va_get (D := g.1) (ci := 7) (v := .ref m1) (C := RX7) (T := TX7) (N := 22) hx hb hts i_X7_ahead_X7 hown hE.1 hP 0 rfl rfl 0 (by decide) w2 (fun _ h9 => h9) rfl dX7_ahead_81 ?_
      refine lv_iconst (v := (4 : Int32)) hx hb dX7_ahead_84 (by decide) ?_
      obtain ⟨x109, ex, hin, hf⟩ := rd_s hf
      refine st_iald (f := now108) hx hb hE.1 hP 1 0 rfl rfl hin ex dX7_ahead_85 ?_
      refine lv_aload_n hx hb dX7_ahead_86 rfl (lv_at hl 1 rfl) ?_
      refine va_get (D := g.1) (ci := 7) (v := .ref m3) (C := RX7) (T := TX7) (N := 22) hx hb hts i_X7_ahead_X7 hown hE.1 hP 0 rfl rfl 2 (by decide) w3 (fun _ h9 => h9) rfl dX7_ahead_87 ?_
      refine lv_iconst (v := (4 : Int32)) hx hb dX7_ahead_90 (by decide) ?_
      obtain ⟨x110, ex, hin, hf⟩ := rd_s hf
      refine st_iald (f := f2106) hx hb hE.1 hP 3 0 rfl rfl hin ex dX7_ahead_91 ?_
      refine lv_isub hx hb dX7_ahead_92 ?_
      refine lv_istore (lv' := [(7, .int (x109 - x110)), (6, .int x107), (0, .ref m0), (1, .int x1), (2, .int x2), (3, .int x3), (4, .int x4), (5, .int x5)]) hx hb dX7_ahead_93 hl (by decide) rfl (fun ls hl => ?_)
      refine lv_aload_n hx hb dX7_ahead_95 rfl (lv_at hl 2 rfl) ?_
      refine lv_iload hx hb dX7_ahead_96 (lv_at hl 6 rfl) ?_
      refine lv_if_ne (tgt := 108) hx hb dX7_ahead_98 (by decide) (fun hc => ?_) (fun hc => ?_)
      · have hf := if_f hf hc
        refine lv_iload hx hb dX7_ahead_108 (lv_at hl 6 rfl) ?_
        refine lv_iconst (v := (1 : Int32)) hx hb dX7_ahead_110 (by decide) ?_
        refine lv_icmp_ne (tgt := 119) hx hb dX7_ahead_111 (by decide) (fun hc => ?_) (fun hc => ?_)
        · have hf := if_f hf hc
          refine lv_iload hx hb dX7_ahead_119 (lv_at hl 6 rfl) ?_
          refine lv_iconst (v := (2 : Int32)) hx hb dX7_ahead_121 (by decide) ?_
          refine lv_icmp_ne (tgt := 132) hx hb dX7_ahead_122 (by decide) (fun hc => ?_) (fun hc => ?_)
          · have hf := if_f hf hc
            refine lv_iload hx hb dX7_ahead_132 (lv_at hl 6 rfl) ?_
            refine lv_iconst (v := (3 : Int32)) hx hb dX7_ahead_134 (by decide) ?_
            refine lv_icmp_ne (tgt := 143) hx hb dX7_ahead_135 (by decide) (fun hc => ?_) (fun hc => ?_)
            · have hf := if_f hf hc
              refine lv_aload_n hx hb dX7_ahead_143 rfl (lv_at hl 2 rfl) ?_
              refine lv_iload hx hb dX7_ahead_144 (lv_at hl 6 rfl) ?_
              refine lv_iconst (v := (4 : Int32)) hx hb dX7_ahead_146 (by decide) ?_
              refine lv_isub hx hb dX7_ahead_147 ?_
              refine lv_iconst (v := (2 : Int32)) hx hb dX7_ahead_148 (by decide) ?_
              obtain ⟨x111, hg, hf⟩ := o1_s hf
              refine Ct.callV0 (ws' := wM g m0 m1 m2 m3 m4 m5 m6 m7 m8 m9 m10 m11 m12 now108 kept f2106 ik found carried T S) (As := [.int (x4 - (4 : Int32)), .int (2 : Int32)]) (rest := [.ref m0]) (st1 := [.int x111, .ref m0]) (c_X7_cisternIs l g m0 m1 m2 m3 m4 m5 m6 m7 m8 m9 m10 m11 m12 now108 kept f2106 ik found carried T S (x4 - (4 : Int32)) (2 : Int32) hg) (cwV 2 hts gX7_ahead_X7_cisternIs rfl rfl rfl q_X7_cisternIs ⟨Nat.le_of_ble_eq_true rfl, Nat.le_of_ble_eq_true rfl⟩) ⟨hx, hb, hml, hown, hts⟩ hE hP hD hS hA 7 0 rfl rfl rfl rfl hl.1 rfl rfl (Nat.le_of_ble_eq_true rfl) dX7_ahead_149 (fun H locs hP hD hS => ?_)
              obtain ⟨x112, now113, hg, hf⟩ := o2_s hf
              refine Ct.callV0 (ws' := wM g m0 m1 m2 m3 m4 m5 m6 m7 m8 m9 m10 m11 m12 now113 kept f2106 ik found carried T S) (As := [.int x111]) (rest := []) (st1 := [.int x112]) (c_X7_putBack l g m0 m1 m2 m3 m4 m5 m6 m7 m8 m9 m10 m11 m12 now108 kept f2106 ik found carried T S x111 hg) (cwV 1 hts gX7_ahead_X7_putBack rfl rfl rfl q_X7_putBack ⟨Nat.le_of_ble_eq_true rfl, Nat.le_of_ble_eq_true rfl⟩) ⟨hx, hb, hml, hown, hts⟩ hE hP hD hS hA 7 0 rfl rfl rfl rfl hl.1 rfl rfl (Nat.le_of_ble_eq_true rfl) dX7_ahead_152 (fun H locs hP hD hS => ?_)
              obtain ⟨rfl, rfl, rfl, rfl⟩ := some_p4 hf
              rw [hQ]; exact Ct.iret hx hb hr hlocks hAe hP hD hS dX7_ahead_155
            · have hf := if_t hf hc
              refine lv_iload hx hb dX7_ahead_138 (lv_at hl 0 rfl) ?_
              refine lv_goto (tgt := 152) hx hb dX7_ahead_140 (by decide) ?_
              obtain ⟨x114, now115, hg, hf⟩ := o2_s hf
              refine Ct.callV0 (ws' := wM g m0 m1 m2 m3 m4 m5 m6 m7 m8 m9 m10 m11 m12 now115 kept f2106 ik found carried T S) (As := [.int (x109 - x110)]) (rest := []) (st1 := [.int x114]) (c_X7_putBack l g m0 m1 m2 m3 m4 m5 m6 m7 m8 m9 m10 m11 m12 now108 kept f2106 ik found carried T S (x109 - x110) hg) (cwV 1 hts gX7_ahead_X7_putBack rfl rfl rfl q_X7_putBack ⟨Nat.le_of_ble_eq_true rfl, Nat.le_of_ble_eq_true rfl⟩) ⟨hx, hb, hml, hown, hts⟩ hE hP hD hS hA 7 0 rfl rfl rfl rfl hl.1 rfl rfl (Nat.le_of_ble_eq_true rfl) dX7_ahead_152 (fun H locs hP hD hS => ?_)
              obtain ⟨rfl, rfl, rfl, rfl⟩ := some_p4 hf
              rw [hQ]; exact Ct.iret hx hb hr hlocks hAe hP hD hS dX7_ahead_155
          · have hf := if_t hf hc
            refine lv_aload_n hx hb dX7_ahead_125 rfl (lv_at hl 2 rfl) ?_
            obtain ⟨x116, hg, hf⟩ := o1_s hf
            refine Ct.callV0 (ws' := wM g m0 m1 m2 m3 m4 m5 m6 m7 m8 m9 m10 m11 m12 now108 kept f2106 ik found carried T S) (As := []) (rest := [.ref m0]) (st1 := [.int x116, .ref m0]) (c_X7_levels l g m0 m1 m2 m3 m4 m5 m6 m7 m8 m9 m10 m11 m12 now108 kept f2106 ik found carried T S hg) (cwV 0 hts gX7_ahead_X7_levels rfl rfl rfl q_X7_levels ⟨Nat.le_of_ble_eq_true rfl, Nat.le_of_ble_eq_true rfl⟩) ⟨hx, hb, hml, hown, hts⟩ hE hP hD hS hA 7 0 rfl rfl rfl rfl hl.1 rfl rfl (Nat.le_of_ble_eq_true rfl) dX7_ahead_126 (fun H locs hP hD hS => ?_)
            refine lv_goto (tgt := 152) hx hb dX7_ahead_129 (by decide) ?_
            obtain ⟨x117, now118, hg, hf⟩ := o2_s hf
            refine Ct.callV0 (ws' := wM g m0 m1 m2 m3 m4 m5 m6 m7 m8 m9 m10 m11 m12 now118 kept f2106 ik found carried T S) (As := [.int x116]) (rest := []) (st1 := [.int x117]) (c_X7_putBack l g m0 m1 m2 m3 m4 m5 m6 m7 m8 m9 m10 m11 m12 now108 kept f2106 ik found carried T S x116 hg) (cwV 1 hts gX7_ahead_X7_putBack rfl rfl rfl q_X7_putBack ⟨Nat.le_of_ble_eq_true rfl, Nat.le_of_ble_eq_true rfl⟩) ⟨hx, hb, hml, hown, hts⟩ hE hP hD hS hA 7 0 rfl rfl rfl rfl hl.1 rfl rfl (Nat.le_of_ble_eq_true rfl) dX7_ahead_152 (fun H locs hP hD hS => ?_)
            obtain ⟨rfl, rfl, rfl, rfl⟩ := some_p4 hf
            rw [hQ]; exact Ct.iret hx hb hr hlocks hAe hP hD hS dX7_ahead_155
        · have hf := if_t hf hc
          refine lv_iload hx hb dX7_ahead_114 (lv_at hl 1 rfl) ?_
          refine lv_goto (tgt := 152) hx hb dX7_ahead_116 (by decide) ?_
          obtain ⟨x119, now120, hg, hf⟩ := o2_s hf
          refine Ct.callV0 (ws' := wM g m0 m1 m2 m3 m4 m5 m6 m7 m8 m9 m10 m11 m12 now120 kept f2106 ik found carried T S) (As := [.int x107]) (rest := []) (st1 := [.int x119]) (c_X7_putBack l g m0 m1 m2 m3 m4 m5 m6 m7 m8 m9 m10 m11 m12 now108 kept f2106 ik found carried T S x107 hg) (cwV 1 hts gX7_ahead_X7_putBack rfl rfl rfl q_X7_putBack ⟨Nat.le_of_ble_eq_true rfl, Nat.le_of_ble_eq_true rfl⟩) ⟨hx, hb, hml, hown, hts⟩ hE hP hD hS hA 7 0 rfl rfl rfl rfl hl.1 rfl rfl (Nat.le_of_ble_eq_true rfl) dX7_ahead_152 (fun H locs hP hD hS => ?_)
          obtain ⟨rfl, rfl, rfl, rfl⟩ := some_p4 hf
          rw [hQ]; exact Ct.iret hx hb hr hlocks hAe hP hD hS dX7_ahead_155
      · have hf := if_t hf hc
        refine lv_aload_n hx hb dX7_ahead_101 rfl (lv_at hl 2 rfl) ?_
        obtain ⟨x121, hg, hf⟩ := o1_s hf
        refine Ct.callV0 (ws' := wM g m0 m1 m2 m3 m4 m5 m6 m7 m8 m9 m10 m11 m12 now108 kept f2106 ik found carried T S) (As := []) (rest := [.ref m0]) (st1 := [.int x121, .ref m0]) (c_X7_open l g m0 m1 m2 m3 m4 m5 m6 m7 m8 m9 m10 m11 m12 now108 kept f2106 ik found carried T S hg) (cwV 0 hts gX7_ahead_X7_open rfl rfl rfl q_X7_open ⟨Nat.le_of_ble_eq_true rfl, Nat.le_of_ble_eq_true rfl⟩) ⟨hx, hb, hml, hown, hts⟩ hE hP hD hS hA 7 0 rfl rfl rfl rfl hl.1 rfl rfl (Nat.le_of_ble_eq_true rfl) dX7_ahead_102 (fun H locs hP hD hS => ?_)
        refine lv_goto (tgt := 152) hx hb dX7_ahead_105 (by decide) ?_
        obtain ⟨x122, now123, hg, hf⟩ := o2_s hf
        refine Ct.callV0 (ws' := wM g m0 m1 m2 m3 m4 m5 m6 m7 m8 m9 m10 m11 m12 now123 kept f2106 ik found carried T S) (As := [.int x121]) (rest := []) (st1 := [.int x122]) (c_X7_putBack l g m0 m1 m2 m3 m4 m5 m6 m7 m8 m9 m10 m11 m12 now108 kept f2106 ik found carried T S x121 hg) (cwV 1 hts gX7_ahead_X7_putBack rfl rfl rfl q_X7_putBack ⟨Nat.le_of_ble_eq_true rfl, Nat.le_of_ble_eq_true rfl⟩) ⟨hx, hb, hml, hown, hts⟩ hE hP hD hS hA 7 0 rfl rfl rfl rfl hl.1 rfl rfl (Nat.le_of_ble_eq_true rfl) dX7_ahead_152 (fun H locs hP hD hS => ?_)
        obtain ⟨rfl, rfl, rfl, rfl⟩ := some_p4 hf
        rw [hQ]; exact Ct.iret hx hb hr hlocks hAe hP hD hS dX7_ahead_155
    · have hf := if_f hf hc
      refine lv_aload_n hx hb dX7_ahead_53 rfl (lv_at hl 0 rfl) ?_
      refine lv_iload hx hb dX7_ahead_54 (lv_at hl 5 rfl) ?_
      obtain ⟨x124, found125, hg, hf⟩ := o2_s hf
      refine Ct.callV0 (ws' := wM g m0 m1 m2 m3 m4 m5 m6 m7 m8 m9 m10 m11 m12 now kept aside ik found125 carried T S) (As := [.int x5]) (rest := []) (st1 := [.int x124]) (c_X7_finding l g m0 m1 m2 m3 m4 m5 m6 m7 m8 m9 m10 m11 m12 now kept aside ik found carried T S x5 hg) (cwV 1 hts gX7_ahead_X7_finding rfl rfl rfl q_X7_finding ⟨Nat.le_of_ble_eq_true rfl, Nat.le_of_ble_eq_true rfl⟩) ⟨hx, hb, hml, hown, hts⟩ hE hP hD hS hA 7 0 rfl rfl rfl rfl hl.1 rfl rfl (Nat.le_of_ble_eq_true rfl) dX7_ahead_56 (fun H locs hP hD hS => ?_)
      obtain ⟨rfl, rfl, rfl, rfl⟩ := some_p4 hf
      rw [hQ]; exact Ct.iret hx hb hr hlocks hAe hP hD hS dX7_ahead_59
  unfold fX7_ahead at hf
  refine lv_aload_n hx hb dX7_ahead_0 rfl (lv_at hl 0 rfl) ?_
  refine lv_iload_n hx hb dX7_ahead_1 rfl (lv_at hl 1 rfl) ?_
  refine lv_iload_n hx hb dX7_ahead_2 rfl (lv_at hl 2 rfl) ?_
  refine lv_iload_n hx hb dX7_ahead_3 rfl (lv_at hl 3 rfl) ?_
  refine lv_iconst (v := (0 : Int32)) hx hb dX7_ahead_4 (by decide) ?_
  refine lv_bipush (v := (100 : Int32)) hx hb dX7_ahead_5 (by decide) ?_
  obtain ⟨x101, hg, hf⟩ := o1_s hf
  refine Ct.callV0 (ws' := wM g m0 m1 m2 m3 m4 m5 m6 m7 m8 m9 m10 m11 m12 now kept aside ik found carried T S) (As := [.int a1, .int a2, .int a3, .int (0 : Int32), .int (100 : Int32)]) (rest := []) (st1 := [.int x101]) (c_X7_refuses l g m0 m1 m2 m3 m4 m5 m6 m7 m8 m9 m10 m11 m12 now kept aside ik found carried T S a1 a2 a3 (0 : Int32) (100 : Int32) hg) (cwV 5 hts gX7_ahead_X7_refuses rfl rfl rfl q_X7_refuses ⟨Nat.le_of_ble_eq_true rfl, Nat.le_of_ble_eq_true rfl⟩) ⟨hx, hb, hml, hown, hts⟩ hE hP hD hS hA 7 0 rfl rfl rfl rfl hl.1 rfl rfl (Nat.le_of_ble_eq_true rfl) dX7_ahead_7 (fun H locs hP hD hS => ?_)
  refine lv_istore (lv' := [(5, .int x101), (0, .ref m0), (1, .int a1), (2, .int a2), (3, .int a3), (4, .int a4)]) hx hb dX7_ahead_10 hl (by decide) rfl (fun ls hl => ?_)
  refine lv_iload hx hb dX7_ahead_12 (lv_at hl 0 rfl) ?_
  refine lv_ldc hx hb hown w1 dX7_ahead_14 ?_
  refine lv_icmp_eq (tgt := 41) hx hb dX7_ahead_16 (by decide) (fun hc => ?_) (fun hc => ?_)
  · have hf := if_t hf hc
    refine lv_aload_n hx hb dX7_ahead_41 rfl (lv_at hl 1 rfl) ?_
    refine lv_ldc hx hb hown w1 dX7_ahead_42 ?_
    obtain ⟨x102, found103, hg, hf⟩ := o2_s hf
    refine Ct.callV0 (ws' := wM g m0 m1 m2 m3 m4 m5 m6 m7 m8 m9 m10 m11 m12 now kept aside ik found103 carried T S) (As := [.int (-1000001 : Int32)]) (rest := []) (st1 := [.int x102]) (c_X7_finding l g m0 m1 m2 m3 m4 m5 m6 m7 m8 m9 m10 m11 m12 now kept aside ik found carried T S (-1000001 : Int32) hg) (cwV 1 hts gX7_ahead_X7_finding rfl rfl rfl q_X7_finding ⟨Nat.le_of_ble_eq_true rfl, Nat.le_of_ble_eq_true rfl⟩) ⟨hx, hb, hml, hown, hts⟩ hE hP hD hS hA 7 0 rfl rfl rfl rfl hl.1 rfl rfl (Nat.le_of_ble_eq_true rfl) dX7_ahead_44 (fun H locs hP hD hS => ?_)
    obtain ⟨rfl, rfl, rfl, rfl⟩ := some_p4 hf
    rw [hQ]; exact Ct.iret hx hb hr hlocks hAe hP hD hS dX7_ahead_47
  · have hf := if_f hf hc
    refine lv_iload hx hb dX7_ahead_19 (lv_at hl 5 rfl) ?_
    refine lv_if_lt (tgt := 41) hx hb dX7_ahead_21 (by decide) (fun hc => ?_) (fun hc => ?_)
    · have hf := if_t hf hc
      refine lv_aload_n hx hb dX7_ahead_41 rfl (lv_at hl 1 rfl) ?_
      refine lv_ldc hx hb hown w1 dX7_ahead_42 ?_
      obtain ⟨x104, found105, hg, hf⟩ := o2_s hf
      refine Ct.callV0 (ws' := wM g m0 m1 m2 m3 m4 m5 m6 m7 m8 m9 m10 m11 m12 now kept aside ik found105 carried T S) (As := [.int (-1000001 : Int32)]) (rest := []) (st1 := [.int x104]) (c_X7_finding l g m0 m1 m2 m3 m4 m5 m6 m7 m8 m9 m10 m11 m12 now kept aside ik found carried T S (-1000001 : Int32) hg) (cwV 1 hts gX7_ahead_X7_finding rfl rfl rfl q_X7_finding ⟨Nat.le_of_ble_eq_true rfl, Nat.le_of_ble_eq_true rfl⟩) ⟨hx, hb, hml, hown, hts⟩ hE hP hD hS hA 7 0 rfl rfl rfl rfl hl.1 rfl rfl (Nat.le_of_ble_eq_true rfl) dX7_ahead_44 (fun H locs hP hD hS => ?_)
      obtain ⟨rfl, rfl, rfl, rfl⟩ := some_p4 hf
      rw [hQ]; exact Ct.iret hx hb hr hlocks hAe hP hD hS dX7_ahead_47
    · have hf := if_f hf hc
      refine lv_iload hx hb dX7_ahead_24 (lv_at hl 5 rfl) ?_
      refine lv_iconst (v := (3 : Int32)) hx hb dX7_ahead_26 (by decide) ?_
      refine lv_icmp_le (tgt := 48) hx hb dX7_ahead_27 (by decide) (fun hc => ?_) (fun hc => ?_)
      · have hf := if_t hf hc
        exact J48 _ _ _ _ _ _ _ _ _ _ _  hf hP hD hS (lv_sub hl [1, 2, 3, 4, 5, 0] rfl)
      · have hf := if_f hf hc
        refine lv_aload_n hx hb dX7_ahead_30 rfl (lv_at hl 1 rfl) ?_
        refine lv_iload hx hb dX7_ahead_31 (lv_at hl 5 rfl) ?_
        refine lv_iconst (v := (4 : Int32)) hx hb dX7_ahead_33 (by decide) ?_
        refine lv_isub hx hb dX7_ahead_34 ?_
        obtain ⟨x126, hg, hf⟩ := o1_s hf
        refine Ct.callV0 (ws' := wM g m0 m1 m2 m3 m4 m5 m6 m7 m8 m9 m10 m11 m12 now kept aside ik found carried T S) (As := [.int (a4 - (4 : Int32))]) (rest := []) (st1 := [.int x126]) (c_X7_isCistern l g m0 m1 m2 m3 m4 m5 m6 m7 m8 m9 m10 m11 m12 now kept aside ik found carried T S (a4 - (4 : Int32)) hg) (cwV 1 hts gX7_ahead_X7_isCistern rfl rfl rfl q_X7_isCistern ⟨Nat.le_of_ble_eq_true rfl, Nat.le_of_ble_eq_true rfl⟩) ⟨hx, hb, hml, hown, hts⟩ hE hP hD hS hA 7 0 rfl rfl rfl rfl hl.1 rfl rfl (Nat.le_of_ble_eq_true rfl) dX7_ahead_35 (fun H locs hP hD hS => ?_)
        refine lv_if_ne (tgt := 48) hx hb dX7_ahead_38 (by decide) (fun hc => ?_) (fun hc => ?_)
        · have hf := if_f hf hc
          exact J48 _ _ _ _ _ _ _ _ _ _ _  hf hP hD hS (lv_sub hl [1, 2, 3, 4, 5, 0] rfl)
        · have hf := if_t hf hc
          refine lv_aload_n hx hb dX7_ahead_41 rfl (lv_at hl 1 rfl) ?_
          refine lv_ldc hx hb hown w1 dX7_ahead_42 ?_
          obtain ⟨x127, found128, hg, hf⟩ := o2_s hf
          refine Ct.callV0 (ws' := wM g m0 m1 m2 m3 m4 m5 m6 m7 m8 m9 m10 m11 m12 now kept aside ik found128 carried T S) (As := [.int (-1000001 : Int32)]) (rest := []) (st1 := [.int x127]) (c_X7_finding l g m0 m1 m2 m3 m4 m5 m6 m7 m8 m9 m10 m11 m12 now kept aside ik found carried T S (-1000001 : Int32) hg) (cwV 1 hts gX7_ahead_X7_finding rfl rfl rfl q_X7_finding ⟨Nat.le_of_ble_eq_true rfl, Nat.le_of_ble_eq_true rfl⟩) ⟨hx, hb, hml, hown, hts⟩ hE hP hD hS hA 7 0 rfl rfl rfl rfl hl.1 rfl rfl (Nat.le_of_ble_eq_true rfl) dX7_ahead_44 (fun H locs hP hD hS => ?_)
          obtain ⟨rfl, rfl, rfl, rfl⟩ := some_p4 hf
          rw [hQ]; exact Ct.iret hx hb hr hlocks hAe hP hD hS dX7_ahead_47
def fX7_when_L44 (x1 : Int32) (x2 : Int32) (x3 : Int32) (kx : (Nat → Int32) → Int32 → Int32 → Option (Int32 × (Nat → Int32) × (Nat → Int32) × (Nat → Int32))) : Nat → (Nat → Int32) → Int32 → Int32 → Option (Int32 × (Nat → Int32) × (Nat → Int32) × (Nat → Int32))
  | 0, _, _, _ => none
  | k + 1, now, x5, x6 => if x6 = 0 then (if x3 ≤ x5 then (kx now x5 x6) else (o2 (fX7_hour now x1 x2) (fun x106 now107 => if x106 = (1 : Int32) then (fX7_when_L44 x1 x2 x3 kx k now107 (x5 + (1 : Int32)) (1 : Int32)) else (fX7_when_L44 x1 x2 x3 kx k now107 (x5 + (1 : Int32)) (0 : Int32))))) else (kx now x5 x6)
def fX7_when_J78 (now : Nat → Int32) (aside : Nat → Int32) (found : Nat → Int32) (x5 : Int32) (x6 : Int32) : Option (Int32 × (Nat → Int32) × (Nat → Int32) × (Nat → Int32)) := if x6 = 0 then (o2 (fX7_putBack now aside (0 : Int32)) (fun x111 now112 => if x111 = (1 : Int32) then (some (x5, now112, aside, found)) else (o2 (fX7_finding found (-1000004 : Int32)) (fun x113 found114 => some (x113, now112, aside, found114))))) else (o2 (fX7_putBack now aside (1 : Int32)) (fun x115 now116 => if x115 = (1 : Int32) then (some (x5, now116, aside, found)) else (o2 (fX7_finding found (-1000004 : Int32)) (fun x117 found118 => some (x117, now116, aside, found118)))))
def fX7_when (now : Nat → Int32) (aside : Nat → Int32) (found : Nat → Int32) (a1 : Int32) (a2 : Int32) (a3 : Int32) : Option (Int32 × (Nat → Int32) × (Nat → Int32) × (Nat → Int32)) := o1 (fX7_refuses now a1 a2 a3 (1 : Int32) (100 : Int32)) (fun x101 => if x101 = 0 then (o1 (fX7_copyRow 120 now) (fun f2102 => o1 (fX7_isOpen now) (fun x103 => fX7_when_L44 a1 a2 a3 (fun now108 x109 x110 => fX7_when_J78 now108 f2102 found x109 x110) fu now (0 : Int32) x103))) else (o2 (fX7_finding found x101) (fun x119 found120 => some (x119, now, aside, found120))))
theorem q_X7_when : yX7_when.cls = RX7 ∧ yX7_when.cls ≠ "java/lang/invoke/MethodHandle" ∧ yX7_when.cls ≠ "java/lang/invoke/VarHandle" ∧ (parseMethodDescriptor yX7_when.desc).map (fun d => d.parameters.length) = some 3 := by decide +kernel
theorem i_X7_when_X7 : ∀ w ∈ u_ws RX7 TX7 22, w ∈ wsX7_when := fun _ h => List.mem_cons_of_mem _ (List.mem_append_right _ (h))
set_option maxHeartbeats 4000000 in
set_option maxRecDepth 100000 in
theorem c_X7_when (l : Launch) (g : gG) (m0 m1 m2 m3 m4 m5 m6 m7 m8 m9 m10 m11 m12 : Nat) (now : Nat → Int32) (kept : Nat → Int32) (aside : Nat → Int32) (ik : Int32) (found : Nat → Int32) (carried : Nat → Int32) (T : Mt) (S : Ms) (a1 : Int32) (a2 : Int32) (a3 : Int32) {r : Int32} {now' : Nat → Int32} {aside' : Nat → Int32} {found' : Nat → Int32} (hf : fX7_when now aside found a1 a2 a3 = some (r, now', aside', found')) : Ct l yX7_when wsX7_when (rmm 8 177) g (wM g m0 m1 m2 m3 m4 m5 m6 m7 m8 m9 m10 m11 m12 now kept aside ik found carried T S) (wM g m0 m1 m2 m3 m4 m5 m6 m7 m8 m9 m10 m11 m12 (now') kept (aside') ik (found') carried T S) [.ref m0, .int a1, .int a2, .int a3] (some (.int r)) := by
  refine Ct.mk (by decide) rfl (Nat.le_of_ble_eq_true rfl) ?_
  intro p e s m args below meth c A ls hx hb hr hml hts hown hlocks hA hE hP hD hS hl hAe
  obtain ⟨Qx, hQ⟩ : ∃ Qx : State → Prop, Qx = MQ below (QcG g (wM g m0 m1 m2 m3 m4 m5 m6 m7 m8 m9 m10 m11 m12 now kept aside ik found carried T S) (wM g m0 m1 m2 m3 m4 m5 m6 m7 m8 m9 m10 m11 m12 (now') kept (aside') ik (found') carried T S) (some (.int r)) s.heap.size) args s 0 0 A := ⟨_, rfl⟩
  rw [← hQ]
  have hown : s.vm.findClass RX7 = some m.cls := hown
  have hl : lv_has ls 7 [(0, .ref m0), (1, .int a1), (2, .int a2), (3, .int a3)] := hl
  have w1 := hts (.fieldLink RX7 9 "RainVaultModel" "now" "[I") (List.mem_of_getElem? (i := 1) rfl)
  have w2 := hts (.fieldLink RX7 16 "RainVaultModel" "aside" "[I") (List.mem_of_getElem? (i := 2) rfl)
  have w3 := hts (.constant RX7 190 (-1000004)) (List.mem_of_getElem? (i := 3) rfl)
  have L44 : ∀ (aside : Nat → Int32) (found : Nat → Int32) (x1 : Int32) (x2 : Int32) (x3 : Int32) (kx : (Nat → Int32) → Int32 → Int32 → Option (Int32 × (Nat → Int32) × (Nat → Int32) × (Nat → Int32))) (k : Nat) (now : Nat → Int32) (x5 : Int32) (x6 : Int32) (H : Heap) (locs : List Loc) (ls : Array Slot), fX7_when_L44 x1 x2 x3 kx k now x5 x6 = some (r, now', aside', found') → va_P g.1 vwK (wM g m0 m1 m2 m3 m4 m5 m6 m7 m8 m9 m10 m11 m12 now kept aside ik found carried T S) H → va_D A (wM g m0 m1 m2 m3 m4 m5 m6 m7 m8 m9 m10 m11 m12 now kept aside ik found carried T S) → va_S A s.heap H locs → lv_has ls 7 [(0, .ref m0), (1, .int x1), (2, .int x2), (3, .int x3), (5, .int x5), (6, .int x6)] → (∀ (now : Nat → Int32) (x5 : Int32) (x6 : Int32) (H : Heap) (locs : List Loc) (ls : Array Slot), kx now x5 x6 = some (r, now', aside', found') → va_P g.1 vwK (wM g m0 m1 m2 m3 m4 m5 m6 m7 m8 m9 m10 m11 m12 now kept aside ik found carried T S) H → va_D A (wM g m0 m1 m2 m3 m4 m5 m6 m7 m8 m9 m10 m11 m12 now kept aside ik found carried T S) → va_S A s.heap H locs → lv_has ls 7 [(0, .ref m0), (5, .int x5), (6, .int x6)] → W p l e (rmm 8 177) s m args below meth c H locs 0 0 Qx (F0 m 78 ls [])) → W p l e (rmm 8 177) s m args below meth c H locs 0 0 Qx (F0 m 44 ls []) := by
    intro aside found x1 x2 x3 kx k
    induction k with
    | zero => intro now x5 x6 H locs ls hf; exact nomatch (show (none : Option (Int32 × (Nat → Int32) × (Nat → Int32) × (Nat → Int32))) = some _ from hf)
    | succ k ih =>
      intro now x5 x6 H locs ls hf hP hD hS hl hk
      rw [fX7_when_L44] at hf
      refine lv_iload hx hb dX7_when_44 (lv_at hl 5 rfl) ?_
      refine lv_if_ne (tgt := 78) hx hb dX7_when_46 (by decide) (fun hc => ?_) (fun hc => ?_)
      · have hf := if_f hf hc
        exact hk _ _ _ _ _ _  hf hP hD hS (lv_sub hl [0, 4, 5] rfl)
      · have hf := if_t hf hc
        refine lv_iload hx hb dX7_when_49 (lv_at hl 4 rfl) ?_
        refine lv_iload_n hx hb dX7_when_51 rfl (lv_at hl 3 rfl) ?_
        refine lv_icmp_ge (tgt := 78) hx hb dX7_when_52 (by decide) (fun hc => ?_) (fun hc => ?_)
        · have hf := if_t hf hc
          exact hk _ _ _ _ _ _  hf hP hD hS (lv_sub hl [0, 4, 5] rfl)
        · have hf := if_f hf hc
          refine lv_aload_n hx hb dX7_when_55 rfl (lv_at hl 0 rfl) ?_
          refine lv_iload_n hx hb dX7_when_56 rfl (lv_at hl 1 rfl) ?_
          refine lv_iload_n hx hb dX7_when_57 rfl (lv_at hl 2 rfl) ?_
          obtain ⟨x106, now107, hg, hf⟩ := o2_s hf
          refine Ct.callV0 (ws' := wM g m0 m1 m2 m3 m4 m5 m6 m7 m8 m9 m10 m11 m12 now107 kept aside ik found carried T S) (As := [.int x1, .int x2]) (rest := []) (st1 := [.int x106]) (c_X7_hour l g m0 m1 m2 m3 m4 m5 m6 m7 m8 m9 m10 m11 m12 now kept aside ik found carried T S x1 x2 hg) (cwV 2 hts gX7_when_X7_hour rfl rfl rfl q_X7_hour ⟨Nat.le_of_ble_eq_true rfl, Nat.le_of_ble_eq_true rfl⟩) ⟨hx, hb, hml, hown, hts⟩ hE hP hD hS hA 7 0 rfl rfl rfl rfl hl.1 rfl rfl (Nat.le_of_ble_eq_true rfl) dX7_when_58 (fun H locs hP hD hS => ?_)
          refine lv_iconst (v := (1 : Int32)) hx hb dX7_when_61 (by decide) ?_
          refine lv_icmp_ne (tgt := 69) hx hb dX7_when_62 (by decide) (fun hc => ?_) (fun hc => ?_)
          · have hf := if_f hf hc
            refine lv_iconst (v := (0 : Int32)) hx hb dX7_when_69 (by decide) ?_
            refine lv_istore (lv' := [(6, .int (0 : Int32)), (0, .ref m0), (1, .int x1), (2, .int x2), (3, .int x3), (5, .int x5)]) hx hb dX7_when_70 hl (by decide) rfl (fun ls hl => ?_)
            refine lv_iinc (v := (x5 + (1 : Int32))) (lv' := [(5, .int (x5 + (1 : Int32))), (6, .int (0 : Int32)), (0, .ref m0), (1, .int x1), (2, .int x2), (3, .int x3)]) hx hb dX7_when_72 hl (k := 5) rfl rfl (by decide) rfl (fun ls hl => ?_)
            refine lv_goto (tgt := 44) hx hb dX7_when_75 (by decide) ?_
            exact ih _ _ _ _ _ _  hf hP hD hS (lv_sub hl [2, 3, 4, 5, 0, 1] rfl) hk
          · have hf := if_t hf hc
            refine lv_iconst (v := (1 : Int32)) hx hb dX7_when_65 (by decide) ?_
            refine lv_goto (tgt := 70) hx hb dX7_when_66 (by decide) ?_
            refine lv_istore (lv' := [(6, .int (1 : Int32)), (0, .ref m0), (1, .int x1), (2, .int x2), (3, .int x3), (5, .int x5)]) hx hb dX7_when_70 hl (by decide) rfl (fun ls hl => ?_)
            refine lv_iinc (v := (x5 + (1 : Int32))) (lv' := [(5, .int (x5 + (1 : Int32))), (6, .int (1 : Int32)), (0, .ref m0), (1, .int x1), (2, .int x2), (3, .int x3)]) hx hb dX7_when_72 hl (k := 5) rfl rfl (by decide) rfl (fun ls hl => ?_)
            refine lv_goto (tgt := 44) hx hb dX7_when_75 (by decide) ?_
            exact ih _ _ _ _ _ _  hf hP hD hS (lv_sub hl [2, 3, 4, 5, 0, 1] rfl) hk
  have J78 : ∀ (now : Nat → Int32) (aside : Nat → Int32) (found : Nat → Int32) (x5 : Int32) (x6 : Int32) (H : Heap) (locs : List Loc) (ls : Array Slot), fX7_when_J78 now aside found x5 x6 = some (r, now', aside', found') → va_P g.1 vwK (wM g m0 m1 m2 m3 m4 m5 m6 m7 m8 m9 m10 m11 m12 now kept aside ik found carried T S) H → va_D A (wM g m0 m1 m2 m3 m4 m5 m6 m7 m8 m9 m10 m11 m12 now kept aside ik found carried T S) → va_S A s.heap H locs → lv_has ls 7 [(0, .ref m0), (5, .int x5), (6, .int x6)] → W p l e (rmm 8 177) s m args below meth c H locs 0 0 Qx (F0 m 78 ls []) := by
    intro now aside found x5 x6 H locs ls hf hP hD hS hl
    unfold fX7_when_J78 at hf
    refine lv_aload_n hx hb dX7_when_78 rfl (lv_at hl 0 rfl) ?_
    refine lv_iload hx hb dX7_when_79 (lv_at hl 2 rfl) ?_
    refine lv_if_eq (tgt := 88) hx hb dX7_when_81 (by decide) (fun hc => ?_) (fun hc => ?_)
    · have hf := if_t hf hc
      refine lv_iconst (v := (0 : Int32)) hx hb dX7_when_88 (by decide) ?_
      obtain ⟨x111, now112, hg, hf⟩ := o2_s hf
      refine Ct.callV0 (ws' := wM g m0 m1 m2 m3 m4 m5 m6 m7 m8 m9 m10 m11 m12 now112 kept aside ik found carried T S) (As := [.int (0 : Int32)]) (rest := []) (st1 := [.int x111]) (c_X7_putBack l g m0 m1 m2 m3 m4 m5 m6 m7 m8 m9 m10 m11 m12 now kept aside ik found carried T S (0 : Int32) hg) (cwV 1 hts gX7_when_X7_putBack rfl rfl rfl q_X7_putBack ⟨Nat.le_of_ble_eq_true rfl, Nat.le_of_ble_eq_true rfl⟩) ⟨hx, hb, hml, hown, hts⟩ hE hP hD hS hA 7 0 rfl rfl rfl rfl hl.1 rfl rfl (Nat.le_of_ble_eq_true rfl) dX7_when_89 (fun H locs hP hD hS => ?_)
      refine lv_iconst (v := (1 : Int32)) hx hb dX7_when_92 (by decide) ?_
      refine lv_icmp_ne (tgt := 101) hx hb dX7_when_93 (by decide) (fun hc => ?_) (fun hc => ?_)
      · have hf := if_f hf hc
        refine lv_aload_n hx hb dX7_when_101 rfl (lv_at hl 0 rfl) ?_
        refine lv_ldc hx hb hown w3 dX7_when_102 ?_
        obtain ⟨x113, found114, hg, hf⟩ := o2_s hf
        refine Ct.callV0 (ws' := wM g m0 m1 m2 m3 m4 m5 m6 m7 m8 m9 m10 m11 m12 now112 kept aside ik found114 carried T S) (As := [.int (-1000004 : Int32)]) (rest := []) (st1 := [.int x113]) (c_X7_finding l g m0 m1 m2 m3 m4 m5 m6 m7 m8 m9 m10 m11 m12 now112 kept aside ik found carried T S (-1000004 : Int32) hg) (cwV 1 hts gX7_when_X7_finding rfl rfl rfl q_X7_finding ⟨Nat.le_of_ble_eq_true rfl, Nat.le_of_ble_eq_true rfl⟩) ⟨hx, hb, hml, hown, hts⟩ hE hP hD hS hA 7 0 rfl rfl rfl rfl hl.1 rfl rfl (Nat.le_of_ble_eq_true rfl) dX7_when_104 (fun H locs hP hD hS => ?_)
        obtain ⟨rfl, rfl, rfl, rfl⟩ := some_p4 hf
        rw [hQ]; exact Ct.iret hx hb hr hlocks hAe hP hD hS dX7_when_107
      · have hf := if_t hf hc
        refine lv_iload hx hb dX7_when_96 (lv_at hl 1 rfl) ?_
        refine lv_goto (tgt := 107) hx hb dX7_when_98 (by decide) ?_
        obtain ⟨rfl, rfl, rfl, rfl⟩ := some_p4 hf
        rw [hQ]; exact Ct.iret hx hb hr hlocks hAe hP hD hS dX7_when_107
    · have hf := if_f hf hc
      refine lv_iconst (v := (1 : Int32)) hx hb dX7_when_84 (by decide) ?_
      refine lv_goto (tgt := 89) hx hb dX7_when_85 (by decide) ?_
      obtain ⟨x115, now116, hg, hf⟩ := o2_s hf
      refine Ct.callV0 (ws' := wM g m0 m1 m2 m3 m4 m5 m6 m7 m8 m9 m10 m11 m12 now116 kept aside ik found carried T S) (As := [.int (1 : Int32)]) (rest := []) (st1 := [.int x115]) (c_X7_putBack l g m0 m1 m2 m3 m4 m5 m6 m7 m8 m9 m10 m11 m12 now kept aside ik found carried T S (1 : Int32) hg) (cwV 1 hts gX7_when_X7_putBack rfl rfl rfl q_X7_putBack ⟨Nat.le_of_ble_eq_true rfl, Nat.le_of_ble_eq_true rfl⟩) ⟨hx, hb, hml, hown, hts⟩ hE hP hD hS hA 7 0 rfl rfl rfl rfl hl.1 rfl rfl (Nat.le_of_ble_eq_true rfl) dX7_when_89 (fun H locs hP hD hS => ?_)
      refine lv_iconst (v := (1 : Int32)) hx hb dX7_when_92 (by decide) ?_
      refine lv_icmp_ne (tgt := 101) hx hb dX7_when_93 (by decide) (fun hc => ?_) (fun hc => ?_)
      · have hf := if_f hf hc
        refine lv_aload_n hx hb dX7_when_101 rfl (lv_at hl 0 rfl) ?_
        refine lv_ldc hx hb hown w3 dX7_when_102 ?_
        obtain ⟨x117, found118, hg, hf⟩ := o2_s hf
        refine Ct.callV0 (ws' := wM g m0 m1 m2 m3 m4 m5 m6 m7 m8 m9 m10 m11 m12 now116 kept aside ik found118 carried T S) (As := [.int (-1000004 : Int32)]) (rest := []) (st1 := [.int x117]) (c_X7_finding l g m0 m1 m2 m3 m4 m5 m6 m7 m8 m9 m10 m11 m12 now116 kept aside ik found carried T S (-1000004 : Int32) hg) (cwV 1 hts gX7_when_X7_finding rfl rfl rfl q_X7_finding ⟨Nat.le_of_ble_eq_true rfl, Nat.le_of_ble_eq_true rfl⟩) ⟨hx, hb, hml, hown, hts⟩ hE hP hD hS hA 7 0 rfl rfl rfl rfl hl.1 rfl rfl (Nat.le_of_ble_eq_true rfl) dX7_when_104 (fun H locs hP hD hS => ?_)
        obtain ⟨rfl, rfl, rfl, rfl⟩ := some_p4 hf
        rw [hQ]; exact Ct.iret hx hb hr hlocks hAe hP hD hS dX7_when_107
      · have hf := if_t hf hc
        refine lv_iload hx hb dX7_when_96 (lv_at hl 1 rfl) ?_
        refine lv_goto (tgt := 107) hx hb dX7_when_98 (by decide) ?_
        obtain ⟨rfl, rfl, rfl, rfl⟩ := some_p4 hf
        rw [hQ]; exact Ct.iret hx hb hr hlocks hAe hP hD hS dX7_when_107
  unfold fX7_when at hf
  refine lv_aload_n hx hb dX7_when_0 rfl (lv_at hl 0 rfl) ?_
  refine lv_iload_n hx hb dX7_when_1 rfl (lv_at hl 1 rfl) ?_
  refine lv_iload_n hx hb dX7_when_2 rfl (lv_at hl 2 rfl) ?_
  refine lv_iload_n hx hb dX7_when_3 rfl (lv_at hl 3 rfl) ?_
  refine lv_iconst (v := (1 : Int32)) hx hb dX7_when_4 (by decide) ?_
  refine lv_bipush (v := (100 : Int32)) hx hb dX7_when_5 (by decide) ?_
  obtain ⟨x101, hg, hf⟩ := o1_s hf
  refine Ct.callV0 (ws' := wM g m0 m1 m2 m3 m4 m5 m6 m7 m8 m9 m10 m11 m12 now kept aside ik found carried T S) (As := [.int a1, .int a2, .int a3, .int (1 : Int32), .int (100 : Int32)]) (rest := []) (st1 := [.int x101]) (c_X7_refuses l g m0 m1 m2 m3 m4 m5 m6 m7 m8 m9 m10 m11 m12 now kept aside ik found carried T S a1 a2 a3 (1 : Int32) (100 : Int32) hg) (cwV 5 hts gX7_when_X7_refuses rfl rfl rfl q_X7_refuses ⟨Nat.le_of_ble_eq_true rfl, Nat.le_of_ble_eq_true rfl⟩) ⟨hx, hb, hml, hown, hts⟩ hE hP hD hS hA 7 0 rfl rfl rfl rfl hl.1 rfl rfl (Nat.le_of_ble_eq_true rfl) dX7_when_7 (fun H locs hP hD hS => ?_)
  refine lv_istore (lv' := [(4, .int x101), (0, .ref m0), (1, .int a1), (2, .int a2), (3, .int a3)]) hx hb dX7_when_10 hl (by decide) rfl (fun ls hl => ?_)
  refine lv_iload hx hb dX7_when_12 (lv_at hl 0 rfl) ?_
  refine lv_if_eq (tgt := 24) hx hb dX7_when_14 (by decide) (fun hc => ?_) (fun hc => ?_)
  · have hf := if_t hf hc
    refine lv_aload_n hx hb dX7_when_24 rfl (lv_at hl 1 rfl) ?_
    refine va_get (D := g.1) (ci := 7) (v := .ref m1) (C := RX7) (T := TX7) (N := 22) hx hb hts i_X7_when_X7 hown hE.1 hP 0 rfl rfl 0 (by decide) w1 (fun _ h9 => h9) rfl dX7_when_25 ?_
    refine lv_aload_n hx hb dX7_when_28 rfl (lv_at hl 1 rfl) ?_
    refine va_get (D := g.1) (ci := 7) (v := .ref m3) (C := RX7) (T := TX7) (N := 22) hx hb hts i_X7_when_X7 hown hE.1 hP 0 rfl rfl 2 (by decide) w2 (fun _ h9 => h9) rfl dX7_when_29 ?_
    obtain ⟨f2102, hg, hf⟩ := o1_s hf
    refine Ct.callS (ws' := wM g m0 m1 m2 m3 m4 m5 m6 m7 m8 m9 m10 m11 m12 now kept f2102 ik found carried T S) (As := [.ref m1, .ref m3]) (rest := []) (st1 := []) (c_X7_copyRow l g m1 m3 120 now aside hg) (va_cwS 2 hts gX7_when_X7_copyRow rfl rfl rfl q_X7_copyRow.2 ⟨Nat.le_of_ble_eq_true rfl, Nat.le_of_ble_eq_true rfl⟩) ⟨hx, hb, hml, hown, hts⟩ hE hP hD hS hA [1, 3] rfl rfl rfl rfl rfl hl.1 rfl rfl (Nat.le_of_ble_eq_true rfl) dX7_when_32 (fun H locs hP hD hS => ?_)
    refine lv_iconst (v := (0 : Int32)) hx hb dX7_when_35 (by decide) ?_
    refine lv_istore (lv' := [(5, .int (0 : Int32)), (4, .int x101), (0, .ref m0), (1, .int a1), (2, .int a2), (3, .int a3)]) hx hb dX7_when_36 hl (by decide) rfl (fun ls hl => ?_)
    refine lv_aload_n hx hb dX7_when_38 rfl (lv_at hl 2 rfl) ?_
    obtain ⟨x103, hg, hf⟩ := o1_s hf
    refine Ct.callV0 (ws' := wM g m0 m1 m2 m3 m4 m5 m6 m7 m8 m9 m10 m11 m12 now kept f2102 ik found carried T S) (As := []) (rest := []) (st1 := [.int x103]) (c_X7_isOpen l g m0 m1 m2 m3 m4 m5 m6 m7 m8 m9 m10 m11 m12 now kept f2102 ik found carried T S hg) (cwV 0 hts gX7_when_X7_isOpen rfl rfl rfl q_X7_isOpen ⟨Nat.le_of_ble_eq_true rfl, Nat.le_of_ble_eq_true rfl⟩) ⟨hx, hb, hml, hown, hts⟩ hE hP hD hS hA 7 0 rfl rfl rfl rfl hl.1 rfl rfl (Nat.le_of_ble_eq_true rfl) dX7_when_39 (fun H locs hP hD hS => ?_)
    refine lv_istore (lv' := [(6, .int x103), (5, .int (0 : Int32)), (4, .int x101), (0, .ref m0), (1, .int a1), (2, .int a2), (3, .int a3)]) hx hb dX7_when_42 hl (by decide) rfl (fun ls hl => ?_)
    refine L44 _ _ _ _ _ _ _ _ _ _ _ _ _  hf hP hD hS (lv_sub hl [3, 4, 5, 6, 1, 0] rfl) (fun now108 x109 x110 H locs ls hf hP hD hS hl => ?_)
    exact J78 _ _ _ _ _ _ _ _  hf hP hD hS (lv_sub hl [0, 1, 2] rfl)
  · have hf := if_f hf hc
    refine lv_aload_n hx hb dX7_when_17 rfl (lv_at hl 1 rfl) ?_
    refine lv_iload hx hb dX7_when_18 (lv_at hl 0 rfl) ?_
    obtain ⟨x119, found120, hg, hf⟩ := o2_s hf
    refine Ct.callV0 (ws' := wM g m0 m1 m2 m3 m4 m5 m6 m7 m8 m9 m10 m11 m12 now kept aside ik found120 carried T S) (As := [.int x101]) (rest := []) (st1 := [.int x119]) (c_X7_finding l g m0 m1 m2 m3 m4 m5 m6 m7 m8 m9 m10 m11 m12 now kept aside ik found carried T S x101 hg) (cwV 1 hts gX7_when_X7_finding rfl rfl rfl q_X7_finding ⟨Nat.le_of_ble_eq_true rfl, Nat.le_of_ble_eq_true rfl⟩) ⟨hx, hb, hml, hown, hts⟩ hE hP hD hS hA 7 0 rfl rfl rfl rfl hl.1 rfl rfl (Nat.le_of_ble_eq_true rfl) dX7_when_20 (fun H locs hP hD hS => ?_)
    obtain ⟨rfl, rfl, rfl, rfl⟩ := some_p4 hf
    rw [hQ]; exact Ct.iret hx hb hr hlocks hAe hP hD hS dX7_when_23
def fX7_rows_L4 (x0 : Int32) (kx : Int32 → Option (Int32)) : Nat → Int32 → Int32 → Option (Int32)
  | 0, _, _ => none
  | k + 1, x1, x2 => if x0 ≤ x2 then (kx x1) else (fX7_rows_L4 x0 kx k (x1 * (5 : Int32)) (x2 + (1 : Int32)))
def fX7_rows (a1 : Int32) : Option (Int32) := fX7_rows_L4 a1 (fun x101 => some x101) fu (1 : Int32) (0 : Int32)
theorem q_X7_rows : yX7_rows.cls = RX7 ∧ yX7_rows.cls ≠ "java/lang/invoke/MethodHandle" ∧ yX7_rows.cls ≠ "java/lang/invoke/VarHandle" ∧ (parseMethodDescriptor yX7_rows.desc).map (fun d => d.parameters.length) = some 1 := by decide +kernel
set_option maxHeartbeats 4000000 in
set_option maxRecDepth 100000 in
theorem c_X7_rows (l : Launch) (g : gG) (a1 : Int32) {r : Int32} (hf : fX7_rows a1 = some r) : Ct l yX7_rows wsX7_rows (rmm 0 0) g (wNil g  ) (wNil g  ) [.int a1] (some (.int r)) := by
  refine Ct.mk (by decide) rfl (Nat.le_of_ble_eq_true rfl) ?_
  intro p e s m args below meth c A ls hx hb hr hml hts hown hlocks hA hE hP hD hS hl hAe
  obtain ⟨Qx, hQ⟩ : ∃ Qx : State → Prop, Qx = MQ below (QcG g (wNil g  ) (wNil g  ) (some (.int r)) s.heap.size) args s 0 0 A := ⟨_, rfl⟩
  rw [← hQ]
  have hown : s.vm.findClass RX7 = some m.cls := hown
  have hl : lv_has ls 3 [(0, .int a1)] := hl
  have L4 : ∀ (x0 : Int32) (kx : Int32 → Option (Int32)) (k : Nat) (x1 : Int32) (x2 : Int32) (H : Heap) (locs : List Loc) (ls : Array Slot), fX7_rows_L4 x0 kx k x1 x2 = some r → va_P g.1 vwK (wNil g  ) H → va_D A (wNil g  ) → va_S A s.heap H locs → lv_has ls 3 [(0, .int x0), (1, .int x1), (2, .int x2)] → (∀ (x1 : Int32) (H : Heap) (locs : List Loc) (ls : Array Slot), kx x1 = some r → va_P g.1 vwK (wNil g  ) H → va_D A (wNil g  ) → va_S A s.heap H locs → lv_has ls 3 [(1, .int x1)] → W p l e (rmm 0 0) s m args below meth c H locs 0 0 Qx (F0 m 19 ls [])) → W p l e (rmm 0 0) s m args below meth c H locs 0 0 Qx (F0 m 4 ls []) := by
    intro x0 kx k
    induction k with
    | zero => intro x1 x2 H locs ls hf; exact nomatch (show (none : Option (Int32)) = some _ from hf)
    | succ k ih =>
      intro x1 x2 H locs ls hf hP hD hS hl hk
      rw [fX7_rows_L4] at hf
      refine lv_iload_n hx hb dX7_rows_4 rfl (lv_at hl 2 rfl) ?_
      refine lv_iload_n hx hb dX7_rows_5 rfl (lv_at hl 0 rfl) ?_
      refine lv_icmp_ge (tgt := 19) hx hb dX7_rows_6 (by decide) (fun hc => ?_) (fun hc => ?_)
      · have hf := if_t hf hc
        exact hk _ _ _ _  hf hP hD hS (lv_sub hl [1] rfl)
      · have hf := if_f hf hc
        refine lv_iload_n hx hb dX7_rows_9 rfl (lv_at hl 1 rfl) ?_
        refine lv_iconst (v := (5 : Int32)) hx hb dX7_rows_10 (by decide) ?_
        refine lv_imul hx hb dX7_rows_11 ?_
        refine lv_istore_n (lv' := [(1, .int (x1 * (5 : Int32))), (0, .int x0), (2, .int x2)]) hx hb dX7_rows_12 rfl hl (by decide) rfl (fun ls hl => ?_)
        refine lv_iinc (v := (x2 + (1 : Int32))) (lv' := [(2, .int (x2 + (1 : Int32))), (1, .int (x1 * (5 : Int32))), (0, .int x0)]) hx hb dX7_rows_13 hl (k := 2) rfl rfl (by decide) rfl (fun ls hl => ?_)
        refine lv_goto (tgt := 4) hx hb dX7_rows_16 (by decide) ?_
        exact ih _ _ _ _ _  hf hP hD hS (lv_sub hl [2, 1, 0] rfl) hk
  unfold fX7_rows at hf
  refine lv_iconst (v := (1 : Int32)) hx hb dX7_rows_0 (by decide) ?_
  refine lv_istore_n (lv' := [(1, .int (1 : Int32)), (0, .int a1)]) hx hb dX7_rows_1 rfl hl (by decide) rfl (fun ls hl => ?_)
  refine lv_iconst (v := (0 : Int32)) hx hb dX7_rows_2 (by decide) ?_
  refine lv_istore_n (lv' := [(2, .int (0 : Int32)), (1, .int (1 : Int32)), (0, .int a1)]) hx hb dX7_rows_3 rfl hl (by decide) rfl (fun ls hl => ?_)
  refine L4 _ _ _ _ _ _ _ _  hf hP hD hS (lv_sub hl [2, 1, 0] rfl) (fun x101 H locs ls hf hP hD hS hl => ?_)
  refine lv_iload_n hx hb dX7_rows_19 rfl (lv_at hl 0 rfl) ?_
  obtain rfl := Option.some.inj hf
  rw [hQ]; exact Ct.iret hx hb hr hlocks hAe hP hD hS dX7_rows_20
def fX7_signOf (a1 : Int32) (a2 : Int32) (a3 : Int32) : Option (Int32) := o1 (fX7_rows ((a2 - (1 : Int32)) - a3)) (fun x101 => nz x101 (some ((a1 / x101) - (a1 / x101) / (5 : Int32) * (5 : Int32))))
theorem q_X7_signOf : yX7_signOf.cls = RX7 ∧ yX7_signOf.cls ≠ "java/lang/invoke/MethodHandle" ∧ yX7_signOf.cls ≠ "java/lang/invoke/VarHandle" ∧ (parseMethodDescriptor yX7_signOf.desc).map (fun d => d.parameters.length) = some 3 := by decide +kernel
set_option maxHeartbeats 4000000 in
set_option maxRecDepth 100000 in
theorem c_X7_signOf (l : Launch) (g : gG) (a1 : Int32) (a2 : Int32) (a3 : Int32) {r : Int32} (hf : fX7_signOf a1 a2 a3 = some r) : Ct l yX7_signOf wsX7_signOf (rmm 1 22) g (wNil g  ) (wNil g  ) [.int a1, .int a2, .int a3] (some (.int r)) := by
  refine Ct.mk (by decide) rfl (Nat.le_of_ble_eq_true rfl) ?_
  intro p e s m args below meth c A ls hx hb hr hml hts hown hlocks hA hE hP hD hS hl hAe
  obtain ⟨Qx, hQ⟩ : ∃ Qx : State → Prop, Qx = MQ below (QcG g (wNil g  ) (wNil g  ) (some (.int r)) s.heap.size) args s 0 0 A := ⟨_, rfl⟩
  rw [← hQ]
  have hown : s.vm.findClass RX7 = some m.cls := hown
  have hl : lv_has ls 3 [(0, .int a1), (1, .int a2), (2, .int a3)] := hl
  unfold fX7_signOf at hf
  refine lv_iload_n hx hb dX7_signOf_0 rfl (lv_at hl 0 rfl) ?_
  refine lv_iload_n hx hb dX7_signOf_1 rfl (lv_at hl 1 rfl) ?_
  refine lv_iconst (v := (1 : Int32)) hx hb dX7_signOf_2 (by decide) ?_
  refine lv_isub hx hb dX7_signOf_3 ?_
  refine lv_iload_n hx hb dX7_signOf_4 rfl (lv_at hl 2 rfl) ?_
  refine lv_isub hx hb dX7_signOf_5 ?_
  obtain ⟨x101, hg, hf⟩ := o1_s hf
  refine Ct.callS (ws' := wNil g  ) (As := [.int ((a2 - (1 : Int32)) - a3)]) (rest := [.int a1]) (st1 := [.int x101, .int a1]) (c_X7_rows l g ((a2 - (1 : Int32)) - a3) hg) (va_cwS 1 hts gX7_signOf_X7_rows rfl rfl rfl q_X7_rows.2 ⟨Nat.le_of_ble_eq_true rfl, Nat.le_of_ble_eq_true rfl⟩) ⟨hx, hb, hml, hown, hts⟩ hE hP hD hS hA [] rfl rfl rfl rfl rfl hl.1 rfl rfl (Nat.le_of_ble_eq_true rfl) dX7_signOf_6 (fun H locs hP hD hS => ?_)
  obtain ⟨hz, hf⟩ := nz_s hf
  refine lv_idiv hx hb dX7_signOf_9 hz ?_
  refine lv_iconst (v := (5 : Int32)) hx hb dX7_signOf_10 (by decide) ?_
  refine lv_irem hx hb dX7_signOf_11 (by decide) ?_
  obtain rfl := Option.some.inj hf
  rw [hQ]; exact Ct.iret hx hb hr hlocks hAe hP hD hS dX7_signOf_12
def fX7_rainGoes_L2 (x1 : Int32) (x2 : Int32) (kx : (Nat → Int32) → Option ((Nat → Int32))) : Nat → (Nat → Int32) → Int32 → Option ((Nat → Int32))
  | 0, _, _ => none
  | k + 1, now, x3 => if x2 ≤ x3 then (kx now) else (o1 (fX7_signOf x1 x2 x3) (fun x106 => if x106 = 0 then (o2 (fX7_hour now (0 : Int32) (0 : Int32)) (fun x109 now110 => fX7_rainGoes_L2 x1 x2 kx k now110 (x3 + (1 : Int32)))) else (o2 (fX7_hour now (x106 - (1 : Int32)) (3 : Int32)) (fun x107 now108 => fX7_rainGoes_L2 x1 x2 kx k now108 (x3 + (1 : Int32))))))
def fX7_rainGoes (now : Nat → Int32) (a1 : Int32) (a2 : Int32) : Option ((Nat → Int32)) := fX7_rainGoes_L2 a1 a2 (fun now111 => some now111) fu now (0 : Int32)
theorem q_X7_rainGoes : yX7_rainGoes.cls = RX7 ∧ yX7_rainGoes.cls ≠ "java/lang/invoke/MethodHandle" ∧ yX7_rainGoes.cls ≠ "java/lang/invoke/VarHandle" ∧ (parseMethodDescriptor yX7_rainGoes.desc).map (fun d => d.parameters.length) = some 2 := by decide +kernel
set_option maxHeartbeats 4000000 in
set_option maxRecDepth 100000 in
theorem c_X7_rainGoes (l : Launch) (g : gG) (m0 m1 m2 m3 m4 m5 m6 m7 m8 m9 m10 m11 m12 : Nat) (now : Nat → Int32) (kept : Nat → Int32) (aside : Nat → Int32) (ik : Int32) (found : Nat → Int32) (carried : Nat → Int32) (T : Mt) (S : Ms) (a1 : Int32) (a2 : Int32) {now' : Nat → Int32} (hf : fX7_rainGoes now a1 a2 = some now') : Ct l yX7_rainGoes wsX7_rainGoes (rmm 8 177) g (wM g m0 m1 m2 m3 m4 m5 m6 m7 m8 m9 m10 m11 m12 now kept aside ik found carried T S) (wM g m0 m1 m2 m3 m4 m5 m6 m7 m8 m9 m10 m11 m12 (now') kept aside ik found carried T S) [.ref m0, .int a1, .int a2] none := by
  refine Ct.mk (by decide) rfl (Nat.le_of_ble_eq_true rfl) ?_
  intro p e s m args below meth c A ls hx hb hr hml hts hown hlocks hA hE hP hD hS hl hAe
  obtain ⟨Qx, hQ⟩ : ∃ Qx : State → Prop, Qx = MQ below (QcG g (wM g m0 m1 m2 m3 m4 m5 m6 m7 m8 m9 m10 m11 m12 now kept aside ik found carried T S) (wM g m0 m1 m2 m3 m4 m5 m6 m7 m8 m9 m10 m11 m12 (now') kept aside ik found carried T S) none s.heap.size) args s 0 0 A := ⟨_, rfl⟩
  rw [← hQ]
  have hown : s.vm.findClass RX7 = some m.cls := hown
  have hl : lv_has ls 6 [(0, .ref m0), (1, .int a1), (2, .int a2)] := hl
  have L2 : ∀ (x1 : Int32) (x2 : Int32) (kx : (Nat → Int32) → Option ((Nat → Int32))) (k : Nat) (now : Nat → Int32) (x3 : Int32) (H : Heap) (locs : List Loc) (ls : Array Slot), fX7_rainGoes_L2 x1 x2 kx k now x3 = some now' → va_P g.1 vwK (wM g m0 m1 m2 m3 m4 m5 m6 m7 m8 m9 m10 m11 m12 now kept aside ik found carried T S) H → va_D A (wM g m0 m1 m2 m3 m4 m5 m6 m7 m8 m9 m10 m11 m12 now kept aside ik found carried T S) → va_S A s.heap H locs → lv_has ls 6 [(0, .ref m0), (1, .int x1), (2, .int x2), (3, .int x3)] → (∀ (now : Nat → Int32) (H : Heap) (locs : List Loc) (ls : Array Slot), kx now = some now' → va_P g.1 vwK (wM g m0 m1 m2 m3 m4 m5 m6 m7 m8 m9 m10 m11 m12 now kept aside ik found carried T S) H → va_D A (wM g m0 m1 m2 m3 m4 m5 m6 m7 m8 m9 m10 m11 m12 now kept aside ik found carried T S) → va_S A s.heap H locs → lv_has ls 6 [] → W p l e (rmm 8 177) s m args below meth c H locs 0 0 Qx (F0 m 46 ls [])) → W p l e (rmm 8 177) s m args below meth c H locs 0 0 Qx (F0 m 2 ls []) := by
    intro x1 x2 kx k
    induction k with
    | zero => intro now x3 H locs ls hf; exact nomatch (show (none : Option ((Nat → Int32))) = some _ from hf)
    | succ k ih =>
      intro now x3 H locs ls hf hP hD hS hl hk
      rw [fX7_rainGoes_L2] at hf
      refine lv_iload_n hx hb dX7_rainGoes_2 rfl (lv_at hl 3 rfl) ?_
      refine lv_iload_n hx hb dX7_rainGoes_3 rfl (lv_at hl 2 rfl) ?_
      refine lv_icmp_ge (tgt := 46) hx hb dX7_rainGoes_4 (by decide) (fun hc => ?_) (fun hc => ?_)
      · have hf := if_t hf hc
        exact hk _ _ _ _  hf hP hD hS (lv_sub hl [] rfl)
      · have hf := if_f hf hc
        refine lv_iload_n hx hb dX7_rainGoes_7 rfl (lv_at hl 1 rfl) ?_
        refine lv_iload_n hx hb dX7_rainGoes_8 rfl (lv_at hl 2 rfl) ?_
        refine lv_iload_n hx hb dX7_rainGoes_9 rfl (lv_at hl 3 rfl) ?_
        obtain ⟨x106, hg, hf⟩ := o1_s hf
        refine Ct.callS (ws' := wM g m0 m1 m2 m3 m4 m5 m6 m7 m8 m9 m10 m11 m12 now kept aside ik found carried T S) (As := [.int x1, .int x2, .int x3]) (rest := []) (st1 := [.int x106]) (c_X7_signOf l g x1 x2 x3 hg) (va_cwS 3 hts gX7_rainGoes_X7_signOf rfl rfl rfl q_X7_signOf.2 ⟨Nat.le_of_ble_eq_true rfl, Nat.le_of_ble_eq_true rfl⟩) ⟨hx, hb, hml, hown, hts⟩ hE hP hD hS hA [] rfl rfl rfl rfl rfl hl.1 rfl rfl (Nat.le_of_ble_eq_true rfl) dX7_rainGoes_10 (fun H locs hP hD hS => ?_)
        refine lv_istore (lv' := [(4, .int x106), (0, .ref m0), (1, .int x1), (2, .int x2), (3, .int x3)]) hx hb dX7_rainGoes_13 hl (by decide) rfl (fun ls hl => ?_)
        refine lv_iload hx hb dX7_rainGoes_15 (lv_at hl 0 rfl) ?_
        refine lv_if_ne (tgt := 29) hx hb dX7_rainGoes_17 (by decide) (fun hc => ?_) (fun hc => ?_)
        · have hf := if_f hf hc
          refine lv_aload_n hx hb dX7_rainGoes_29 rfl (lv_at hl 1 rfl) ?_
          refine lv_iload hx hb dX7_rainGoes_30 (lv_at hl 0 rfl) ?_
          refine lv_iconst (v := (1 : Int32)) hx hb dX7_rainGoes_32 (by decide) ?_
          refine lv_isub hx hb dX7_rainGoes_33 ?_
          refine lv_iconst (v := (3 : Int32)) hx hb dX7_rainGoes_34 (by decide) ?_
          obtain ⟨x107, now108, hg, hf⟩ := o2_s hf
          refine Ct.callV0 (ws' := wM g m0 m1 m2 m3 m4 m5 m6 m7 m8 m9 m10 m11 m12 now108 kept aside ik found carried T S) (As := [.int (x106 - (1 : Int32)), .int (3 : Int32)]) (rest := []) (st1 := [.int x107]) (c_X7_hour l g m0 m1 m2 m3 m4 m5 m6 m7 m8 m9 m10 m11 m12 now kept aside ik found carried T S (x106 - (1 : Int32)) (3 : Int32) hg) (cwV 2 hts gX7_rainGoes_X7_hour rfl rfl rfl q_X7_hour ⟨Nat.le_of_ble_eq_true rfl, Nat.le_of_ble_eq_true rfl⟩) ⟨hx, hb, hml, hown, hts⟩ hE hP hD hS hA 7 0 rfl rfl rfl rfl hl.1 rfl rfl (Nat.le_of_ble_eq_true rfl) dX7_rainGoes_35 (fun H locs hP hD hS => ?_)
          refine lv_istore (lv' := [(5, .int x107), (4, .int x106), (0, .ref m0), (1, .int x1), (2, .int x2), (3, .int x3)]) hx hb dX7_rainGoes_38 hl (by decide) rfl (fun ls hl => ?_)
          refine lv_iinc (v := (x3 + (1 : Int32))) (lv' := [(3, .int (x3 + (1 : Int32))), (5, .int x107), (4, .int x106), (0, .ref m0), (1, .int x1), (2, .int x2)]) hx hb dX7_rainGoes_40 hl (k := 5) rfl rfl (by decide) rfl (fun ls hl => ?_)
          refine lv_goto (tgt := 2) hx hb dX7_rainGoes_43 (by decide) ?_
          exact ih _ _ _ _ _  hf hP hD hS (lv_sub hl [3, 4, 5, 0] rfl) hk
        · have hf := if_t hf hc
          refine lv_aload_n hx hb dX7_rainGoes_20 rfl (lv_at hl 1 rfl) ?_
          refine lv_iconst (v := (0 : Int32)) hx hb dX7_rainGoes_21 (by decide) ?_
          refine lv_iconst (v := (0 : Int32)) hx hb dX7_rainGoes_22 (by decide) ?_
          obtain ⟨x109, now110, hg, hf⟩ := o2_s hf
          refine Ct.callV0 (ws' := wM g m0 m1 m2 m3 m4 m5 m6 m7 m8 m9 m10 m11 m12 now110 kept aside ik found carried T S) (As := [.int (0 : Int32), .int (0 : Int32)]) (rest := []) (st1 := [.int x109]) (c_X7_hour l g m0 m1 m2 m3 m4 m5 m6 m7 m8 m9 m10 m11 m12 now kept aside ik found carried T S (0 : Int32) (0 : Int32) hg) (cwV 2 hts gX7_rainGoes_X7_hour rfl rfl rfl q_X7_hour ⟨Nat.le_of_ble_eq_true rfl, Nat.le_of_ble_eq_true rfl⟩) ⟨hx, hb, hml, hown, hts⟩ hE hP hD hS hA 7 0 rfl rfl rfl rfl hl.1 rfl rfl (Nat.le_of_ble_eq_true rfl) dX7_rainGoes_23 (fun H locs hP hD hS => ?_)
          refine lv_goto (tgt := 38) hx hb dX7_rainGoes_26 (by decide) ?_
          refine lv_istore (lv' := [(5, .int x109), (4, .int x106), (0, .ref m0), (1, .int x1), (2, .int x2), (3, .int x3)]) hx hb dX7_rainGoes_38 hl (by decide) rfl (fun ls hl => ?_)
          refine lv_iinc (v := (x3 + (1 : Int32))) (lv' := [(3, .int (x3 + (1 : Int32))), (5, .int x109), (4, .int x106), (0, .ref m0), (1, .int x1), (2, .int x2)]) hx hb dX7_rainGoes_40 hl (k := 5) rfl rfl (by decide) rfl (fun ls hl => ?_)
          refine lv_goto (tgt := 2) hx hb dX7_rainGoes_43 (by decide) ?_
          exact ih _ _ _ _ _  hf hP hD hS (lv_sub hl [3, 4, 5, 0] rfl) hk
  unfold fX7_rainGoes at hf
  refine lv_iconst (v := (0 : Int32)) hx hb dX7_rainGoes_0 (by decide) ?_
  refine lv_istore_n (lv' := [(3, .int (0 : Int32)), (0, .ref m0), (1, .int a1), (2, .int a2)]) hx hb dX7_rainGoes_1 rfl hl (by decide) rfl (fun ls hl => ?_)
  refine L2 _ _ _ _ _ _ _ _ _  hf hP hD hS (lv_sub hl [1, 2, 3, 0] rfl) (fun now111 H locs ls hf hP hD hS hl => ?_)
  obtain rfl := Option.some.inj hf
  rw [hQ]; exact Ct.vret hx hb hr hlocks hAe hP hD hS dX7_rainGoes_46
def fX7_opens (now : Nat → Int32) (aside : Nat → Int32) (a1 : Int32) (a2 : Int32) : Option (Int32 × (Nat → Int32)) := o1 (fX7_rainGoes now a1 a2) (fun now101 => o1 (fX7_open now101) (fun x102 => o2 (fX7_putBack now101 aside x102) (fun x103 now104 => if x103 = (1 : Int32) then (some ((1 : Int32), now104)) else (some ((0 : Int32), now104)))))
theorem q_X7_opens : yX7_opens.cls = RX7 ∧ yX7_opens.cls ≠ "java/lang/invoke/MethodHandle" ∧ yX7_opens.cls ≠ "java/lang/invoke/VarHandle" ∧ (parseMethodDescriptor yX7_opens.desc).map (fun d => d.parameters.length) = some 2 := by decide +kernel
set_option maxHeartbeats 4000000 in
set_option maxRecDepth 100000 in
theorem c_X7_opens (l : Launch) (g : gG) (m0 m1 m2 m3 m4 m5 m6 m7 m8 m9 m10 m11 m12 : Nat) (now : Nat → Int32) (kept : Nat → Int32) (aside : Nat → Int32) (ik : Int32) (found : Nat → Int32) (carried : Nat → Int32) (T : Mt) (S : Ms) (a1 : Int32) (a2 : Int32) {r : Int32} {now' : Nat → Int32} (hf : fX7_opens now aside a1 a2 = some (r, now')) : Ct l yX7_opens wsX7_opens (rmm 9 202) g (wM g m0 m1 m2 m3 m4 m5 m6 m7 m8 m9 m10 m11 m12 now kept aside ik found carried T S) (wM g m0 m1 m2 m3 m4 m5 m6 m7 m8 m9 m10 m11 m12 (now') kept aside ik found carried T S) [.ref m0, .int a1, .int a2] (some (.int r)) := by
  refine Ct.mk (by decide) rfl (Nat.le_of_ble_eq_true rfl) ?_
  intro p e s m args below meth c A ls hx hb hr hml hts hown hlocks hA hE hP hD hS hl hAe
  obtain ⟨Qx, hQ⟩ : ∃ Qx : State → Prop, Qx = MQ below (QcG g (wM g m0 m1 m2 m3 m4 m5 m6 m7 m8 m9 m10 m11 m12 now kept aside ik found carried T S) (wM g m0 m1 m2 m3 m4 m5 m6 m7 m8 m9 m10 m11 m12 (now') kept aside ik found carried T S) (some (.int r)) s.heap.size) args s 0 0 A := ⟨_, rfl⟩
  rw [← hQ]
  have hown : s.vm.findClass RX7 = some m.cls := hown
  have hl : lv_has ls 3 [(0, .ref m0), (1, .int a1), (2, .int a2)] := hl
  unfold fX7_opens at hf
  refine lv_aload_n hx hb dX7_opens_0 rfl (lv_at hl 0 rfl) ?_
  refine lv_iload_n hx hb dX7_opens_1 rfl (lv_at hl 1 rfl) ?_
  refine lv_iload_n hx hb dX7_opens_2 rfl (lv_at hl 2 rfl) ?_
  obtain ⟨now101, hg, hf⟩ := o1_s hf
  refine Ct.callV0 (ws' := wM g m0 m1 m2 m3 m4 m5 m6 m7 m8 m9 m10 m11 m12 now101 kept aside ik found carried T S) (As := [.int a1, .int a2]) (rest := []) (st1 := []) (c_X7_rainGoes l g m0 m1 m2 m3 m4 m5 m6 m7 m8 m9 m10 m11 m12 now kept aside ik found carried T S a1 a2 hg) (cwV 2 hts gX7_opens_X7_rainGoes rfl rfl rfl q_X7_rainGoes ⟨Nat.le_of_ble_eq_true rfl, Nat.le_of_ble_eq_true rfl⟩) ⟨hx, hb, hml, hown, hts⟩ hE hP hD hS hA 7 0 rfl rfl rfl rfl hl.1 rfl rfl (Nat.le_of_ble_eq_true rfl) dX7_opens_3 (fun H locs hP hD hS => ?_)
  refine lv_aload_n hx hb dX7_opens_6 rfl (lv_at hl 0 rfl) ?_
  refine lv_aload_n hx hb dX7_opens_7 rfl (lv_at hl 0 rfl) ?_
  obtain ⟨x102, hg, hf⟩ := o1_s hf
  refine Ct.callV0 (ws' := wM g m0 m1 m2 m3 m4 m5 m6 m7 m8 m9 m10 m11 m12 now101 kept aside ik found carried T S) (As := []) (rest := [.ref m0]) (st1 := [.int x102, .ref m0]) (c_X7_open l g m0 m1 m2 m3 m4 m5 m6 m7 m8 m9 m10 m11 m12 now101 kept aside ik found carried T S hg) (cwV 0 hts gX7_opens_X7_open rfl rfl rfl q_X7_open ⟨Nat.le_of_ble_eq_true rfl, Nat.le_of_ble_eq_true rfl⟩) ⟨hx, hb, hml, hown, hts⟩ hE hP hD hS hA 7 0 rfl rfl rfl rfl hl.1 rfl rfl (Nat.le_of_ble_eq_true rfl) dX7_opens_8 (fun H locs hP hD hS => ?_)
  obtain ⟨x103, now104, hg, hf⟩ := o2_s hf
  refine Ct.callV0 (ws' := wM g m0 m1 m2 m3 m4 m5 m6 m7 m8 m9 m10 m11 m12 now104 kept aside ik found carried T S) (As := [.int x102]) (rest := []) (st1 := [.int x103]) (c_X7_putBack l g m0 m1 m2 m3 m4 m5 m6 m7 m8 m9 m10 m11 m12 now101 kept aside ik found carried T S x102 hg) (cwV 1 hts gX7_opens_X7_putBack rfl rfl rfl q_X7_putBack ⟨Nat.le_of_ble_eq_true rfl, Nat.le_of_ble_eq_true rfl⟩) ⟨hx, hb, hml, hown, hts⟩ hE hP hD hS hA 7 0 rfl rfl rfl rfl hl.1 rfl rfl (Nat.le_of_ble_eq_true rfl) dX7_opens_11 (fun H locs hP hD hS => ?_)
  refine lv_iconst (v := (1 : Int32)) hx hb dX7_opens_14 (by decide) ?_
  refine lv_icmp_ne (tgt := 22) hx hb dX7_opens_15 (by decide) (fun hc => ?_) (fun hc => ?_)
  · have hf := if_f hf hc
    refine lv_iconst (v := (0 : Int32)) hx hb dX7_opens_22 (by decide) ?_
    obtain ⟨rfl, rfl⟩ := some_p2 hf
    rw [hQ]; exact Ct.zret hx hb hr (by decide) hlocks hAe hP hD hS dX7_opens_23
  · have hf := if_t hf hc
    refine lv_iconst (v := (1 : Int32)) hx hb dX7_opens_18 (by decide) ?_
    refine lv_goto (tgt := 23) hx hb dX7_opens_19 (by decide) ?_
    obtain ⟨rfl, rfl⟩ := some_p2 hf
    rw [hQ]; exact Ct.zret hx hb hr (by decide) hlocks hAe hP hD hS dX7_opens_23
def fX7_refusesRows (now : Nat → Int32) (a1 : Int32) : Option (Int32) := o1 (fX7_within a1 (0 : Int32) (5 : Int32)) (fun x101 => if x101 = 0 then (some (-1000001 : Int32)) else (o1 (fX7_isTooLate now a1) (fun x102 => if x102 = 0 then (some (0 : Int32)) else (some (-1000005 : Int32)))))
theorem q_X7_refusesRows : yX7_refusesRows.cls = RX7 ∧ yX7_refusesRows.cls ≠ "java/lang/invoke/MethodHandle" ∧ yX7_refusesRows.cls ≠ "java/lang/invoke/VarHandle" ∧ (parseMethodDescriptor yX7_refusesRows.desc).map (fun d => d.parameters.length) = some 1 := by decide +kernel
set_option maxHeartbeats 4000000 in
set_option maxRecDepth 100000 in
theorem c_X7_refusesRows (l : Launch) (g : gG) (m0 m1 m2 m3 m4 m5 m6 m7 m8 m9 m10 m11 m12 : Nat) (now : Nat → Int32) (kept : Nat → Int32) (aside : Nat → Int32) (ik : Int32) (found : Nat → Int32) (carried : Nat → Int32) (T : Mt) (S : Ms) (a1 : Int32) {r : Int32} (hf : fX7_refusesRows now a1 = some r) : Ct l yX7_refusesRows wsX7_refusesRows (rmm 1 22) g (wM g m0 m1 m2 m3 m4 m5 m6 m7 m8 m9 m10 m11 m12 now kept aside ik found carried T S) (wM g m0 m1 m2 m3 m4 m5 m6 m7 m8 m9 m10 m11 m12 now kept aside ik found carried T S) [.ref m0, .int a1] (some (.int r)) := by
  refine Ct.mk (by decide) rfl (Nat.le_of_ble_eq_true rfl) ?_
  intro p e s m args below meth c A ls hx hb hr hml hts hown hlocks hA hE hP hD hS hl hAe
  obtain ⟨Qx, hQ⟩ : ∃ Qx : State → Prop, Qx = MQ below (QcG g (wM g m0 m1 m2 m3 m4 m5 m6 m7 m8 m9 m10 m11 m12 now kept aside ik found carried T S) (wM g m0 m1 m2 m3 m4 m5 m6 m7 m8 m9 m10 m11 m12 now kept aside ik found carried T S) (some (.int r)) s.heap.size) args s 0 0 A := ⟨_, rfl⟩
  rw [← hQ]
  have hown : s.vm.findClass RX7 = some m.cls := hown
  have hl : lv_has ls 2 [(0, .ref m0), (1, .int a1)] := hl
  have w1 := hts (.constant RX7 173 (-1000005)) (List.mem_of_getElem? (i := 2) rfl)
  have w2 := hts (.constant RX7 63 (-1000001)) (List.mem_of_getElem? (i := 1) rfl)
  unfold fX7_refusesRows at hf
  refine lv_iload_n hx hb dX7_refusesRows_0 rfl (lv_at hl 1 rfl) ?_
  refine lv_iconst (v := (0 : Int32)) hx hb dX7_refusesRows_1 (by decide) ?_
  refine lv_iconst (v := (5 : Int32)) hx hb dX7_refusesRows_2 (by decide) ?_
  obtain ⟨x101, hg, hf⟩ := o1_s hf
  refine Ct.callS (ws' := wM g m0 m1 m2 m3 m4 m5 m6 m7 m8 m9 m10 m11 m12 now kept aside ik found carried T S) (As := [.int a1, .int (0 : Int32), .int (5 : Int32)]) (rest := []) (st1 := [.int x101]) (c_X7_within l g a1 (0 : Int32) (5 : Int32) hg) (va_cwS 3 hts gX7_refusesRows_X7_within rfl rfl rfl q_X7_within.2 ⟨Nat.le_of_ble_eq_true rfl, Nat.le_of_ble_eq_true rfl⟩) ⟨hx, hb, hml, hown, hts⟩ hE hP hD hS hA [] rfl rfl rfl rfl rfl hl.1 rfl rfl (Nat.le_of_ble_eq_true rfl) dX7_refusesRows_3 (fun H locs hP hD hS => ?_)
  refine lv_if_ne (tgt := 14) hx hb dX7_refusesRows_6 (by decide) (fun hc => ?_) (fun hc => ?_)
  · have hf := if_f hf hc
    refine lv_aload_n hx hb dX7_refusesRows_14 rfl (lv_at hl 0 rfl) ?_
    refine lv_iload_n hx hb dX7_refusesRows_15 rfl (lv_at hl 1 rfl) ?_
    obtain ⟨x102, hg, hf⟩ := o1_s hf
    refine Ct.callV0 (ws' := wM g m0 m1 m2 m3 m4 m5 m6 m7 m8 m9 m10 m11 m12 now kept aside ik found carried T S) (As := [.int a1]) (rest := []) (st1 := [.int x102]) (c_X7_isTooLate l g m0 m1 m2 m3 m4 m5 m6 m7 m8 m9 m10 m11 m12 now kept aside ik found carried T S a1 hg) (cwV 1 hts gX7_refusesRows_X7_isTooLate rfl rfl rfl q_X7_isTooLate ⟨Nat.le_of_ble_eq_true rfl, Nat.le_of_ble_eq_true rfl⟩) ⟨hx, hb, hml, hown, hts⟩ hE hP hD hS hA 7 0 rfl rfl rfl rfl hl.1 rfl rfl (Nat.le_of_ble_eq_true rfl) dX7_refusesRows_16 (fun H locs hP hD hS => ?_)
    refine lv_if_eq (tgt := 27) hx hb dX7_refusesRows_19 (by decide) (fun hc => ?_) (fun hc => ?_)
    · have hf := if_t hf hc
      refine lv_iconst (v := (0 : Int32)) hx hb dX7_refusesRows_27 (by decide) ?_
      obtain rfl := Option.some.inj hf
      rw [hQ]; exact Ct.iret hx hb hr hlocks hAe hP hD hS dX7_refusesRows_28
    · have hf := if_f hf hc
      refine lv_ldc hx hb hown w1 dX7_refusesRows_22 ?_
      refine lv_goto (tgt := 28) hx hb dX7_refusesRows_24 (by decide) ?_
      obtain rfl := Option.some.inj hf
      rw [hQ]; exact Ct.iret hx hb hr hlocks hAe hP hD hS dX7_refusesRows_28
  · have hf := if_t hf hc
    refine lv_ldc hx hb hown w2 dX7_refusesRows_9 ?_
    refine lv_goto (tgt := 28) hx hb dX7_refusesRows_11 (by decide) ?_
    obtain rfl := Option.some.inj hf
    rw [hQ]; exact Ct.iret hx hb hr hlocks hAe hP hD hS dX7_refusesRows_28
def fX7_rains_L32 (aside : Nat → Int32) (x1 : Int32) (kx : (Nat → Int32) → Int32 → Option (Int32 × (Nat → Int32) × (Nat → Int32) × (Nat → Int32))) : Nat → (Nat → Int32) → Int32 → Int32 → Option (Int32 × (Nat → Int32) × (Nat → Int32) × (Nat → Int32))
  | 0, _, _, _ => none
  | k + 1, now, x3, x4 => o1 (fX7_rows x1) (fun x106 => if x106 ≤ x4 then (kx now x3) else (o2 (fX7_opens now aside x4 x1) (fun x107 now108 => if x107 = 0 then (fX7_rains_L32 aside x1 kx k now108 (x3 + (0 : Int32)) (x4 + (1 : Int32))) else (fX7_rains_L32 aside x1 kx k now108 (x3 + (1 : Int32)) (x4 + (1 : Int32))))))
def fX7_rains (now : Nat → Int32) (aside : Nat → Int32) (found : Nat → Int32) (a1 : Int32) : Option (Int32 × (Nat → Int32) × (Nat → Int32) × (Nat → Int32)) := o1 (fX7_refusesRows now a1) (fun x101 => if x101 = 0 then (o1 (fX7_copyRow 120 now) (fun f2102 => fX7_rains_L32 f2102 a1 (fun now109 x110 => some (x110, now109, f2102, found)) fu now (0 : Int32) (0 : Int32))) else (o2 (fX7_finding found x101) (fun x111 found112 => some (x111, now, aside, found112))))
theorem q_X7_rains : yX7_rains.cls = RX7 ∧ yX7_rains.cls ≠ "java/lang/invoke/MethodHandle" ∧ yX7_rains.cls ≠ "java/lang/invoke/VarHandle" ∧ (parseMethodDescriptor yX7_rains.desc).map (fun d => d.parameters.length) = some 1 := by decide +kernel
theorem i_X7_rains_X7 : ∀ w ∈ u_ws RX7 TX7 22, w ∈ wsX7_rains := fun _ h => List.mem_cons_of_mem _ (List.mem_append_right _ (h))
set_option maxHeartbeats 4000000 in
set_option maxRecDepth 100000 in
theorem c_X7_rains (l : Launch) (g : gG) (m0 m1 m2 m3 m4 m5 m6 m7 m8 m9 m10 m11 m12 : Nat) (now : Nat → Int32) (kept : Nat → Int32) (aside : Nat → Int32) (ik : Int32) (found : Nat → Int32) (carried : Nat → Int32) (T : Mt) (S : Ms) (a1 : Int32) {r : Int32} {now' : Nat → Int32} {aside' : Nat → Int32} {found' : Nat → Int32} (hf : fX7_rains now aside found a1 = some (r, now', aside', found')) : Ct l yX7_rains wsX7_rains (rmm 10 224) g (wM g m0 m1 m2 m3 m4 m5 m6 m7 m8 m9 m10 m11 m12 now kept aside ik found carried T S) (wM g m0 m1 m2 m3 m4 m5 m6 m7 m8 m9 m10 m11 m12 (now') kept (aside') ik (found') carried T S) [.ref m0, .int a1] (some (.int r)) := by
  refine Ct.mk (by decide) rfl (Nat.le_of_ble_eq_true rfl) ?_
  intro p e s m args below meth c A ls hx hb hr hml hts hown hlocks hA hE hP hD hS hl hAe
  obtain ⟨Qx, hQ⟩ : ∃ Qx : State → Prop, Qx = MQ below (QcG g (wM g m0 m1 m2 m3 m4 m5 m6 m7 m8 m9 m10 m11 m12 now kept aside ik found carried T S) (wM g m0 m1 m2 m3 m4 m5 m6 m7 m8 m9 m10 m11 m12 (now') kept (aside') ik (found') carried T S) (some (.int r)) s.heap.size) args s 0 0 A := ⟨_, rfl⟩
  rw [← hQ]
  have hown : s.vm.findClass RX7 = some m.cls := hown
  have hl : lv_has ls 5 [(0, .ref m0), (1, .int a1)] := hl
  have w1 := hts (.fieldLink RX7 9 "RainVaultModel" "now" "[I") (List.mem_of_getElem? (i := 1) rfl)
  have w2 := hts (.fieldLink RX7 16 "RainVaultModel" "aside" "[I") (List.mem_of_getElem? (i := 2) rfl)
  have L32 : ∀ (aside : Nat → Int32) (found : Nat → Int32) (x1 : Int32) (kx : (Nat → Int32) → Int32 → Option (Int32 × (Nat → Int32) × (Nat → Int32) × (Nat → Int32))) (k : Nat) (now : Nat → Int32) (x3 : Int32) (x4 : Int32) (H : Heap) (locs : List Loc) (ls : Array Slot), fX7_rains_L32 aside x1 kx k now x3 x4 = some (r, now', aside', found') → va_P g.1 vwK (wM g m0 m1 m2 m3 m4 m5 m6 m7 m8 m9 m10 m11 m12 now kept aside ik found carried T S) H → va_D A (wM g m0 m1 m2 m3 m4 m5 m6 m7 m8 m9 m10 m11 m12 now kept aside ik found carried T S) → va_S A s.heap H locs → lv_has ls 5 [(0, .ref m0), (1, .int x1), (3, .int x3), (4, .int x4)] → (∀ (now : Nat → Int32) (x3 : Int32) (H : Heap) (locs : List Loc) (ls : Array Slot), kx now x3 = some (r, now', aside', found') → va_P g.1 vwK (wM g m0 m1 m2 m3 m4 m5 m6 m7 m8 m9 m10 m11 m12 now kept aside ik found carried T S) H → va_D A (wM g m0 m1 m2 m3 m4 m5 m6 m7 m8 m9 m10 m11 m12 now kept aside ik found carried T S) → va_S A s.heap H locs → lv_has ls 5 [(3, .int x3)] → W p l e (rmm 10 224) s m args below meth c H locs 0 0 Qx (F0 m 65 ls [])) → W p l e (rmm 10 224) s m args below meth c H locs 0 0 Qx (F0 m 32 ls []) := by
    intro aside found x1 kx k
    induction k with
    | zero => intro now x3 x4 H locs ls hf; exact nomatch (show (none : Option (Int32 × (Nat → Int32) × (Nat → Int32) × (Nat → Int32))) = some _ from hf)
    | succ k ih =>
      intro now x3 x4 H locs ls hf hP hD hS hl hk
      rw [fX7_rains_L32] at hf
      refine lv_iload hx hb dX7_rains_32 (lv_at hl 3 rfl) ?_
      refine lv_iload_n hx hb dX7_rains_34 rfl (lv_at hl 1 rfl) ?_
      obtain ⟨x106, hg, hf⟩ := o1_s hf
      refine Ct.callS (ws' := wM g m0 m1 m2 m3 m4 m5 m6 m7 m8 m9 m10 m11 m12 now kept aside ik found carried T S) (As := [.int x1]) (rest := [.int x4]) (st1 := [.int x106, .int x4]) (c_X7_rows l g x1 hg) (va_cwS 1 hts gX7_rains_X7_rows rfl rfl rfl q_X7_rows.2 ⟨Nat.le_of_ble_eq_true rfl, Nat.le_of_ble_eq_true rfl⟩) ⟨hx, hb, hml, hown, hts⟩ hE hP hD hS hA [] rfl rfl rfl rfl rfl hl.1 rfl rfl (Nat.le_of_ble_eq_true rfl) dX7_rains_35 (fun H locs hP hD hS => ?_)
      refine lv_icmp_ge (tgt := 65) hx hb dX7_rains_38 (by decide) (fun hc => ?_) (fun hc => ?_)
      · have hf := if_t hf hc
        exact hk _ _ _ _ _  hf hP hD hS (lv_sub hl [2] rfl)
      · have hf := if_f hf hc
        refine lv_iload_n hx hb dX7_rains_41 rfl (lv_at hl 2 rfl) ?_
        refine lv_aload_n hx hb dX7_rains_42 rfl (lv_at hl 0 rfl) ?_
        refine lv_iload hx hb dX7_rains_43 (lv_at hl 3 rfl) ?_
        refine lv_iload_n hx hb dX7_rains_45 rfl (lv_at hl 1 rfl) ?_
        obtain ⟨x107, now108, hg, hf⟩ := o2_s hf
        refine Ct.callV0 (ws' := wM g m0 m1 m2 m3 m4 m5 m6 m7 m8 m9 m10 m11 m12 now108 kept aside ik found carried T S) (As := [.int x4, .int x1]) (rest := [.int x3]) (st1 := [.int x107, .int x3]) (c_X7_opens l g m0 m1 m2 m3 m4 m5 m6 m7 m8 m9 m10 m11 m12 now kept aside ik found carried T S x4 x1 hg) (cwV 2 hts gX7_rains_X7_opens rfl rfl rfl q_X7_opens ⟨Nat.le_of_ble_eq_true rfl, Nat.le_of_ble_eq_true rfl⟩) ⟨hx, hb, hml, hown, hts⟩ hE hP hD hS hA 7 0 rfl rfl rfl rfl hl.1 rfl rfl (Nat.le_of_ble_eq_true rfl) dX7_rains_46 (fun H locs hP hD hS => ?_)
        refine lv_if_eq (tgt := 56) hx hb dX7_rains_49 (by decide) (fun hc => ?_) (fun hc => ?_)
        · have hf := if_t hf hc
          refine lv_iconst (v := (0 : Int32)) hx hb dX7_rains_56 (by decide) ?_
          refine lv_iadd hx hb dX7_rains_57 ?_
          refine lv_istore_n (lv' := [(3, .int (x3 + (0 : Int32))), (0, .ref m0), (1, .int x1), (4, .int x4)]) hx hb dX7_rains_58 rfl hl (by decide) rfl (fun ls hl => ?_)
          refine lv_iinc (v := (x4 + (1 : Int32))) (lv' := [(4, .int (x4 + (1 : Int32))), (3, .int (x3 + (0 : Int32))), (0, .ref m0), (1, .int x1)]) hx hb dX7_rains_59 hl (k := 3) rfl rfl (by decide) rfl (fun ls hl => ?_)
          refine lv_goto (tgt := 32) hx hb dX7_rains_62 (by decide) ?_
          exact ih _ _ _ _ _ _  hf hP hD hS (lv_sub hl [2, 3, 1, 0] rfl) hk
        · have hf := if_f hf hc
          refine lv_iconst (v := (1 : Int32)) hx hb dX7_rains_52 (by decide) ?_
          refine lv_goto (tgt := 57) hx hb dX7_rains_53 (by decide) ?_
          refine lv_iadd hx hb dX7_rains_57 ?_
          refine lv_istore_n (lv' := [(3, .int (x3 + (1 : Int32))), (0, .ref m0), (1, .int x1), (4, .int x4)]) hx hb dX7_rains_58 rfl hl (by decide) rfl (fun ls hl => ?_)
          refine lv_iinc (v := (x4 + (1 : Int32))) (lv' := [(4, .int (x4 + (1 : Int32))), (3, .int (x3 + (1 : Int32))), (0, .ref m0), (1, .int x1)]) hx hb dX7_rains_59 hl (k := 3) rfl rfl (by decide) rfl (fun ls hl => ?_)
          refine lv_goto (tgt := 32) hx hb dX7_rains_62 (by decide) ?_
          exact ih _ _ _ _ _ _  hf hP hD hS (lv_sub hl [2, 3, 1, 0] rfl) hk
  unfold fX7_rains at hf
  refine lv_aload_n hx hb dX7_rains_0 rfl (lv_at hl 0 rfl) ?_
  refine lv_iload_n hx hb dX7_rains_1 rfl (lv_at hl 1 rfl) ?_
  obtain ⟨x101, hg, hf⟩ := o1_s hf
  refine Ct.callV0 (ws' := wM g m0 m1 m2 m3 m4 m5 m6 m7 m8 m9 m10 m11 m12 now kept aside ik found carried T S) (As := [.int a1]) (rest := []) (st1 := [.int x101]) (c_X7_refusesRows l g m0 m1 m2 m3 m4 m5 m6 m7 m8 m9 m10 m11 m12 now kept aside ik found carried T S a1 hg) (cwV 1 hts gX7_rains_X7_refusesRows rfl rfl rfl q_X7_refusesRows ⟨Nat.le_of_ble_eq_true rfl, Nat.le_of_ble_eq_true rfl⟩) ⟨hx, hb, hml, hown, hts⟩ hE hP hD hS hA 7 0 rfl rfl rfl rfl hl.1 rfl rfl (Nat.le_of_ble_eq_true rfl) dX7_rains_2 (fun H locs hP hD hS => ?_)
  refine lv_istore_n (lv' := [(2, .int x101), (0, .ref m0), (1, .int a1)]) hx hb dX7_rains_5 rfl hl (by decide) rfl (fun ls hl => ?_)
  refine lv_iload_n hx hb dX7_rains_6 rfl (lv_at hl 0 rfl) ?_
  refine lv_if_eq (tgt := 16) hx hb dX7_rains_7 (by decide) (fun hc => ?_) (fun hc => ?_)
  · have hf := if_t hf hc
    refine lv_aload_n hx hb dX7_rains_16 rfl (lv_at hl 1 rfl) ?_
    refine va_get (D := g.1) (ci := 7) (v := .ref m1) (C := RX7) (T := TX7) (N := 22) hx hb hts i_X7_rains_X7 hown hE.1 hP 0 rfl rfl 0 (by decide) w1 (fun _ h9 => h9) rfl dX7_rains_17 ?_
    refine lv_aload_n hx hb dX7_rains_20 rfl (lv_at hl 1 rfl) ?_
    refine va_get (D := g.1) (ci := 7) (v := .ref m3) (C := RX7) (T := TX7) (N := 22) hx hb hts i_X7_rains_X7 hown hE.1 hP 0 rfl rfl 2 (by decide) w2 (fun _ h9 => h9) rfl dX7_rains_21 ?_
    obtain ⟨f2102, hg, hf⟩ := o1_s hf
    refine Ct.callS (ws' := wM g m0 m1 m2 m3 m4 m5 m6 m7 m8 m9 m10 m11 m12 now kept f2102 ik found carried T S) (As := [.ref m1, .ref m3]) (rest := []) (st1 := []) (c_X7_copyRow l g m1 m3 120 now aside hg) (va_cwS 2 hts gX7_rains_X7_copyRow rfl rfl rfl q_X7_copyRow.2 ⟨Nat.le_of_ble_eq_true rfl, Nat.le_of_ble_eq_true rfl⟩) ⟨hx, hb, hml, hown, hts⟩ hE hP hD hS hA [1, 3] rfl rfl rfl rfl rfl hl.1 rfl rfl (Nat.le_of_ble_eq_true rfl) dX7_rains_24 (fun H locs hP hD hS => ?_)
    refine lv_iconst (v := (0 : Int32)) hx hb dX7_rains_27 (by decide) ?_
    refine lv_istore_n (lv' := [(3, .int (0 : Int32)), (2, .int x101), (0, .ref m0), (1, .int a1)]) hx hb dX7_rains_28 rfl hl (by decide) rfl (fun ls hl => ?_)
    refine lv_iconst (v := (0 : Int32)) hx hb dX7_rains_29 (by decide) ?_
    refine lv_istore (lv' := [(4, .int (0 : Int32)), (3, .int (0 : Int32)), (2, .int x101), (0, .ref m0), (1, .int a1)]) hx hb dX7_rains_30 hl (by decide) rfl (fun ls hl => ?_)
    refine L32 _ _ _ _ _ _ _ _ _ _ _  hf hP hD hS (lv_sub hl [3, 4, 1, 0] rfl) (fun now109 x110 H locs ls hf hP hD hS hl => ?_)
    refine lv_iload_n hx hb dX7_rains_65 rfl (lv_at hl 0 rfl) ?_
    obtain ⟨rfl, rfl, rfl, rfl⟩ := some_p4 hf
    rw [hQ]; exact Ct.iret hx hb hr hlocks hAe hP hD hS dX7_rains_66
  · have hf := if_f hf hc
    refine lv_aload_n hx hb dX7_rains_10 rfl (lv_at hl 1 rfl) ?_
    refine lv_iload_n hx hb dX7_rains_11 rfl (lv_at hl 0 rfl) ?_
    obtain ⟨x111, found112, hg, hf⟩ := o2_s hf
    refine Ct.callV0 (ws' := wM g m0 m1 m2 m3 m4 m5 m6 m7 m8 m9 m10 m11 m12 now kept aside ik found112 carried T S) (As := [.int x101]) (rest := []) (st1 := [.int x111]) (c_X7_finding l g m0 m1 m2 m3 m4 m5 m6 m7 m8 m9 m10 m11 m12 now kept aside ik found carried T S x101 hg) (cwV 1 hts gX7_rains_X7_finding rfl rfl rfl q_X7_finding ⟨Nat.le_of_ble_eq_true rfl, Nat.le_of_ble_eq_true rfl⟩) ⟨hx, hb, hml, hown, hts⟩ hE hP hD hS hA 7 0 rfl rfl rfl rfl hl.1 rfl rfl (Nat.le_of_ble_eq_true rfl) dX7_rains_12 (fun H locs hP hD hS => ?_)
    obtain ⟨rfl, rfl, rfl, rfl⟩ := some_p4 hf
    rw [hQ]; exact Ct.iret hx hb hr hlocks hAe hP hD hS dX7_rains_15
def fX7_firstRow_L15 (aside : Nat → Int32) (x1 : Int32) (kx : (Nat → Int32) → Int32 → Option (Int32 × (Nat → Int32) × (Nat → Int32))) : Nat → (Nat → Int32) → Int32 → Int32 → Option (Int32 × (Nat → Int32) × (Nat → Int32))
  | 0, _, _, _ => none
  | k + 1, now, x2, x3 => o1 (fX7_rows x1) (fun x105 => if x105 ≤ x3 then (kx now x2) else (if 0 ≤ x2 then (kx now x2) else (o2 (fX7_opens now aside x3 x1) (fun x106 now107 => if x106 = 0 then (fX7_firstRow_L15 aside x1 kx k now107 (-1 : Int32) (x3 + (1 : Int32))) else (fX7_firstRow_L15 aside x1 kx k now107 x3 (x3 + (1 : Int32)))))))
def fX7_firstRow (now : Nat → Int32) (aside : Nat → Int32) (a1 : Int32) : Option (Int32 × (Nat → Int32) × (Nat → Int32)) := o1 (fX7_copyRow 120 now) (fun f2101 => fX7_firstRow_L15 f2101 a1 (fun now108 x109 => some (x109, now108, f2101)) fu now (-1 : Int32) (0 : Int32))
theorem q_X7_firstRow : yX7_firstRow.cls = RX7 ∧ yX7_firstRow.cls ≠ "java/lang/invoke/MethodHandle" ∧ yX7_firstRow.cls ≠ "java/lang/invoke/VarHandle" ∧ (parseMethodDescriptor yX7_firstRow.desc).map (fun d => d.parameters.length) = some 1 := by decide +kernel
theorem i_X7_firstRow_X7 : ∀ w ∈ u_ws RX7 TX7 22, w ∈ wsX7_firstRow := fun _ h => List.mem_cons_of_mem _ (List.mem_append_right _ (h))
set_option maxHeartbeats 4000000 in
set_option maxRecDepth 100000 in
theorem c_X7_firstRow (l : Launch) (g : gG) (m0 m1 m2 m3 m4 m5 m6 m7 m8 m9 m10 m11 m12 : Nat) (now : Nat → Int32) (kept : Nat → Int32) (aside : Nat → Int32) (ik : Int32) (found : Nat → Int32) (carried : Nat → Int32) (T : Mt) (S : Ms) (a1 : Int32) {r : Int32} {now' : Nat → Int32} {aside' : Nat → Int32} (hf : fX7_firstRow now aside a1 = some (r, now', aside')) : Ct l yX7_firstRow wsX7_firstRow (rmm 10 224) g (wM g m0 m1 m2 m3 m4 m5 m6 m7 m8 m9 m10 m11 m12 now kept aside ik found carried T S) (wM g m0 m1 m2 m3 m4 m5 m6 m7 m8 m9 m10 m11 m12 (now') kept (aside') ik found carried T S) [.ref m0, .int a1] (some (.int r)) := by
  refine Ct.mk (by decide) rfl (Nat.le_of_ble_eq_true rfl) ?_
  intro p e s m args below meth c A ls hx hb hr hml hts hown hlocks hA hE hP hD hS hl hAe
  obtain ⟨Qx, hQ⟩ : ∃ Qx : State → Prop, Qx = MQ below (QcG g (wM g m0 m1 m2 m3 m4 m5 m6 m7 m8 m9 m10 m11 m12 now kept aside ik found carried T S) (wM g m0 m1 m2 m3 m4 m5 m6 m7 m8 m9 m10 m11 m12 (now') kept (aside') ik found carried T S) (some (.int r)) s.heap.size) args s 0 0 A := ⟨_, rfl⟩
  rw [← hQ]
  have hown : s.vm.findClass RX7 = some m.cls := hown
  have hl : lv_has ls 4 [(0, .ref m0), (1, .int a1)] := hl
  have w1 := hts (.fieldLink RX7 9 "RainVaultModel" "now" "[I") (List.mem_of_getElem? (i := 1) rfl)
  have w2 := hts (.fieldLink RX7 16 "RainVaultModel" "aside" "[I") (List.mem_of_getElem? (i := 2) rfl)
  have L15 : ∀ (aside : Nat → Int32) (x1 : Int32) (kx : (Nat → Int32) → Int32 → Option (Int32 × (Nat → Int32) × (Nat → Int32))) (k : Nat) (now : Nat → Int32) (x2 : Int32) (x3 : Int32) (H : Heap) (locs : List Loc) (ls : Array Slot), fX7_firstRow_L15 aside x1 kx k now x2 x3 = some (r, now', aside') → va_P g.1 vwK (wM g m0 m1 m2 m3 m4 m5 m6 m7 m8 m9 m10 m11 m12 now kept aside ik found carried T S) H → va_D A (wM g m0 m1 m2 m3 m4 m5 m6 m7 m8 m9 m10 m11 m12 now kept aside ik found carried T S) → va_S A s.heap H locs → lv_has ls 4 [(0, .ref m0), (1, .int x1), (2, .int x2), (3, .int x3)] → (∀ (now : Nat → Int32) (x2 : Int32) (H : Heap) (locs : List Loc) (ls : Array Slot), kx now x2 = some (r, now', aside') → va_P g.1 vwK (wM g m0 m1 m2 m3 m4 m5 m6 m7 m8 m9 m10 m11 m12 now kept aside ik found carried T S) H → va_D A (wM g m0 m1 m2 m3 m4 m5 m6 m7 m8 m9 m10 m11 m12 now kept aside ik found carried T S) → va_S A s.heap H locs → lv_has ls 4 [(2, .int x2)] → W p l e (rmm 10 224) s m args below meth c H locs 0 0 Qx (F0 m 48 ls [])) → W p l e (rmm 10 224) s m args below meth c H locs 0 0 Qx (F0 m 15 ls []) := by
    intro aside x1 kx k
    induction k with
    | zero => intro now x2 x3 H locs ls hf; exact nomatch (show (none : Option (Int32 × (Nat → Int32) × (Nat → Int32))) = some _ from hf)
    | succ k ih =>
      intro now x2 x3 H locs ls hf hP hD hS hl hk
      rw [fX7_firstRow_L15] at hf
      refine lv_iload_n hx hb dX7_firstRow_15 rfl (lv_at hl 3 rfl) ?_
      refine lv_iload_n hx hb dX7_firstRow_16 rfl (lv_at hl 1 rfl) ?_
      obtain ⟨x105, hg, hf⟩ := o1_s hf
      refine Ct.callS (ws' := wM g m0 m1 m2 m3 m4 m5 m6 m7 m8 m9 m10 m11 m12 now kept aside ik found carried T S) (As := [.int x1]) (rest := [.int x3]) (st1 := [.int x105, .int x3]) (c_X7_rows l g x1 hg) (va_cwS 1 hts gX7_firstRow_X7_rows rfl rfl rfl q_X7_rows.2 ⟨Nat.le_of_ble_eq_true rfl, Nat.le_of_ble_eq_true rfl⟩) ⟨hx, hb, hml, hown, hts⟩ hE hP hD hS hA [] rfl rfl rfl rfl rfl hl.1 rfl rfl (Nat.le_of_ble_eq_true rfl) dX7_firstRow_17 (fun H locs hP hD hS => ?_)
      refine lv_icmp_ge (tgt := 48) hx hb dX7_firstRow_20 (by decide) (fun hc => ?_) (fun hc => ?_)
      · have hf := if_t hf hc
        exact hk _ _ _ _ _  hf hP hD hS (lv_sub hl [2] rfl)
      · have hf := if_f hf hc
        refine lv_iload_n hx hb dX7_firstRow_23 rfl (lv_at hl 2 rfl) ?_
        refine lv_if_ge (tgt := 48) hx hb dX7_firstRow_24 (by decide) (fun hc => ?_) (fun hc => ?_)
        · have hf := if_t hf hc
          exact hk _ _ _ _ _  hf hP hD hS (lv_sub hl [2] rfl)
        · have hf := if_f hf hc
          refine lv_aload_n hx hb dX7_firstRow_27 rfl (lv_at hl 0 rfl) ?_
          refine lv_iload_n hx hb dX7_firstRow_28 rfl (lv_at hl 3 rfl) ?_
          refine lv_iload_n hx hb dX7_firstRow_29 rfl (lv_at hl 1 rfl) ?_
          obtain ⟨x106, now107, hg, hf⟩ := o2_s hf
          refine Ct.callV0 (ws' := wM g m0 m1 m2 m3 m4 m5 m6 m7 m8 m9 m10 m11 m12 now107 kept aside ik found carried T S) (As := [.int x3, .int x1]) (rest := []) (st1 := [.int x106]) (c_X7_opens l g m0 m1 m2 m3 m4 m5 m6 m7 m8 m9 m10 m11 m12 now kept aside ik found carried T S x3 x1 hg) (cwV 2 hts gX7_firstRow_X7_opens rfl rfl rfl q_X7_opens ⟨Nat.le_of_ble_eq_true rfl, Nat.le_of_ble_eq_true rfl⟩) ⟨hx, hb, hml, hown, hts⟩ hE hP hD hS hA 7 0 rfl rfl rfl rfl hl.1 rfl rfl (Nat.le_of_ble_eq_true rfl) dX7_firstRow_30 (fun H locs hP hD hS => ?_)
          refine lv_if_eq (tgt := 40) hx hb dX7_firstRow_33 (by decide) (fun hc => ?_) (fun hc => ?_)
          · have hf := if_t hf hc
            refine lv_iconst (v := (-1 : Int32)) hx hb dX7_firstRow_40 (by decide) ?_
            refine lv_istore_n (lv' := [(2, .int (-1 : Int32)), (0, .ref m0), (1, .int x1), (3, .int x3)]) hx hb dX7_firstRow_41 rfl hl (by decide) rfl (fun ls hl => ?_)
            refine lv_iinc (v := (x3 + (1 : Int32))) (lv' := [(3, .int (x3 + (1 : Int32))), (2, .int (-1 : Int32)), (0, .ref m0), (1, .int x1)]) hx hb dX7_firstRow_42 hl (k := 3) rfl rfl (by decide) rfl (fun ls hl => ?_)
            refine lv_goto (tgt := 15) hx hb dX7_firstRow_45 (by decide) ?_
            exact ih _ _ _ _ _ _  hf hP hD hS (lv_sub hl [2, 3, 1, 0] rfl) hk
          · have hf := if_f hf hc
            refine lv_iload_n hx hb dX7_firstRow_36 rfl (lv_at hl 3 rfl) ?_
            refine lv_goto (tgt := 41) hx hb dX7_firstRow_37 (by decide) ?_
            refine lv_istore_n (lv' := [(2, .int x3), (0, .ref m0), (1, .int x1), (3, .int x3)]) hx hb dX7_firstRow_41 rfl hl (by decide) rfl (fun ls hl => ?_)
            refine lv_iinc (v := (x3 + (1 : Int32))) (lv' := [(3, .int (x3 + (1 : Int32))), (2, .int x3), (0, .ref m0), (1, .int x1)]) hx hb dX7_firstRow_42 hl (k := 3) rfl rfl (by decide) rfl (fun ls hl => ?_)
            refine lv_goto (tgt := 15) hx hb dX7_firstRow_45 (by decide) ?_
            exact ih _ _ _ _ _ _  hf hP hD hS (lv_sub hl [2, 3, 1, 0] rfl) hk
  unfold fX7_firstRow at hf
  refine lv_aload_n hx hb dX7_firstRow_0 rfl (lv_at hl 0 rfl) ?_
  refine va_get (D := g.1) (ci := 7) (v := .ref m1) (C := RX7) (T := TX7) (N := 22) hx hb hts i_X7_firstRow_X7 hown hE.1 hP 0 rfl rfl 0 (by decide) w1 (fun _ h9 => h9) rfl dX7_firstRow_1 ?_
  refine lv_aload_n hx hb dX7_firstRow_4 rfl (lv_at hl 0 rfl) ?_
  refine va_get (D := g.1) (ci := 7) (v := .ref m3) (C := RX7) (T := TX7) (N := 22) hx hb hts i_X7_firstRow_X7 hown hE.1 hP 0 rfl rfl 2 (by decide) w2 (fun _ h9 => h9) rfl dX7_firstRow_5 ?_
  obtain ⟨f2101, hg, hf⟩ := o1_s hf
  refine Ct.callS (ws' := wM g m0 m1 m2 m3 m4 m5 m6 m7 m8 m9 m10 m11 m12 now kept f2101 ik found carried T S) (As := [.ref m1, .ref m3]) (rest := []) (st1 := []) (c_X7_copyRow l g m1 m3 120 now aside hg) (va_cwS 2 hts gX7_firstRow_X7_copyRow rfl rfl rfl q_X7_copyRow.2 ⟨Nat.le_of_ble_eq_true rfl, Nat.le_of_ble_eq_true rfl⟩) ⟨hx, hb, hml, hown, hts⟩ hE hP hD hS hA [1, 3] rfl rfl rfl rfl rfl hl.1 rfl rfl (Nat.le_of_ble_eq_true rfl) dX7_firstRow_8 (fun H locs hP hD hS => ?_)
  refine lv_iconst (v := (-1 : Int32)) hx hb dX7_firstRow_11 (by decide) ?_
  refine lv_istore_n (lv' := [(2, .int (-1 : Int32)), (0, .ref m0), (1, .int a1)]) hx hb dX7_firstRow_12 rfl hl (by decide) rfl (fun ls hl => ?_)
  refine lv_iconst (v := (0 : Int32)) hx hb dX7_firstRow_13 (by decide) ?_
  refine lv_istore_n (lv' := [(3, .int (0 : Int32)), (2, .int (-1 : Int32)), (0, .ref m0), (1, .int a1)]) hx hb dX7_firstRow_14 rfl hl (by decide) rfl (fun ls hl => ?_)
  refine L15 _ _ _ _ _ _ _ _ _ _  hf hP hD hS (lv_sub hl [2, 3, 1, 0] rfl) (fun now108 x109 H locs ls hf hP hD hS hl => ?_)
  refine lv_iload_n hx hb dX7_firstRow_48 rfl (lv_at hl 0 rfl) ?_
  obtain ⟨rfl, rfl, rfl⟩ := some_p3 hf
  rw [hQ]; exact Ct.iret hx hb hr hlocks hAe hP hD hS dX7_firstRow_49
def fX7_first (now : Nat → Int32) (aside : Nat → Int32) (found : Nat → Int32) (a1 : Int32) (a2 : Int32) : Option (Int32 × (Nat → Int32) × (Nat → Int32) × (Nat → Int32)) := o1 (fX7_refusesRows now a1) (fun x101 => if x101 = (-1000001 : Int32) then (o2 (fX7_finding found (-1000001 : Int32)) (fun x102 found103 => some (x102, now, aside, found103))) else (o1 (fX7_within a2 (0 : Int32) (a1 - (1 : Int32))) (fun x104 => if x104 = 0 then (o2 (fX7_finding found (-1000001 : Int32)) (fun x113 found114 => some (x113, now, aside, found114))) else (if x101 = 0 then (o3 (fX7_firstRow now aside a1) (fun x105 now106 aside107 => if 0 ≤ x105 then (o1 (fX7_signOf x105 a1 a2) (fun x108 => some (x108, now106, aside107, found))) else (o2 (fX7_finding found (-1000004 : Int32)) (fun x109 found110 => some (x109, now106, aside107, found110))))) else (o2 (fX7_finding found x101) (fun x111 found112 => some (x111, now, aside, found112)))))))
theorem q_X7_first : yX7_first.cls = RX7 ∧ yX7_first.cls ≠ "java/lang/invoke/MethodHandle" ∧ yX7_first.cls ≠ "java/lang/invoke/VarHandle" ∧ (parseMethodDescriptor yX7_first.desc).map (fun d => d.parameters.length) = some 2 := by decide +kernel
set_option maxHeartbeats 4000000 in
set_option maxRecDepth 100000 in
theorem c_X7_first (l : Launch) (g : gG) (m0 m1 m2 m3 m4 m5 m6 m7 m8 m9 m10 m11 m12 : Nat) (now : Nat → Int32) (kept : Nat → Int32) (aside : Nat → Int32) (ik : Int32) (found : Nat → Int32) (carried : Nat → Int32) (T : Mt) (S : Ms) (a1 : Int32) (a2 : Int32) {r : Int32} {now' : Nat → Int32} {aside' : Nat → Int32} {found' : Nat → Int32} (hf : fX7_first now aside found a1 a2 = some (r, now', aside', found')) : Ct l yX7_first wsX7_first (rmm 11 247) g (wM g m0 m1 m2 m3 m4 m5 m6 m7 m8 m9 m10 m11 m12 now kept aside ik found carried T S) (wM g m0 m1 m2 m3 m4 m5 m6 m7 m8 m9 m10 m11 m12 (now') kept (aside') ik (found') carried T S) [.ref m0, .int a1, .int a2] (some (.int r)) := by
  refine Ct.mk (by decide) rfl (Nat.le_of_ble_eq_true rfl) ?_
  intro p e s m args below meth c A ls hx hb hr hml hts hown hlocks hA hE hP hD hS hl hAe
  obtain ⟨Qx, hQ⟩ : ∃ Qx : State → Prop, Qx = MQ below (QcG g (wM g m0 m1 m2 m3 m4 m5 m6 m7 m8 m9 m10 m11 m12 now kept aside ik found carried T S) (wM g m0 m1 m2 m3 m4 m5 m6 m7 m8 m9 m10 m11 m12 (now') kept (aside') ik (found') carried T S) (some (.int r)) s.heap.size) args s 0 0 A := ⟨_, rfl⟩
  rw [← hQ]
  have hown : s.vm.findClass RX7 = some m.cls := hown
  have hl : lv_has ls 5 [(0, .ref m0), (1, .int a1), (2, .int a2)] := hl
  have w1 := hts (.constant RX7 63 (-1000001)) (List.mem_of_getElem? (i := 1) rfl)
  have w2 := hts (.constant RX7 190 (-1000004)) (List.mem_of_getElem? (i := 2) rfl)
  unfold fX7_first at hf
  refine lv_aload_n hx hb dX7_first_0 rfl (lv_at hl 0 rfl) ?_
  refine lv_iload_n hx hb dX7_first_1 rfl (lv_at hl 1 rfl) ?_
  obtain ⟨x101, hg, hf⟩ := o1_s hf
  refine Ct.callV0 (ws' := wM g m0 m1 m2 m3 m4 m5 m6 m7 m8 m9 m10 m11 m12 now kept aside ik found carried T S) (As := [.int a1]) (rest := []) (st1 := [.int x101]) (c_X7_refusesRows l g m0 m1 m2 m3 m4 m5 m6 m7 m8 m9 m10 m11 m12 now kept aside ik found carried T S a1 hg) (cwV 1 hts gX7_first_X7_refusesRows rfl rfl rfl q_X7_refusesRows ⟨Nat.le_of_ble_eq_true rfl, Nat.le_of_ble_eq_true rfl⟩) ⟨hx, hb, hml, hown, hts⟩ hE hP hD hS hA 7 0 rfl rfl rfl rfl hl.1 rfl rfl (Nat.le_of_ble_eq_true rfl) dX7_first_2 (fun H locs hP hD hS => ?_)
  refine lv_istore_n (lv' := [(3, .int x101), (0, .ref m0), (1, .int a1), (2, .int a2)]) hx hb dX7_first_5 rfl hl (by decide) rfl (fun ls hl => ?_)
  refine lv_iload_n hx hb dX7_first_6 rfl (lv_at hl 0 rfl) ?_
  refine lv_ldc hx hb hown w1 dX7_first_7 ?_
  refine lv_icmp_eq (tgt := 23) hx hb dX7_first_9 (by decide) (fun hc => ?_) (fun hc => ?_)
  · have hf := if_t hf hc
    refine lv_aload_n hx hb dX7_first_23 rfl (lv_at hl 1 rfl) ?_
    refine lv_ldc hx hb hown w1 dX7_first_24 ?_
    obtain ⟨x102, found103, hg, hf⟩ := o2_s hf
    refine Ct.callV0 (ws' := wM g m0 m1 m2 m3 m4 m5 m6 m7 m8 m9 m10 m11 m12 now kept aside ik found103 carried T S) (As := [.int (-1000001 : Int32)]) (rest := []) (st1 := [.int x102]) (c_X7_finding l g m0 m1 m2 m3 m4 m5 m6 m7 m8 m9 m10 m11 m12 now kept aside ik found carried T S (-1000001 : Int32) hg) (cwV 1 hts gX7_first_X7_finding rfl rfl rfl q_X7_finding ⟨Nat.le_of_ble_eq_true rfl, Nat.le_of_ble_eq_true rfl⟩) ⟨hx, hb, hml, hown, hts⟩ hE hP hD hS hA 7 0 rfl rfl rfl rfl hl.1 rfl rfl (Nat.le_of_ble_eq_true rfl) dX7_first_26 (fun H locs hP hD hS => ?_)
    obtain ⟨rfl, rfl, rfl, rfl⟩ := some_p4 hf
    rw [hQ]; exact Ct.iret hx hb hr hlocks hAe hP hD hS dX7_first_29
  · have hf := if_f hf hc
    refine lv_iload_n hx hb dX7_first_12 rfl (lv_at hl 3 rfl) ?_
    refine lv_iconst (v := (0 : Int32)) hx hb dX7_first_13 (by decide) ?_
    refine lv_iload_n hx hb dX7_first_14 rfl (lv_at hl 2 rfl) ?_
    refine lv_iconst (v := (1 : Int32)) hx hb dX7_first_15 (by decide) ?_
    refine lv_isub hx hb dX7_first_16 ?_
    obtain ⟨x104, hg, hf⟩ := o1_s hf
    refine Ct.callS (ws' := wM g m0 m1 m2 m3 m4 m5 m6 m7 m8 m9 m10 m11 m12 now kept aside ik found carried T S) (As := [.int a2, .int (0 : Int32), .int (a1 - (1 : Int32))]) (rest := []) (st1 := [.int x104]) (c_X7_within l g a2 (0 : Int32) (a1 - (1 : Int32)) hg) (va_cwS 3 hts gX7_first_X7_within rfl rfl rfl q_X7_within.2 ⟨Nat.le_of_ble_eq_true rfl, Nat.le_of_ble_eq_true rfl⟩) ⟨hx, hb, hml, hown, hts⟩ hE hP hD hS hA [] rfl rfl rfl rfl rfl hl.1 rfl rfl (Nat.le_of_ble_eq_true rfl) dX7_first_17 (fun H locs hP hD hS => ?_)
    refine lv_if_ne (tgt := 30) hx hb dX7_first_20 (by decide) (fun hc => ?_) (fun hc => ?_)
    · have hf := if_f hf hc
      refine lv_iload_n hx hb dX7_first_30 rfl (lv_at hl 0 rfl) ?_
      refine lv_if_eq (tgt := 40) hx hb dX7_first_31 (by decide) (fun hc => ?_) (fun hc => ?_)
      · have hf := if_t hf hc
        refine lv_aload_n hx hb dX7_first_40 rfl (lv_at hl 1 rfl) ?_
        refine lv_iload_n hx hb dX7_first_41 rfl (lv_at hl 2 rfl) ?_
        obtain ⟨x105, now106, aside107, hg, hf⟩ := o3_s hf
        refine Ct.callV0 (ws' := wM g m0 m1 m2 m3 m4 m5 m6 m7 m8 m9 m10 m11 m12 now106 kept aside107 ik found carried T S) (As := [.int a1]) (rest := []) (st1 := [.int x105]) (c_X7_firstRow l g m0 m1 m2 m3 m4 m5 m6 m7 m8 m9 m10 m11 m12 now kept aside ik found carried T S a1 hg) (cwV 1 hts gX7_first_X7_firstRow rfl rfl rfl q_X7_firstRow ⟨Nat.le_of_ble_eq_true rfl, Nat.le_of_ble_eq_true rfl⟩) ⟨hx, hb, hml, hown, hts⟩ hE hP hD hS hA 7 0 rfl rfl rfl rfl hl.1 rfl rfl (Nat.le_of_ble_eq_true rfl) dX7_first_42 (fun H locs hP hD hS => ?_)
        refine lv_istore (lv' := [(4, .int x105), (3, .int x101), (0, .ref m0), (1, .int a1), (2, .int a2)]) hx hb dX7_first_45 hl (by decide) rfl (fun ls hl => ?_)
        refine lv_iload hx hb dX7_first_47 (lv_at hl 0 rfl) ?_
        refine lv_if_ge (tgt := 61) hx hb dX7_first_49 (by decide) (fun hc => ?_) (fun hc => ?_)
        · have hf := if_t hf hc
          refine lv_iload hx hb dX7_first_61 (lv_at hl 0 rfl) ?_
          refine lv_iload_n hx hb dX7_first_63 rfl (lv_at hl 3 rfl) ?_
          refine lv_iload_n hx hb dX7_first_64 rfl (lv_at hl 4 rfl) ?_
          obtain ⟨x108, hg, hf⟩ := o1_s hf
          refine Ct.callS (ws' := wM g m0 m1 m2 m3 m4 m5 m6 m7 m8 m9 m10 m11 m12 now106 kept aside107 ik found carried T S) (As := [.int x105, .int a1, .int a2]) (rest := []) (st1 := [.int x108]) (c_X7_signOf l g x105 a1 a2 hg) (va_cwS 3 hts gX7_first_X7_signOf rfl rfl rfl q_X7_signOf.2 ⟨Nat.le_of_ble_eq_true rfl, Nat.le_of_ble_eq_true rfl⟩) ⟨hx, hb, hml, hown, hts⟩ hE hP hD hS hA [] rfl rfl rfl rfl rfl hl.1 rfl rfl (Nat.le_of_ble_eq_true rfl) dX7_first_65 (fun H locs hP hD hS => ?_)
          obtain ⟨rfl, rfl, rfl, rfl⟩ := some_p4 hf
          rw [hQ]; exact Ct.iret hx hb hr hlocks hAe hP hD hS dX7_first_68
        · have hf := if_f hf hc
          refine lv_aload_n hx hb dX7_first_52 rfl (lv_at hl 2 rfl) ?_
          refine lv_ldc hx hb hown w2 dX7_first_53 ?_
          obtain ⟨x109, found110, hg, hf⟩ := o2_s hf
          refine Ct.callV0 (ws' := wM g m0 m1 m2 m3 m4 m5 m6 m7 m8 m9 m10 m11 m12 now106 kept aside107 ik found110 carried T S) (As := [.int (-1000004 : Int32)]) (rest := []) (st1 := [.int x109]) (c_X7_finding l g m0 m1 m2 m3 m4 m5 m6 m7 m8 m9 m10 m11 m12 now106 kept aside107 ik found carried T S (-1000004 : Int32) hg) (cwV 1 hts gX7_first_X7_finding rfl rfl rfl q_X7_finding ⟨Nat.le_of_ble_eq_true rfl, Nat.le_of_ble_eq_true rfl⟩) ⟨hx, hb, hml, hown, hts⟩ hE hP hD hS hA 7 0 rfl rfl rfl rfl hl.1 rfl rfl (Nat.le_of_ble_eq_true rfl) dX7_first_55 (fun H locs hP hD hS => ?_)
          refine lv_goto (tgt := 68) hx hb dX7_first_58 (by decide) ?_
          obtain ⟨rfl, rfl, rfl, rfl⟩ := some_p4 hf
          rw [hQ]; exact Ct.iret hx hb hr hlocks hAe hP hD hS dX7_first_68
      · have hf := if_f hf hc
        refine lv_aload_n hx hb dX7_first_34 rfl (lv_at hl 1 rfl) ?_
        refine lv_iload_n hx hb dX7_first_35 rfl (lv_at hl 0 rfl) ?_
        obtain ⟨x111, found112, hg, hf⟩ := o2_s hf
        refine Ct.callV0 (ws' := wM g m0 m1 m2 m3 m4 m5 m6 m7 m8 m9 m10 m11 m12 now kept aside ik found112 carried T S) (As := [.int x101]) (rest := []) (st1 := [.int x111]) (c_X7_finding l g m0 m1 m2 m3 m4 m5 m6 m7 m8 m9 m10 m11 m12 now kept aside ik found carried T S x101 hg) (cwV 1 hts gX7_first_X7_finding rfl rfl rfl q_X7_finding ⟨Nat.le_of_ble_eq_true rfl, Nat.le_of_ble_eq_true rfl⟩) ⟨hx, hb, hml, hown, hts⟩ hE hP hD hS hA 7 0 rfl rfl rfl rfl hl.1 rfl rfl (Nat.le_of_ble_eq_true rfl) dX7_first_36 (fun H locs hP hD hS => ?_)
        obtain ⟨rfl, rfl, rfl, rfl⟩ := some_p4 hf
        rw [hQ]; exact Ct.iret hx hb hr hlocks hAe hP hD hS dX7_first_39
    · have hf := if_t hf hc
      refine lv_aload_n hx hb dX7_first_23 rfl (lv_at hl 1 rfl) ?_
      refine lv_ldc hx hb hown w1 dX7_first_24 ?_
      obtain ⟨x113, found114, hg, hf⟩ := o2_s hf
      refine Ct.callV0 (ws' := wM g m0 m1 m2 m3 m4 m5 m6 m7 m8 m9 m10 m11 m12 now kept aside ik found114 carried T S) (As := [.int (-1000001 : Int32)]) (rest := []) (st1 := [.int x113]) (c_X7_finding l g m0 m1 m2 m3 m4 m5 m6 m7 m8 m9 m10 m11 m12 now kept aside ik found carried T S (-1000001 : Int32) hg) (cwV 1 hts gX7_first_X7_finding rfl rfl rfl q_X7_finding ⟨Nat.le_of_ble_eq_true rfl, Nat.le_of_ble_eq_true rfl⟩) ⟨hx, hb, hml, hown, hts⟩ hE hP hD hS hA 7 0 rfl rfl rfl rfl hl.1 rfl rfl (Nat.le_of_ble_eq_true rfl) dX7_first_26 (fun H locs hP hD hS => ?_)
      obtain ⟨rfl, rfl, rfl, rfl⟩ := some_p4 hf
      rw [hQ]; exact Ct.iret hx hb hr hlocks hAe hP hD hS dX7_first_29
def fX7_wetHours_L4 (x0 : Int32) (x1 : Int32) (kx : Int32 → Option (Int32)) : Nat → Int32 → Int32 → Option (Int32)
  | 0, _, _ => none
  | k + 1, x2, x3 => if x1 ≤ x3 then (kx x2) else (o1 (fX7_signOf x0 x1 x3) (fun x102 => if x102 = 0 then (fX7_wetHours_L4 x0 x1 kx k (x2 + (0 : Int32)) (x3 + (1 : Int32))) else (fX7_wetHours_L4 x0 x1 kx k (x2 + (1 : Int32)) (x3 + (1 : Int32)))))
def fX7_wetHours (a1 : Int32) (a2 : Int32) : Option (Int32) := fX7_wetHours_L4 a1 a2 (fun x103 => some x103) fu (0 : Int32) (0 : Int32)
theorem q_X7_wetHours : yX7_wetHours.cls = RX7 ∧ yX7_wetHours.cls ≠ "java/lang/invoke/MethodHandle" ∧ yX7_wetHours.cls ≠ "java/lang/invoke/VarHandle" ∧ (parseMethodDescriptor yX7_wetHours.desc).map (fun d => d.parameters.length) = some 2 := by decide +kernel
set_option maxHeartbeats 4000000 in
set_option maxRecDepth 100000 in
theorem c_X7_wetHours (l : Launch) (g : gG) (a1 : Int32) (a2 : Int32) {r : Int32} (hf : fX7_wetHours a1 a2 = some r) : Ct l yX7_wetHours wsX7_wetHours (rmm 2 44) g (wNil g  ) (wNil g  ) [.int a1, .int a2] (some (.int r)) := by
  refine Ct.mk (by decide) rfl (Nat.le_of_ble_eq_true rfl) ?_
  intro p e s m args below meth c A ls hx hb hr hml hts hown hlocks hA hE hP hD hS hl hAe
  obtain ⟨Qx, hQ⟩ : ∃ Qx : State → Prop, Qx = MQ below (QcG g (wNil g  ) (wNil g  ) (some (.int r)) s.heap.size) args s 0 0 A := ⟨_, rfl⟩
  rw [← hQ]
  have hown : s.vm.findClass RX7 = some m.cls := hown
  have hl : lv_has ls 4 [(0, .int a1), (1, .int a2)] := hl
  have L4 : ∀ (x0 : Int32) (x1 : Int32) (kx : Int32 → Option (Int32)) (k : Nat) (x2 : Int32) (x3 : Int32) (H : Heap) (locs : List Loc) (ls : Array Slot), fX7_wetHours_L4 x0 x1 kx k x2 x3 = some r → va_P g.1 vwK (wNil g  ) H → va_D A (wNil g  ) → va_S A s.heap H locs → lv_has ls 4 [(0, .int x0), (1, .int x1), (2, .int x2), (3, .int x3)] → (∀ (x2 : Int32) (H : Heap) (locs : List Loc) (ls : Array Slot), kx x2 = some r → va_P g.1 vwK (wNil g  ) H → va_D A (wNil g  ) → va_S A s.heap H locs → lv_has ls 4 [(2, .int x2)] → W p l e (rmm 2 44) s m args below meth c H locs 0 0 Qx (F0 m 32 ls [])) → W p l e (rmm 2 44) s m args below meth c H locs 0 0 Qx (F0 m 4 ls []) := by
    intro x0 x1 kx k
    induction k with
    | zero => intro x2 x3 H locs ls hf; exact nomatch (show (none : Option (Int32)) = some _ from hf)
    | succ k ih =>
      intro x2 x3 H locs ls hf hP hD hS hl hk
      rw [fX7_wetHours_L4] at hf
      refine lv_iload_n hx hb dX7_wetHours_4 rfl (lv_at hl 3 rfl) ?_
      refine lv_iload_n hx hb dX7_wetHours_5 rfl (lv_at hl 1 rfl) ?_
      refine lv_icmp_ge (tgt := 32) hx hb dX7_wetHours_6 (by decide) (fun hc => ?_) (fun hc => ?_)
      · have hf := if_t hf hc
        exact hk _ _ _ _  hf hP hD hS (lv_sub hl [2] rfl)
      · have hf := if_f hf hc
        refine lv_iload_n hx hb dX7_wetHours_9 rfl (lv_at hl 2 rfl) ?_
        refine lv_iload_n hx hb dX7_wetHours_10 rfl (lv_at hl 0 rfl) ?_
        refine lv_iload_n hx hb dX7_wetHours_11 rfl (lv_at hl 1 rfl) ?_
        refine lv_iload_n hx hb dX7_wetHours_12 rfl (lv_at hl 3 rfl) ?_
        obtain ⟨x102, hg, hf⟩ := o1_s hf
        refine Ct.callS (ws' := wNil g  ) (As := [.int x0, .int x1, .int x3]) (rest := [.int x2]) (st1 := [.int x102, .int x2]) (c_X7_signOf l g x0 x1 x3 hg) (va_cwS 3 hts gX7_wetHours_X7_signOf rfl rfl rfl q_X7_signOf.2 ⟨Nat.le_of_ble_eq_true rfl, Nat.le_of_ble_eq_true rfl⟩) ⟨hx, hb, hml, hown, hts⟩ hE hP hD hS hA [] rfl rfl rfl rfl rfl hl.1 rfl rfl (Nat.le_of_ble_eq_true rfl) dX7_wetHours_13 (fun H locs hP hD hS => ?_)
        refine lv_if_ne (tgt := 23) hx hb dX7_wetHours_16 (by decide) (fun hc => ?_) (fun hc => ?_)
        · have hf := if_f hf hc
          refine lv_iconst (v := (1 : Int32)) hx hb dX7_wetHours_23 (by decide) ?_
          refine lv_iadd hx hb dX7_wetHours_24 ?_
          refine lv_istore_n (lv' := [(2, .int (x2 + (1 : Int32))), (0, .int x0), (1, .int x1), (3, .int x3)]) hx hb dX7_wetHours_25 rfl hl (by decide) rfl (fun ls hl => ?_)
          refine lv_iinc (v := (x3 + (1 : Int32))) (lv' := [(3, .int (x3 + (1 : Int32))), (2, .int (x2 + (1 : Int32))), (0, .int x0), (1, .int x1)]) hx hb dX7_wetHours_26 hl (k := 3) rfl rfl (by decide) rfl (fun ls hl => ?_)
          refine lv_goto (tgt := 4) hx hb dX7_wetHours_29 (by decide) ?_
          exact ih _ _ _ _ _  hf hP hD hS (lv_sub hl [2, 3, 1, 0] rfl) hk
        · have hf := if_t hf hc
          refine lv_iconst (v := (0 : Int32)) hx hb dX7_wetHours_19 (by decide) ?_
          refine lv_goto (tgt := 24) hx hb dX7_wetHours_20 (by decide) ?_
          refine lv_iadd hx hb dX7_wetHours_24 ?_
          refine lv_istore_n (lv' := [(2, .int (x2 + (0 : Int32))), (0, .int x0), (1, .int x1), (3, .int x3)]) hx hb dX7_wetHours_25 rfl hl (by decide) rfl (fun ls hl => ?_)
          refine lv_iinc (v := (x3 + (1 : Int32))) (lv' := [(3, .int (x3 + (1 : Int32))), (2, .int (x2 + (0 : Int32))), (0, .int x0), (1, .int x1)]) hx hb dX7_wetHours_26 hl (k := 3) rfl rfl (by decide) rfl (fun ls hl => ?_)
          refine lv_goto (tgt := 4) hx hb dX7_wetHours_29 (by decide) ?_
          exact ih _ _ _ _ _  hf hP hD hS (lv_sub hl [2, 3, 1, 0] rfl) hk
  unfold fX7_wetHours at hf
  refine lv_iconst (v := (0 : Int32)) hx hb dX7_wetHours_0 (by decide) ?_
  refine lv_istore_n (lv' := [(2, .int (0 : Int32)), (0, .int a1), (1, .int a2)]) hx hb dX7_wetHours_1 rfl hl (by decide) rfl (fun ls hl => ?_)
  refine lv_iconst (v := (0 : Int32)) hx hb dX7_wetHours_2 (by decide) ?_
  refine lv_istore_n (lv' := [(3, .int (0 : Int32)), (2, .int (0 : Int32)), (0, .int a1), (1, .int a2)]) hx hb dX7_wetHours_3 rfl hl (by decide) rfl (fun ls hl => ?_)
  refine L4 _ _ _ _ _ _ _ _ _  hf hP hD hS (lv_sub hl [2, 3, 1, 0] rfl) (fun x103 H locs ls hf hP hD hS hl => ?_)
  refine lv_iload_n hx hb dX7_wetHours_32 rfl (lv_at hl 0 rfl) ?_
  obtain rfl := Option.some.inj hf
  rw [hQ]; exact Ct.iret hx hb hr hlocks hAe hP hD hS dX7_wetHours_33
def fX7_driest_L33 (aside : Nat → Int32) (x1 : Int32) (kx : (Nat → Int32) → Int32 → Option (Int32 × (Nat → Int32) × (Nat → Int32) × (Nat → Int32))) : Nat → (Nat → Int32) → Int32 → Int32 → Option (Int32 × (Nat → Int32) × (Nat → Int32) × (Nat → Int32))
  | 0, _, _, _ => none
  | k + 1, now, x3, x4 => o1 (fX7_rows x1) (fun x108 => if x108 ≤ x4 then (kx now x3) else (o1 (fX7_wetHours x4 x1) (fun x109 => if x3 ≤ x109 then (fX7_driest_L33 aside x1 kx k now x3 (x4 + (1 : Int32))) else (o2 (fX7_opens now aside x4 x1) (fun x110 now111 => if x110 = 0 then (fX7_driest_L33 aside x1 kx k now111 x3 (x4 + (1 : Int32))) else (o1 (fX7_wetHours x4 x1) (fun x112 => fX7_driest_L33 aside x1 kx k now111 x112 (x4 + (1 : Int32)))))))))
def fX7_driest (now : Nat → Int32) (aside : Nat → Int32) (found : Nat → Int32) (a1 : Int32) : Option (Int32 × (Nat → Int32) × (Nat → Int32) × (Nat → Int32)) := o1 (fX7_refusesRows now a1) (fun x101 => if x101 = 0 then (o1 (fX7_copyRow 120 now) (fun f2102 => fX7_driest_L33 f2102 a1 (fun now113 x114 => if x114 ≤ (5 : Int32) then (some (x114, now113, f2102, found)) else (o2 (fX7_finding found (-1000004 : Int32)) (fun x115 found116 => some (x115, now113, f2102, found116)))) fu now (6 : Int32) (0 : Int32))) else (o2 (fX7_finding found x101) (fun x117 found118 => some (x117, now, aside, found118))))
theorem q_X7_driest : yX7_driest.cls = RX7 ∧ yX7_driest.cls ≠ "java/lang/invoke/MethodHandle" ∧ yX7_driest.cls ≠ "java/lang/invoke/VarHandle" ∧ (parseMethodDescriptor yX7_driest.desc).map (fun d => d.parameters.length) = some 1 := by decide +kernel
theorem i_X7_driest_X7 : ∀ w ∈ u_ws RX7 TX7 22, w ∈ wsX7_driest := fun _ h => List.mem_cons_of_mem _ (List.mem_append_right _ (h))
set_option maxHeartbeats 4000000 in
set_option maxRecDepth 100000 in
theorem c_X7_driest (l : Launch) (g : gG) (m0 m1 m2 m3 m4 m5 m6 m7 m8 m9 m10 m11 m12 : Nat) (now : Nat → Int32) (kept : Nat → Int32) (aside : Nat → Int32) (ik : Int32) (found : Nat → Int32) (carried : Nat → Int32) (T : Mt) (S : Ms) (a1 : Int32) {r : Int32} {now' : Nat → Int32} {aside' : Nat → Int32} {found' : Nat → Int32} (hf : fX7_driest now aside found a1 = some (r, now', aside', found')) : Ct l yX7_driest wsX7_driest (rmm 10 224) g (wM g m0 m1 m2 m3 m4 m5 m6 m7 m8 m9 m10 m11 m12 now kept aside ik found carried T S) (wM g m0 m1 m2 m3 m4 m5 m6 m7 m8 m9 m10 m11 m12 (now') kept (aside') ik (found') carried T S) [.ref m0, .int a1] (some (.int r)) := by
  refine Ct.mk (by decide) rfl (Nat.le_of_ble_eq_true rfl) ?_
  intro p e s m args below meth c A ls hx hb hr hml hts hown hlocks hA hE hP hD hS hl hAe
  obtain ⟨Qx, hQ⟩ : ∃ Qx : State → Prop, Qx = MQ below (QcG g (wM g m0 m1 m2 m3 m4 m5 m6 m7 m8 m9 m10 m11 m12 now kept aside ik found carried T S) (wM g m0 m1 m2 m3 m4 m5 m6 m7 m8 m9 m10 m11 m12 (now') kept (aside') ik (found') carried T S) (some (.int r)) s.heap.size) args s 0 0 A := ⟨_, rfl⟩
  rw [← hQ]
  have hown : s.vm.findClass RX7 = some m.cls := hown
  have hl : lv_has ls 5 [(0, .ref m0), (1, .int a1)] := hl
  have w1 := hts (.fieldLink RX7 9 "RainVaultModel" "now" "[I") (List.mem_of_getElem? (i := 1) rfl)
  have w2 := hts (.fieldLink RX7 16 "RainVaultModel" "aside" "[I") (List.mem_of_getElem? (i := 2) rfl)
  have w3 := hts (.constant RX7 190 (-1000004)) (List.mem_of_getElem? (i := 3) rfl)
  have L33 : ∀ (aside : Nat → Int32) (found : Nat → Int32) (x1 : Int32) (kx : (Nat → Int32) → Int32 → Option (Int32 × (Nat → Int32) × (Nat → Int32) × (Nat → Int32))) (k : Nat) (now : Nat → Int32) (x3 : Int32) (x4 : Int32) (H : Heap) (locs : List Loc) (ls : Array Slot), fX7_driest_L33 aside x1 kx k now x3 x4 = some (r, now', aside', found') → va_P g.1 vwK (wM g m0 m1 m2 m3 m4 m5 m6 m7 m8 m9 m10 m11 m12 now kept aside ik found carried T S) H → va_D A (wM g m0 m1 m2 m3 m4 m5 m6 m7 m8 m9 m10 m11 m12 now kept aside ik found carried T S) → va_S A s.heap H locs → lv_has ls 5 [(0, .ref m0), (1, .int x1), (3, .int x3), (4, .int x4)] → (∀ (now : Nat → Int32) (x3 : Int32) (H : Heap) (locs : List Loc) (ls : Array Slot), kx now x3 = some (r, now', aside', found') → va_P g.1 vwK (wM g m0 m1 m2 m3 m4 m5 m6 m7 m8 m9 m10 m11 m12 now kept aside ik found carried T S) H → va_D A (wM g m0 m1 m2 m3 m4 m5 m6 m7 m8 m9 m10 m11 m12 now kept aside ik found carried T S) → va_S A s.heap H locs → lv_has ls 5 [(0, .ref m0), (3, .int x3)] → W p l e (rmm 10 224) s m args below meth c H locs 0 0 Qx (F0 m 75 ls [])) → W p l e (rmm 10 224) s m args below meth c H locs 0 0 Qx (F0 m 33 ls []) := by
    intro aside found x1 kx k
    induction k with
    | zero => intro now x3 x4 H locs ls hf; exact nomatch (show (none : Option (Int32 × (Nat → Int32) × (Nat → Int32) × (Nat → Int32))) = some _ from hf)
    | succ k ih =>
      intro now x3 x4 H locs ls hf hP hD hS hl hk
      rw [fX7_driest_L33] at hf
      refine lv_iload hx hb dX7_driest_33 (lv_at hl 3 rfl) ?_
      refine lv_iload_n hx hb dX7_driest_35 rfl (lv_at hl 1 rfl) ?_
      obtain ⟨x108, hg, hf⟩ := o1_s hf
      refine Ct.callS (ws' := wM g m0 m1 m2 m3 m4 m5 m6 m7 m8 m9 m10 m11 m12 now kept aside ik found carried T S) (As := [.int x1]) (rest := [.int x4]) (st1 := [.int x108, .int x4]) (c_X7_rows l g x1 hg) (va_cwS 1 hts gX7_driest_X7_rows rfl rfl rfl q_X7_rows.2 ⟨Nat.le_of_ble_eq_true rfl, Nat.le_of_ble_eq_true rfl⟩) ⟨hx, hb, hml, hown, hts⟩ hE hP hD hS hA [] rfl rfl rfl rfl rfl hl.1 rfl rfl (Nat.le_of_ble_eq_true rfl) dX7_driest_36 (fun H locs hP hD hS => ?_)
      refine lv_icmp_ge (tgt := 75) hx hb dX7_driest_39 (by decide) (fun hc => ?_) (fun hc => ?_)
      · have hf := if_t hf hc
        exact hk _ _ _ _ _  hf hP hD hS (lv_sub hl [0, 2] rfl)
      · have hf := if_f hf hc
        refine lv_iload hx hb dX7_driest_42 (lv_at hl 3 rfl) ?_
        refine lv_iload_n hx hb dX7_driest_44 rfl (lv_at hl 1 rfl) ?_
        obtain ⟨x109, hg, hf⟩ := o1_s hf
        refine Ct.callS (ws' := wM g m0 m1 m2 m3 m4 m5 m6 m7 m8 m9 m10 m11 m12 now kept aside ik found carried T S) (As := [.int x4, .int x1]) (rest := []) (st1 := [.int x109]) (c_X7_wetHours l g x4 x1 hg) (va_cwS 2 hts gX7_driest_X7_wetHours rfl rfl rfl q_X7_wetHours.2 ⟨Nat.le_of_ble_eq_true rfl, Nat.le_of_ble_eq_true rfl⟩) ⟨hx, hb, hml, hown, hts⟩ hE hP hD hS hA [] rfl rfl rfl rfl rfl hl.1 rfl rfl (Nat.le_of_ble_eq_true rfl) dX7_driest_45 (fun H locs hP hD hS => ?_)
        refine lv_iload_n hx hb dX7_driest_48 rfl (lv_at hl 2 rfl) ?_
        refine lv_icmp_ge (tgt := 69) hx hb dX7_driest_49 (by decide) (fun hc => ?_) (fun hc => ?_)
        · have hf := if_t hf hc
          refine lv_iinc (v := (x4 + (1 : Int32))) (lv' := [(4, .int (x4 + (1 : Int32))), (0, .ref m0), (1, .int x1), (3, .int x3)]) hx hb dX7_driest_69 hl (k := 3) rfl rfl (by decide) rfl (fun ls hl => ?_)
          refine lv_goto (tgt := 33) hx hb dX7_driest_72 (by decide) ?_
          exact ih _ _ _ _ _ _  hf hP hD hS (lv_sub hl [1, 2, 3, 0] rfl) hk
        · have hf := if_f hf hc
          refine lv_aload_n hx hb dX7_driest_52 rfl (lv_at hl 0 rfl) ?_
          refine lv_iload hx hb dX7_driest_53 (lv_at hl 3 rfl) ?_
          refine lv_iload_n hx hb dX7_driest_55 rfl (lv_at hl 1 rfl) ?_
          obtain ⟨x110, now111, hg, hf⟩ := o2_s hf
          refine Ct.callV0 (ws' := wM g m0 m1 m2 m3 m4 m5 m6 m7 m8 m9 m10 m11 m12 now111 kept aside ik found carried T S) (As := [.int x4, .int x1]) (rest := []) (st1 := [.int x110]) (c_X7_opens l g m0 m1 m2 m3 m4 m5 m6 m7 m8 m9 m10 m11 m12 now kept aside ik found carried T S x4 x1 hg) (cwV 2 hts gX7_driest_X7_opens rfl rfl rfl q_X7_opens ⟨Nat.le_of_ble_eq_true rfl, Nat.le_of_ble_eq_true rfl⟩) ⟨hx, hb, hml, hown, hts⟩ hE hP hD hS hA 7 0 rfl rfl rfl rfl hl.1 rfl rfl (Nat.le_of_ble_eq_true rfl) dX7_driest_56 (fun H locs hP hD hS => ?_)
          refine lv_if_eq (tgt := 69) hx hb dX7_driest_59 (by decide) (fun hc => ?_) (fun hc => ?_)
          · have hf := if_t hf hc
            refine lv_iinc (v := (x4 + (1 : Int32))) (lv' := [(4, .int (x4 + (1 : Int32))), (0, .ref m0), (1, .int x1), (3, .int x3)]) hx hb dX7_driest_69 hl (k := 3) rfl rfl (by decide) rfl (fun ls hl => ?_)
            refine lv_goto (tgt := 33) hx hb dX7_driest_72 (by decide) ?_
            exact ih _ _ _ _ _ _  hf hP hD hS (lv_sub hl [1, 2, 3, 0] rfl) hk
          · have hf := if_f hf hc
            refine lv_iload hx hb dX7_driest_62 (lv_at hl 3 rfl) ?_
            refine lv_iload_n hx hb dX7_driest_64 rfl (lv_at hl 1 rfl) ?_
            obtain ⟨x112, hg, hf⟩ := o1_s hf
            refine Ct.callS (ws' := wM g m0 m1 m2 m3 m4 m5 m6 m7 m8 m9 m10 m11 m12 now111 kept aside ik found carried T S) (As := [.int x4, .int x1]) (rest := []) (st1 := [.int x112]) (c_X7_wetHours l g x4 x1 hg) (va_cwS 2 hts gX7_driest_X7_wetHours rfl rfl rfl q_X7_wetHours.2 ⟨Nat.le_of_ble_eq_true rfl, Nat.le_of_ble_eq_true rfl⟩) ⟨hx, hb, hml, hown, hts⟩ hE hP hD hS hA [] rfl rfl rfl rfl rfl hl.1 rfl rfl (Nat.le_of_ble_eq_true rfl) dX7_driest_65 (fun H locs hP hD hS => ?_)
            refine lv_istore_n (lv' := [(3, .int x112), (0, .ref m0), (1, .int x1), (4, .int x4)]) hx hb dX7_driest_68 rfl hl (by decide) rfl (fun ls hl => ?_)
            refine lv_iinc (v := (x4 + (1 : Int32))) (lv' := [(4, .int (x4 + (1 : Int32))), (3, .int x112), (0, .ref m0), (1, .int x1)]) hx hb dX7_driest_69 hl (k := 3) rfl rfl (by decide) rfl (fun ls hl => ?_)
            refine lv_goto (tgt := 33) hx hb dX7_driest_72 (by decide) ?_
            exact ih _ _ _ _ _ _  hf hP hD hS (lv_sub hl [2, 3, 1, 0] rfl) hk
  unfold fX7_driest at hf
  refine lv_aload_n hx hb dX7_driest_0 rfl (lv_at hl 0 rfl) ?_
  refine lv_iload_n hx hb dX7_driest_1 rfl (lv_at hl 1 rfl) ?_
  obtain ⟨x101, hg, hf⟩ := o1_s hf
  refine Ct.callV0 (ws' := wM g m0 m1 m2 m3 m4 m5 m6 m7 m8 m9 m10 m11 m12 now kept aside ik found carried T S) (As := [.int a1]) (rest := []) (st1 := [.int x101]) (c_X7_refusesRows l g m0 m1 m2 m3 m4 m5 m6 m7 m8 m9 m10 m11 m12 now kept aside ik found carried T S a1 hg) (cwV 1 hts gX7_driest_X7_refusesRows rfl rfl rfl q_X7_refusesRows ⟨Nat.le_of_ble_eq_true rfl, Nat.le_of_ble_eq_true rfl⟩) ⟨hx, hb, hml, hown, hts⟩ hE hP hD hS hA 7 0 rfl rfl rfl rfl hl.1 rfl rfl (Nat.le_of_ble_eq_true rfl) dX7_driest_2 (fun H locs hP hD hS => ?_)
  refine lv_istore_n (lv' := [(2, .int x101), (0, .ref m0), (1, .int a1)]) hx hb dX7_driest_5 rfl hl (by decide) rfl (fun ls hl => ?_)
  refine lv_iload_n hx hb dX7_driest_6 rfl (lv_at hl 0 rfl) ?_
  refine lv_if_eq (tgt := 16) hx hb dX7_driest_7 (by decide) (fun hc => ?_) (fun hc => ?_)
  · have hf := if_t hf hc
    refine lv_aload_n hx hb dX7_driest_16 rfl (lv_at hl 1 rfl) ?_
    refine va_get (D := g.1) (ci := 7) (v := .ref m1) (C := RX7) (T := TX7) (N := 22) hx hb hts i_X7_driest_X7 hown hE.1 hP 0 rfl rfl 0 (by decide) w1 (fun _ h9 => h9) rfl dX7_driest_17 ?_
    refine lv_aload_n hx hb dX7_driest_20 rfl (lv_at hl 1 rfl) ?_
    refine va_get (D := g.1) (ci := 7) (v := .ref m3) (C := RX7) (T := TX7) (N := 22) hx hb hts i_X7_driest_X7 hown hE.1 hP 0 rfl rfl 2 (by decide) w2 (fun _ h9 => h9) rfl dX7_driest_21 ?_
    obtain ⟨f2102, hg, hf⟩ := o1_s hf
    refine Ct.callS (ws' := wM g m0 m1 m2 m3 m4 m5 m6 m7 m8 m9 m10 m11 m12 now kept f2102 ik found carried T S) (As := [.ref m1, .ref m3]) (rest := []) (st1 := []) (c_X7_copyRow l g m1 m3 120 now aside hg) (va_cwS 2 hts gX7_driest_X7_copyRow rfl rfl rfl q_X7_copyRow.2 ⟨Nat.le_of_ble_eq_true rfl, Nat.le_of_ble_eq_true rfl⟩) ⟨hx, hb, hml, hown, hts⟩ hE hP hD hS hA [1, 3] rfl rfl rfl rfl rfl hl.1 rfl rfl (Nat.le_of_ble_eq_true rfl) dX7_driest_24 (fun H locs hP hD hS => ?_)
    refine lv_bipush (v := (6 : Int32)) hx hb dX7_driest_27 (by decide) ?_
    refine lv_istore_n (lv' := [(3, .int (6 : Int32)), (2, .int x101), (0, .ref m0), (1, .int a1)]) hx hb dX7_driest_29 rfl hl (by decide) rfl (fun ls hl => ?_)
    refine lv_iconst (v := (0 : Int32)) hx hb dX7_driest_30 (by decide) ?_
    refine lv_istore (lv' := [(4, .int (0 : Int32)), (3, .int (6 : Int32)), (2, .int x101), (0, .ref m0), (1, .int a1)]) hx hb dX7_driest_31 hl (by decide) rfl (fun ls hl => ?_)
    refine L33 _ _ _ _ _ _ _ _ _ _ _  hf hP hD hS (lv_sub hl [3, 4, 1, 0] rfl) (fun now113 x114 H locs ls hf hP hD hS hl => ?_)
    refine lv_iload_n hx hb dX7_driest_75 rfl (lv_at hl 1 rfl) ?_
    refine lv_iconst (v := (5 : Int32)) hx hb dX7_driest_76 (by decide) ?_
    refine lv_icmp_le (tgt := 89) hx hb dX7_driest_77 (by decide) (fun hc => ?_) (fun hc => ?_)
    · have hf := if_t hf hc
      refine lv_iload_n hx hb dX7_driest_89 rfl (lv_at hl 1 rfl) ?_
      obtain ⟨rfl, rfl, rfl, rfl⟩ := some_p4 hf
      rw [hQ]; exact Ct.iret hx hb hr hlocks hAe hP hD hS dX7_driest_90
    · have hf := if_f hf hc
      refine lv_aload_n hx hb dX7_driest_80 rfl (lv_at hl 0 rfl) ?_
      refine lv_ldc hx hb hown w3 dX7_driest_81 ?_
      obtain ⟨x115, found116, hg, hf⟩ := o2_s hf
      refine Ct.callV0 (ws' := wM g m0 m1 m2 m3 m4 m5 m6 m7 m8 m9 m10 m11 m12 now113 kept f2102 ik found116 carried T S) (As := [.int (-1000004 : Int32)]) (rest := []) (st1 := [.int x115]) (c_X7_finding l g m0 m1 m2 m3 m4 m5 m6 m7 m8 m9 m10 m11 m12 now113 kept f2102 ik found carried T S (-1000004 : Int32) hg) (cwV 1 hts gX7_driest_X7_finding rfl rfl rfl q_X7_finding ⟨Nat.le_of_ble_eq_true rfl, Nat.le_of_ble_eq_true rfl⟩) ⟨hx, hb, hml, hown, hts⟩ hE hP hD hS hA 7 0 rfl rfl rfl rfl hl.1 rfl rfl (Nat.le_of_ble_eq_true rfl) dX7_driest_83 (fun H locs hP hD hS => ?_)
      refine lv_goto (tgt := 90) hx hb dX7_driest_86 (by decide) ?_
      obtain ⟨rfl, rfl, rfl, rfl⟩ := some_p4 hf
      rw [hQ]; exact Ct.iret hx hb hr hlocks hAe hP hD hS dX7_driest_90
  · have hf := if_f hf hc
    refine lv_aload_n hx hb dX7_driest_10 rfl (lv_at hl 1 rfl) ?_
    refine lv_iload_n hx hb dX7_driest_11 rfl (lv_at hl 0 rfl) ?_
    obtain ⟨x117, found118, hg, hf⟩ := o2_s hf
    refine Ct.callV0 (ws' := wM g m0 m1 m2 m3 m4 m5 m6 m7 m8 m9 m10 m11 m12 now kept aside ik found118 carried T S) (As := [.int x101]) (rest := []) (st1 := [.int x117]) (c_X7_finding l g m0 m1 m2 m3 m4 m5 m6 m7 m8 m9 m10 m11 m12 now kept aside ik found carried T S x101 hg) (cwV 1 hts gX7_driest_X7_finding rfl rfl rfl q_X7_finding ⟨Nat.le_of_ble_eq_true rfl, Nat.le_of_ble_eq_true rfl⟩) ⟨hx, hb, hml, hown, hts⟩ hE hP hD hS hA 7 0 rfl rfl rfl rfl hl.1 rfl rfl (Nat.le_of_ble_eq_true rfl) dX7_driest_12 (fun H locs hP hD hS => ?_)
    obtain ⟨rfl, rfl, rfl, rfl⟩ := some_p4 hf
    rw [hQ]; exact Ct.iret hx hb hr hlocks hAe hP hD hS dX7_driest_15
def fX7_soonest_L17 (kx : (Nat → Int32) → (Nat → Int32) → Int32 → Option (Int32 × (Nat → Int32) × (Nat → Int32) × (Nat → Int32))) : Nat → (Nat → Int32) → (Nat → Int32) → Int32 → Option (Int32 × (Nat → Int32) × (Nat → Int32) × (Nat → Int32))
  | 0, _, _, _ => none
  | k + 1, now, aside, x1 => if (5 : Int32) < x1 then (kx now aside x1) else (o3 (fX7_firstRow now aside x1) (fun x105 now106 aside107 => if 0 ≤ x105 then (kx now106 aside107 x1) else (fX7_soonest_L17 kx k now106 aside107 (x1 + (1 : Int32)))))
def fX7_soonest (now : Nat → Int32) (aside : Nat → Int32) (found : Nat → Int32) : Option (Int32 × (Nat → Int32) × (Nat → Int32) × (Nat → Int32)) := o1 (fX7_isTooLate now (5 : Int32)) (fun x101 => if x101 = 0 then (fX7_soonest_L17 (fun now108 aside109 x110 => if x110 ≤ (5 : Int32) then (some (x110, now108, aside109, found)) else (o2 (fX7_finding found (-1000004 : Int32)) (fun x111 found112 => some (x111, now108, aside109, found112)))) fu now aside (0 : Int32)) else (o2 (fX7_finding found (-1000005 : Int32)) (fun x113 found114 => some (x113, now, aside, found114))))
theorem q_X7_soonest : yX7_soonest.cls = RX7 ∧ yX7_soonest.cls ≠ "java/lang/invoke/MethodHandle" ∧ yX7_soonest.cls ≠ "java/lang/invoke/VarHandle" ∧ (parseMethodDescriptor yX7_soonest.desc).map (fun d => d.parameters.length) = some 0 := by decide +kernel
set_option maxHeartbeats 4000000 in
set_option maxRecDepth 100000 in
theorem c_X7_soonest (l : Launch) (g : gG) (m0 m1 m2 m3 m4 m5 m6 m7 m8 m9 m10 m11 m12 : Nat) (now : Nat → Int32) (kept : Nat → Int32) (aside : Nat → Int32) (ik : Int32) (found : Nat → Int32) (carried : Nat → Int32) (T : Mt) (S : Ms) {r : Int32} {now' : Nat → Int32} {aside' : Nat → Int32} {found' : Nat → Int32} (hf : fX7_soonest now aside found = some (r, now', aside', found')) : Ct l yX7_soonest wsX7_soonest (rmm 11 247) g (wM g m0 m1 m2 m3 m4 m5 m6 m7 m8 m9 m10 m11 m12 now kept aside ik found carried T S) (wM g m0 m1 m2 m3 m4 m5 m6 m7 m8 m9 m10 m11 m12 (now') kept (aside') ik (found') carried T S) [.ref m0] (some (.int r)) := by
  refine Ct.mk (by decide) rfl (Nat.le_of_ble_eq_true rfl) ?_
  intro p e s m args below meth c A ls hx hb hr hml hts hown hlocks hA hE hP hD hS hl hAe
  obtain ⟨Qx, hQ⟩ : ∃ Qx : State → Prop, Qx = MQ below (QcG g (wM g m0 m1 m2 m3 m4 m5 m6 m7 m8 m9 m10 m11 m12 now kept aside ik found carried T S) (wM g m0 m1 m2 m3 m4 m5 m6 m7 m8 m9 m10 m11 m12 (now') kept (aside') ik (found') carried T S) (some (.int r)) s.heap.size) args s 0 0 A := ⟨_, rfl⟩
  rw [← hQ]
  have hown : s.vm.findClass RX7 = some m.cls := hown
  have hl : lv_has ls 2 [(0, .ref m0)] := hl
  have w1 := hts (.constant RX7 190 (-1000004)) (List.mem_of_getElem? (i := 2) rfl)
  have w2 := hts (.constant RX7 173 (-1000005)) (List.mem_of_getElem? (i := 1) rfl)
  have L17 : ∀ (found : Nat → Int32) (kx : (Nat → Int32) → (Nat → Int32) → Int32 → Option (Int32 × (Nat → Int32) × (Nat → Int32) × (Nat → Int32))) (k : Nat) (now : Nat → Int32) (aside : Nat → Int32) (x1 : Int32) (H : Heap) (locs : List Loc) (ls : Array Slot), fX7_soonest_L17 kx k now aside x1 = some (r, now', aside', found') → va_P g.1 vwK (wM g m0 m1 m2 m3 m4 m5 m6 m7 m8 m9 m10 m11 m12 now kept aside ik found carried T S) H → va_D A (wM g m0 m1 m2 m3 m4 m5 m6 m7 m8 m9 m10 m11 m12 now kept aside ik found carried T S) → va_S A s.heap H locs → lv_has ls 2 [(0, .ref m0), (1, .int x1)] → (∀ (now : Nat → Int32) (aside : Nat → Int32) (x1 : Int32) (H : Heap) (locs : List Loc) (ls : Array Slot), kx now aside x1 = some (r, now', aside', found') → va_P g.1 vwK (wM g m0 m1 m2 m3 m4 m5 m6 m7 m8 m9 m10 m11 m12 now kept aside ik found carried T S) H → va_D A (wM g m0 m1 m2 m3 m4 m5 m6 m7 m8 m9 m10 m11 m12 now kept aside ik found carried T S) → va_S A s.heap H locs → lv_has ls 2 [(0, .ref m0), (1, .int x1)] → W p l e (rmm 11 247) s m args below meth c H locs 0 0 Qx (F0 m 36 ls [])) → W p l e (rmm 11 247) s m args below meth c H locs 0 0 Qx (F0 m 17 ls []) := by
    intro found kx k
    induction k with
    | zero => intro now aside x1 H locs ls hf; exact nomatch (show (none : Option (Int32 × (Nat → Int32) × (Nat → Int32) × (Nat → Int32))) = some _ from hf)
    | succ k ih =>
      intro now aside x1 H locs ls hf hP hD hS hl hk
      rw [fX7_soonest_L17] at hf
      refine lv_iload_n hx hb dX7_soonest_17 rfl (lv_at hl 1 rfl) ?_
      refine lv_iconst (v := (5 : Int32)) hx hb dX7_soonest_18 (by decide) ?_
      refine lv_icmp_gt (tgt := 36) hx hb dX7_soonest_19 (by decide) (fun hc => ?_) (fun hc => ?_)
      · have hf := if_t hf hc
        exact hk _ _ _ _ _ _  hf hP hD hS (lv_sub hl [0, 1] rfl)
      · have hf := if_f hf hc
        refine lv_aload_n hx hb dX7_soonest_22 rfl (lv_at hl 0 rfl) ?_
        refine lv_iload_n hx hb dX7_soonest_23 rfl (lv_at hl 1 rfl) ?_
        obtain ⟨x105, now106, aside107, hg, hf⟩ := o3_s hf
        refine Ct.callV0 (ws' := wM g m0 m1 m2 m3 m4 m5 m6 m7 m8 m9 m10 m11 m12 now106 kept aside107 ik found carried T S) (As := [.int x1]) (rest := []) (st1 := [.int x105]) (c_X7_firstRow l g m0 m1 m2 m3 m4 m5 m6 m7 m8 m9 m10 m11 m12 now kept aside ik found carried T S x1 hg) (cwV 1 hts gX7_soonest_X7_firstRow rfl rfl rfl q_X7_firstRow ⟨Nat.le_of_ble_eq_true rfl, Nat.le_of_ble_eq_true rfl⟩) ⟨hx, hb, hml, hown, hts⟩ hE hP hD hS hA 7 0 rfl rfl rfl rfl hl.1 rfl rfl (Nat.le_of_ble_eq_true rfl) dX7_soonest_24 (fun H locs hP hD hS => ?_)
        refine lv_if_ge (tgt := 36) hx hb dX7_soonest_27 (by decide) (fun hc => ?_) (fun hc => ?_)
        · have hf := if_t hf hc
          exact hk _ _ _ _ _ _  hf hP hD hS (lv_sub hl [0, 1] rfl)
        · have hf := if_f hf hc
          refine lv_iinc (v := (x1 + (1 : Int32))) (lv' := [(1, .int (x1 + (1 : Int32))), (0, .ref m0)]) hx hb dX7_soonest_30 hl (k := 1) rfl rfl (by decide) rfl (fun ls hl => ?_)
          refine lv_goto (tgt := 17) hx hb dX7_soonest_33 (by decide) ?_
          exact ih _ _ _ _ _ _  hf hP hD hS (lv_sub hl [1, 0] rfl) hk
  unfold fX7_soonest at hf
  refine lv_aload_n hx hb dX7_soonest_0 rfl (lv_at hl 0 rfl) ?_
  refine lv_iconst (v := (5 : Int32)) hx hb dX7_soonest_1 (by decide) ?_
  obtain ⟨x101, hg, hf⟩ := o1_s hf
  refine Ct.callV0 (ws' := wM g m0 m1 m2 m3 m4 m5 m6 m7 m8 m9 m10 m11 m12 now kept aside ik found carried T S) (As := [.int (5 : Int32)]) (rest := []) (st1 := [.int x101]) (c_X7_isTooLate l g m0 m1 m2 m3 m4 m5 m6 m7 m8 m9 m10 m11 m12 now kept aside ik found carried T S (5 : Int32) hg) (cwV 1 hts gX7_soonest_X7_isTooLate rfl rfl rfl q_X7_isTooLate ⟨Nat.le_of_ble_eq_true rfl, Nat.le_of_ble_eq_true rfl⟩) ⟨hx, hb, hml, hown, hts⟩ hE hP hD hS hA 7 0 rfl rfl rfl rfl hl.1 rfl rfl (Nat.le_of_ble_eq_true rfl) dX7_soonest_2 (fun H locs hP hD hS => ?_)
  refine lv_if_eq (tgt := 15) hx hb dX7_soonest_5 (by decide) (fun hc => ?_) (fun hc => ?_)
  · have hf := if_t hf hc
    refine lv_iconst (v := (0 : Int32)) hx hb dX7_soonest_15 (by decide) ?_
    refine lv_istore_n (lv' := [(1, .int (0 : Int32)), (0, .ref m0)]) hx hb dX7_soonest_16 rfl hl (by decide) rfl (fun ls hl => ?_)
    refine L17 _ _ _ _ _ _ _ _ _  hf hP hD hS (lv_sub hl [1, 0] rfl) (fun now108 aside109 x110 H locs ls hf hP hD hS hl => ?_)
    refine lv_iload_n hx hb dX7_soonest_36 rfl (lv_at hl 1 rfl) ?_
    refine lv_iconst (v := (5 : Int32)) hx hb dX7_soonest_37 (by decide) ?_
    refine lv_icmp_le (tgt := 50) hx hb dX7_soonest_38 (by decide) (fun hc => ?_) (fun hc => ?_)
    · have hf := if_t hf hc
      refine lv_iload_n hx hb dX7_soonest_50 rfl (lv_at hl 1 rfl) ?_
      obtain ⟨rfl, rfl, rfl, rfl⟩ := some_p4 hf
      rw [hQ]; exact Ct.iret hx hb hr hlocks hAe hP hD hS dX7_soonest_51
    · have hf := if_f hf hc
      refine lv_aload_n hx hb dX7_soonest_41 rfl (lv_at hl 0 rfl) ?_
      refine lv_ldc hx hb hown w1 dX7_soonest_42 ?_
      obtain ⟨x111, found112, hg, hf⟩ := o2_s hf
      refine Ct.callV0 (ws' := wM g m0 m1 m2 m3 m4 m5 m6 m7 m8 m9 m10 m11 m12 now108 kept aside109 ik found112 carried T S) (As := [.int (-1000004 : Int32)]) (rest := []) (st1 := [.int x111]) (c_X7_finding l g m0 m1 m2 m3 m4 m5 m6 m7 m8 m9 m10 m11 m12 now108 kept aside109 ik found carried T S (-1000004 : Int32) hg) (cwV 1 hts gX7_soonest_X7_finding rfl rfl rfl q_X7_finding ⟨Nat.le_of_ble_eq_true rfl, Nat.le_of_ble_eq_true rfl⟩) ⟨hx, hb, hml, hown, hts⟩ hE hP hD hS hA 7 0 rfl rfl rfl rfl hl.1 rfl rfl (Nat.le_of_ble_eq_true rfl) dX7_soonest_44 (fun H locs hP hD hS => ?_)
      refine lv_goto (tgt := 51) hx hb dX7_soonest_47 (by decide) ?_
      obtain ⟨rfl, rfl, rfl, rfl⟩ := some_p4 hf
      rw [hQ]; exact Ct.iret hx hb hr hlocks hAe hP hD hS dX7_soonest_51
  · have hf := if_f hf hc
    refine lv_aload_n hx hb dX7_soonest_8 rfl (lv_at hl 0 rfl) ?_
    refine lv_ldc hx hb hown w2 dX7_soonest_9 ?_
    obtain ⟨x113, found114, hg, hf⟩ := o2_s hf
    refine Ct.callV0 (ws' := wM g m0 m1 m2 m3 m4 m5 m6 m7 m8 m9 m10 m11 m12 now kept aside ik found114 carried T S) (As := [.int (-1000005 : Int32)]) (rest := []) (st1 := [.int x113]) (c_X7_finding l g m0 m1 m2 m3 m4 m5 m6 m7 m8 m9 m10 m11 m12 now kept aside ik found carried T S (-1000005 : Int32) hg) (cwV 1 hts gX7_soonest_X7_finding rfl rfl rfl q_X7_finding ⟨Nat.le_of_ble_eq_true rfl, Nat.le_of_ble_eq_true rfl⟩) ⟨hx, hb, hml, hown, hts⟩ hE hP hD hS hA 7 0 rfl rfl rfl rfl hl.1 rfl rfl (Nat.le_of_ble_eq_true rfl) dX7_soonest_11 (fun H locs hP hD hS => ?_)
    obtain ⟨rfl, rfl, rfl, rfl⟩ := some_p4 hf
    rw [hQ]; exact Ct.iret hx hb hr hlocks hAe hP hD hS dX7_soonest_14
def fX7_needed_L64 (x1 : Int32) (x5 : Int32) (kx : Int32 → Option (Int32 × (Nat → Int32) × (Nat → Int32) × (Nat → Int32))) : Nat → Int32 → Int32 → Option (Int32 × (Nat → Int32) × (Nat → Int32) × (Nat → Int32))
  | 0, _, _ => none
  | k + 1, x6, x7 => if x1 ≤ x7 then (kx x6) else (o1 (fX7_signOf x5 x1 x7) (fun x107 => fX7_needed_L64 x1 x5 kx k (x6 ||| ((1 : Int32) <<< (x107 &&& 31))) (x7 + (1 : Int32))))
def fX7_needed_L36 (aside : Nat → Int32) (x1 : Int32) (kx : (Nat → Int32) → Int32 → Int32 → Option (Int32 × (Nat → Int32) × (Nat → Int32) × (Nat → Int32))) : Nat → (Nat → Int32) → Int32 → Int32 → Int32 → Option (Int32 × (Nat → Int32) × (Nat → Int32) × (Nat → Int32))
  | 0, _, _, _, _ => none
  | k + 1, now, x3, x4, x5 => o1 (fX7_rows x1) (fun x109 => if x109 ≤ x5 then (kx now x3 x4) else (o2 (fX7_opens now aside x5 x1) (fun x110 now111 => if x110 = 0 then (fX7_needed_L36 aside x1 kx k now111 x3 x4 (x5 + (1 : Int32))) else (fX7_needed_L64 x1 x5 (fun x112 => fX7_needed_L36 aside x1 kx k now111 (x3 &&& (x112 >>> ((1 : Int32) &&& 31))) (1 : Int32) (x5 + (1 : Int32))) fu (0 : Int32) (0 : Int32)))))
def fX7_needed (now : Nat → Int32) (aside : Nat → Int32) (found : Nat → Int32) (a1 : Int32) : Option (Int32 × (Nat → Int32) × (Nat → Int32) × (Nat → Int32)) := o1 (fX7_refusesRows now a1) (fun x101 => if x101 = 0 then (o1 (fX7_copyRow 120 now) (fun f2102 => fX7_needed_L36 f2102 a1 (fun now113 x114 x115 => if x115 = 0 then (o2 (fX7_finding found (-1000004 : Int32)) (fun x116 found117 => some (x116, now113, f2102, found117))) else (some (x114, now113, f2102, found))) fu now (15 : Int32) (0 : Int32) (0 : Int32))) else (o2 (fX7_finding found x101) (fun x118 found119 => some (x118, now, aside, found119))))
theorem q_X7_needed : yX7_needed.cls = RX7 ∧ yX7_needed.cls ≠ "java/lang/invoke/MethodHandle" ∧ yX7_needed.cls ≠ "java/lang/invoke/VarHandle" ∧ (parseMethodDescriptor yX7_needed.desc).map (fun d => d.parameters.length) = some 1 := by decide +kernel
theorem i_X7_needed_X7 : ∀ w ∈ u_ws RX7 TX7 22, w ∈ wsX7_needed := fun _ h => List.mem_cons_of_mem _ (List.mem_append_right _ (h))
set_option maxHeartbeats 4000000 in
set_option maxRecDepth 100000 in
theorem c_X7_needed (l : Launch) (g : gG) (m0 m1 m2 m3 m4 m5 m6 m7 m8 m9 m10 m11 m12 : Nat) (now : Nat → Int32) (kept : Nat → Int32) (aside : Nat → Int32) (ik : Int32) (found : Nat → Int32) (carried : Nat → Int32) (T : Mt) (S : Ms) (a1 : Int32) {r : Int32} {now' : Nat → Int32} {aside' : Nat → Int32} {found' : Nat → Int32} (hf : fX7_needed now aside found a1 = some (r, now', aside', found')) : Ct l yX7_needed wsX7_needed (rmm 10 224) g (wM g m0 m1 m2 m3 m4 m5 m6 m7 m8 m9 m10 m11 m12 now kept aside ik found carried T S) (wM g m0 m1 m2 m3 m4 m5 m6 m7 m8 m9 m10 m11 m12 (now') kept (aside') ik (found') carried T S) [.ref m0, .int a1] (some (.int r)) := by
  refine Ct.mk (by decide) rfl (Nat.le_of_ble_eq_true rfl) ?_
  intro p e s m args below meth c A ls hx hb hr hml hts hown hlocks hA hE hP hD hS hl hAe
  obtain ⟨Qx, hQ⟩ : ∃ Qx : State → Prop, Qx = MQ below (QcG g (wM g m0 m1 m2 m3 m4 m5 m6 m7 m8 m9 m10 m11 m12 now kept aside ik found carried T S) (wM g m0 m1 m2 m3 m4 m5 m6 m7 m8 m9 m10 m11 m12 (now') kept (aside') ik (found') carried T S) (some (.int r)) s.heap.size) args s 0 0 A := ⟨_, rfl⟩
  rw [← hQ]
  have hown : s.vm.findClass RX7 = some m.cls := hown
  have hl : lv_has ls 8 [(0, .ref m0), (1, .int a1)] := hl
  have w1 := hts (.fieldLink RX7 9 "RainVaultModel" "now" "[I") (List.mem_of_getElem? (i := 1) rfl)
  have w2 := hts (.fieldLink RX7 16 "RainVaultModel" "aside" "[I") (List.mem_of_getElem? (i := 2) rfl)
  have w3 := hts (.constant RX7 190 (-1000004)) (List.mem_of_getElem? (i := 3) rfl)
  have L64 : ∀ (now : Nat → Int32) (aside : Nat → Int32) (found : Nat → Int32) (x1 : Int32) (x3 : Int32) (x4 : Int32) (x5 : Int32) (kx : Int32 → Option (Int32 × (Nat → Int32) × (Nat → Int32) × (Nat → Int32))) (k : Nat) (x6 : Int32) (x7 : Int32) (H : Heap) (locs : List Loc) (ls : Array Slot), fX7_needed_L64 x1 x5 kx k x6 x7 = some (r, now', aside', found') → va_P g.1 vwK (wM g m0 m1 m2 m3 m4 m5 m6 m7 m8 m9 m10 m11 m12 now kept aside ik found carried T S) H → va_D A (wM g m0 m1 m2 m3 m4 m5 m6 m7 m8 m9 m10 m11 m12 now kept aside ik found carried T S) → va_S A s.heap H locs → lv_has ls 8 [(0, .ref m0), (1, .int x1), (3, .int x3), (4, .int x4), (5, .int x5), (6, .int x6), (7, .int x7)] → (∀ (x6 : Int32) (H : Heap) (locs : List Loc) (ls : Array Slot), kx x6 = some (r, now', aside', found') → va_P g.1 vwK (wM g m0 m1 m2 m3 m4 m5 m6 m7 m8 m9 m10 m11 m12 now kept aside ik found carried T S) H → va_D A (wM g m0 m1 m2 m3 m4 m5 m6 m7 m8 m9 m10 m11 m12 now kept aside ik found carried T S) → va_S A s.heap H locs → lv_has ls 8 [(0, .ref m0), (1, .int x1), (3, .int x3), (4, .int x4), (5, .int x5), (6, .int x6)] → W p l e (rmm 10 224) s m args below meth c H locs 0 0 Qx (F0 m 91 ls [])) → W p l e (rmm 10 224) s m args below meth c H locs 0 0 Qx (F0 m 64 ls []) := by
    intro now aside found x1 x3 x4 x5 kx k
    induction k with
    | zero => intro x6 x7 H locs ls hf; exact nomatch (show (none : Option (Int32 × (Nat → Int32) × (Nat → Int32) × (Nat → Int32))) = some _ from hf)
    | succ k ih =>
      intro x6 x7 H locs ls hf hP hD hS hl hk
      rw [fX7_needed_L64] at hf
      refine lv_iload hx hb dX7_needed_64 (lv_at hl 6 rfl) ?_
      refine lv_iload_n hx hb dX7_needed_66 rfl (lv_at hl 1 rfl) ?_
      refine lv_icmp_ge (tgt := 91) hx hb dX7_needed_67 (by decide) (fun hc => ?_) (fun hc => ?_)
      · have hf := if_t hf hc
        exact hk _ _ _ _  hf hP hD hS (lv_sub hl [0, 1, 2, 3, 4, 5] rfl)
      · have hf := if_f hf hc
        refine lv_iload hx hb dX7_needed_70 (lv_at hl 5 rfl) ?_
        refine lv_iconst (v := (1 : Int32)) hx hb dX7_needed_72 (by decide) ?_
        refine lv_iload hx hb dX7_needed_73 (lv_at hl 4 rfl) ?_
        refine lv_iload_n hx hb dX7_needed_75 rfl (lv_at hl 1 rfl) ?_
        refine lv_iload hx hb dX7_needed_76 (lv_at hl 6 rfl) ?_
        obtain ⟨x107, hg, hf⟩ := o1_s hf
        refine Ct.callS (ws' := wM g m0 m1 m2 m3 m4 m5 m6 m7 m8 m9 m10 m11 m12 now kept aside ik found carried T S) (As := [.int x5, .int x1, .int x7]) (rest := [.int (1 : Int32), .int x6]) (st1 := [.int x107, .int (1 : Int32), .int x6]) (c_X7_signOf l g x5 x1 x7 hg) (va_cwS 3 hts gX7_needed_X7_signOf rfl rfl rfl q_X7_signOf.2 ⟨Nat.le_of_ble_eq_true rfl, Nat.le_of_ble_eq_true rfl⟩) ⟨hx, hb, hml, hown, hts⟩ hE hP hD hS hA [] rfl rfl rfl rfl rfl hl.1 rfl rfl (Nat.le_of_ble_eq_true rfl) dX7_needed_78 (fun H locs hP hD hS => ?_)
        refine lv_ishl hx hb dX7_needed_81 ?_
        refine lv_ior hx hb dX7_needed_82 ?_
        refine lv_istore (lv' := [(6, .int (x6 ||| ((1 : Int32) <<< (x107 &&& 31)))), (0, .ref m0), (1, .int x1), (3, .int x3), (4, .int x4), (5, .int x5), (7, .int x7)]) hx hb dX7_needed_83 hl (by decide) rfl (fun ls hl => ?_)
        refine lv_iinc (v := (x7 + (1 : Int32))) (lv' := [(7, .int (x7 + (1 : Int32))), (6, .int (x6 ||| ((1 : Int32) <<< (x107 &&& 31)))), (0, .ref m0), (1, .int x1), (3, .int x3), (4, .int x4), (5, .int x5)]) hx hb dX7_needed_85 hl (k := 6) rfl rfl (by decide) rfl (fun ls hl => ?_)
        refine lv_goto (tgt := 64) hx hb dX7_needed_88 (by decide) ?_
        exact ih _ _ _ _ _  hf hP hD hS (lv_sub hl [2, 3, 4, 5, 6, 1, 0] rfl) hk
  have L36 : ∀ (aside : Nat → Int32) (found : Nat → Int32) (x1 : Int32) (kx : (Nat → Int32) → Int32 → Int32 → Option (Int32 × (Nat → Int32) × (Nat → Int32) × (Nat → Int32))) (k : Nat) (now : Nat → Int32) (x3 : Int32) (x4 : Int32) (x5 : Int32) (H : Heap) (locs : List Loc) (ls : Array Slot), fX7_needed_L36 aside x1 kx k now x3 x4 x5 = some (r, now', aside', found') → va_P g.1 vwK (wM g m0 m1 m2 m3 m4 m5 m6 m7 m8 m9 m10 m11 m12 now kept aside ik found carried T S) H → va_D A (wM g m0 m1 m2 m3 m4 m5 m6 m7 m8 m9 m10 m11 m12 now kept aside ik found carried T S) → va_S A s.heap H locs → lv_has ls 8 [(0, .ref m0), (1, .int x1), (3, .int x3), (4, .int x4), (5, .int x5)] → (∀ (now : Nat → Int32) (x3 : Int32) (x4 : Int32) (H : Heap) (locs : List Loc) (ls : Array Slot), kx now x3 x4 = some (r, now', aside', found') → va_P g.1 vwK (wM g m0 m1 m2 m3 m4 m5 m6 m7 m8 m9 m10 m11 m12 now kept aside ik found carried T S) H → va_D A (wM g m0 m1 m2 m3 m4 m5 m6 m7 m8 m9 m10 m11 m12 now kept aside ik found carried T S) → va_S A s.heap H locs → lv_has ls 8 [(0, .ref m0), (3, .int x3), (4, .int x4)] → W p l e (rmm 10 224) s m args below meth c H locs 0 0 Qx (F0 m 104 ls [])) → W p l e (rmm 10 224) s m args below meth c H locs 0 0 Qx (F0 m 36 ls []) := by
    intro aside found x1 kx k
    induction k with
    | zero => intro now x3 x4 x5 H locs ls hf; exact nomatch (show (none : Option (Int32 × (Nat → Int32) × (Nat → Int32) × (Nat → Int32))) = some _ from hf)
    | succ k ih =>
      intro now x3 x4 x5 H locs ls hf hP hD hS hl hk
      rw [fX7_needed_L36] at hf
      refine lv_iload hx hb dX7_needed_36 (lv_at hl 4 rfl) ?_
      refine lv_iload_n hx hb dX7_needed_38 rfl (lv_at hl 1 rfl) ?_
      obtain ⟨x109, hg, hf⟩ := o1_s hf
      refine Ct.callS (ws' := wM g m0 m1 m2 m3 m4 m5 m6 m7 m8 m9 m10 m11 m12 now kept aside ik found carried T S) (As := [.int x1]) (rest := [.int x5]) (st1 := [.int x109, .int x5]) (c_X7_rows l g x1 hg) (va_cwS 1 hts gX7_needed_X7_rows rfl rfl rfl q_X7_rows.2 ⟨Nat.le_of_ble_eq_true rfl, Nat.le_of_ble_eq_true rfl⟩) ⟨hx, hb, hml, hown, hts⟩ hE hP hD hS hA [] rfl rfl rfl rfl rfl hl.1 rfl rfl (Nat.le_of_ble_eq_true rfl) dX7_needed_39 (fun H locs hP hD hS => ?_)
      refine lv_icmp_ge (tgt := 104) hx hb dX7_needed_42 (by decide) (fun hc => ?_) (fun hc => ?_)
      · have hf := if_t hf hc
        exact hk _ _ _ _ _ _  hf hP hD hS (lv_sub hl [0, 2, 3] rfl)
      · have hf := if_f hf hc
        refine lv_aload_n hx hb dX7_needed_45 rfl (lv_at hl 0 rfl) ?_
        refine lv_iload hx hb dX7_needed_46 (lv_at hl 4 rfl) ?_
        refine lv_iload_n hx hb dX7_needed_48 rfl (lv_at hl 1 rfl) ?_
        obtain ⟨x110, now111, hg, hf⟩ := o2_s hf
        refine Ct.callV0 (ws' := wM g m0 m1 m2 m3 m4 m5 m6 m7 m8 m9 m10 m11 m12 now111 kept aside ik found carried T S) (As := [.int x5, .int x1]) (rest := []) (st1 := [.int x110]) (c_X7_opens l g m0 m1 m2 m3 m4 m5 m6 m7 m8 m9 m10 m11 m12 now kept aside ik found carried T S x5 x1 hg) (cwV 2 hts gX7_needed_X7_opens rfl rfl rfl q_X7_opens ⟨Nat.le_of_ble_eq_true rfl, Nat.le_of_ble_eq_true rfl⟩) ⟨hx, hb, hml, hown, hts⟩ hE hP hD hS hA 7 0 rfl rfl rfl rfl hl.1 rfl rfl (Nat.le_of_ble_eq_true rfl) dX7_needed_49 (fun H locs hP hD hS => ?_)
        refine lv_if_eq (tgt := 98) hx hb dX7_needed_52 (by decide) (fun hc => ?_) (fun hc => ?_)
        · have hf := if_t hf hc
          refine lv_iinc (v := (x5 + (1 : Int32))) (lv' := [(5, .int (x5 + (1 : Int32))), (0, .ref m0), (1, .int x1), (3, .int x3), (4, .int x4)]) hx hb dX7_needed_98 hl (k := 4) rfl rfl (by decide) rfl (fun ls hl => ?_)
          refine lv_goto (tgt := 36) hx hb dX7_needed_101 (by decide) ?_
          exact ih _ _ _ _ _ _ _  hf hP hD hS (lv_sub hl [1, 2, 3, 4, 0] rfl) hk
        · have hf := if_f hf hc
          refine lv_iconst (v := (1 : Int32)) hx hb dX7_needed_55 (by decide) ?_
          refine lv_istore (lv' := [(4, .int (1 : Int32)), (0, .ref m0), (1, .int x1), (3, .int x3), (5, .int x5)]) hx hb dX7_needed_56 hl (by decide) rfl (fun ls hl => ?_)
          refine lv_iconst (v := (0 : Int32)) hx hb dX7_needed_58 (by decide) ?_
          refine lv_istore (lv' := [(6, .int (0 : Int32)), (4, .int (1 : Int32)), (0, .ref m0), (1, .int x1), (3, .int x3), (5, .int x5)]) hx hb dX7_needed_59 hl (by decide) rfl (fun ls hl => ?_)
          refine lv_iconst (v := (0 : Int32)) hx hb dX7_needed_61 (by decide) ?_
          refine lv_istore (lv' := [(7, .int (0 : Int32)), (6, .int (0 : Int32)), (4, .int (1 : Int32)), (0, .ref m0), (1, .int x1), (3, .int x3), (5, .int x5)]) hx hb dX7_needed_62 hl (by decide) rfl (fun ls hl => ?_)
          refine L64 _ _ _ _ _ _ _ _ _ _ _ _ _ _  hf hP hD hS (lv_sub hl [3, 4, 5, 2, 6, 1, 0] rfl) (fun x112 H locs ls hf hP hD hS hl => ?_)
          refine lv_iload_n hx hb dX7_needed_91 rfl (lv_at hl 2 rfl) ?_
          refine lv_iload hx hb dX7_needed_92 (lv_at hl 5 rfl) ?_
          refine lv_iconst (v := (1 : Int32)) hx hb dX7_needed_94 (by decide) ?_
          refine lv_ishr hx hb dX7_needed_95 ?_
          refine lv_iand hx hb dX7_needed_96 ?_
          refine lv_istore_n (lv' := [(3, .int (x3 &&& (x112 >>> ((1 : Int32) &&& 31)))), (0, .ref m0), (1, .int x1), (4, .int (1 : Int32)), (5, .int x5), (6, .int x112)]) hx hb dX7_needed_97 rfl hl (by decide) rfl (fun ls hl => ?_)
          refine lv_iinc (v := (x5 + (1 : Int32))) (lv' := [(5, .int (x5 + (1 : Int32))), (3, .int (x3 &&& (x112 >>> ((1 : Int32) &&& 31)))), (0, .ref m0), (1, .int x1), (4, .int (1 : Int32)), (6, .int x112)]) hx hb dX7_needed_98 hl (k := 4) rfl rfl (by decide) rfl (fun ls hl => ?_)
          refine lv_goto (tgt := 36) hx hb dX7_needed_101 (by decide) ?_
          exact ih _ _ _ _ _ _ _  hf hP hD hS (lv_sub hl [2, 3, 1, 4, 0] rfl) hk
  unfold fX7_needed at hf
  refine lv_aload_n hx hb dX7_needed_0 rfl (lv_at hl 0 rfl) ?_
  refine lv_iload_n hx hb dX7_needed_1 rfl (lv_at hl 1 rfl) ?_
  obtain ⟨x101, hg, hf⟩ := o1_s hf
  refine Ct.callV0 (ws' := wM g m0 m1 m2 m3 m4 m5 m6 m7 m8 m9 m10 m11 m12 now kept aside ik found carried T S) (As := [.int a1]) (rest := []) (st1 := [.int x101]) (c_X7_refusesRows l g m0 m1 m2 m3 m4 m5 m6 m7 m8 m9 m10 m11 m12 now kept aside ik found carried T S a1 hg) (cwV 1 hts gX7_needed_X7_refusesRows rfl rfl rfl q_X7_refusesRows ⟨Nat.le_of_ble_eq_true rfl, Nat.le_of_ble_eq_true rfl⟩) ⟨hx, hb, hml, hown, hts⟩ hE hP hD hS hA 7 0 rfl rfl rfl rfl hl.1 rfl rfl (Nat.le_of_ble_eq_true rfl) dX7_needed_2 (fun H locs hP hD hS => ?_)
  refine lv_istore_n (lv' := [(2, .int x101), (0, .ref m0), (1, .int a1)]) hx hb dX7_needed_5 rfl hl (by decide) rfl (fun ls hl => ?_)
  refine lv_iload_n hx hb dX7_needed_6 rfl (lv_at hl 0 rfl) ?_
  refine lv_if_eq (tgt := 16) hx hb dX7_needed_7 (by decide) (fun hc => ?_) (fun hc => ?_)
  · have hf := if_t hf hc
    refine lv_aload_n hx hb dX7_needed_16 rfl (lv_at hl 1 rfl) ?_
    refine va_get (D := g.1) (ci := 7) (v := .ref m1) (C := RX7) (T := TX7) (N := 22) hx hb hts i_X7_needed_X7 hown hE.1 hP 0 rfl rfl 0 (by decide) w1 (fun _ h9 => h9) rfl dX7_needed_17 ?_
    refine lv_aload_n hx hb dX7_needed_20 rfl (lv_at hl 1 rfl) ?_
    refine va_get (D := g.1) (ci := 7) (v := .ref m3) (C := RX7) (T := TX7) (N := 22) hx hb hts i_X7_needed_X7 hown hE.1 hP 0 rfl rfl 2 (by decide) w2 (fun _ h9 => h9) rfl dX7_needed_21 ?_
    obtain ⟨f2102, hg, hf⟩ := o1_s hf
    refine Ct.callS (ws' := wM g m0 m1 m2 m3 m4 m5 m6 m7 m8 m9 m10 m11 m12 now kept f2102 ik found carried T S) (As := [.ref m1, .ref m3]) (rest := []) (st1 := []) (c_X7_copyRow l g m1 m3 120 now aside hg) (va_cwS 2 hts gX7_needed_X7_copyRow rfl rfl rfl q_X7_copyRow.2 ⟨Nat.le_of_ble_eq_true rfl, Nat.le_of_ble_eq_true rfl⟩) ⟨hx, hb, hml, hown, hts⟩ hE hP hD hS hA [1, 3] rfl rfl rfl rfl rfl hl.1 rfl rfl (Nat.le_of_ble_eq_true rfl) dX7_needed_24 (fun H locs hP hD hS => ?_)
    refine lv_bipush (v := (15 : Int32)) hx hb dX7_needed_27 (by decide) ?_
    refine lv_istore_n (lv' := [(3, .int (15 : Int32)), (2, .int x101), (0, .ref m0), (1, .int a1)]) hx hb dX7_needed_29 rfl hl (by decide) rfl (fun ls hl => ?_)
    refine lv_iconst (v := (0 : Int32)) hx hb dX7_needed_30 (by decide) ?_
    refine lv_istore (lv' := [(4, .int (0 : Int32)), (3, .int (15 : Int32)), (2, .int x101), (0, .ref m0), (1, .int a1)]) hx hb dX7_needed_31 hl (by decide) rfl (fun ls hl => ?_)
    refine lv_iconst (v := (0 : Int32)) hx hb dX7_needed_33 (by decide) ?_
    refine lv_istore (lv' := [(5, .int (0 : Int32)), (4, .int (0 : Int32)), (3, .int (15 : Int32)), (2, .int x101), (0, .ref m0), (1, .int a1)]) hx hb dX7_needed_34 hl (by decide) rfl (fun ls hl => ?_)
    refine L36 _ _ _ _ _ _ _ _ _ _ _ _  hf hP hD hS (lv_sub hl [4, 5, 2, 1, 0] rfl) (fun now113 x114 x115 H locs ls hf hP hD hS hl => ?_)
    refine lv_iload hx hb dX7_needed_104 (lv_at hl 2 rfl) ?_
    refine lv_if_eq (tgt := 113) hx hb dX7_needed_106 (by decide) (fun hc => ?_) (fun hc => ?_)
    · have hf := if_t hf hc
      refine lv_aload_n hx hb dX7_needed_113 rfl (lv_at hl 0 rfl) ?_
      refine lv_ldc hx hb hown w3 dX7_needed_114 ?_
      obtain ⟨x116, found117, hg, hf⟩ := o2_s hf
      refine Ct.callV0 (ws' := wM g m0 m1 m2 m3 m4 m5 m6 m7 m8 m9 m10 m11 m12 now113 kept f2102 ik found117 carried T S) (As := [.int (-1000004 : Int32)]) (rest := []) (st1 := [.int x116]) (c_X7_finding l g m0 m1 m2 m3 m4 m5 m6 m7 m8 m9 m10 m11 m12 now113 kept f2102 ik found carried T S (-1000004 : Int32) hg) (cwV 1 hts gX7_needed_X7_finding rfl rfl rfl q_X7_finding ⟨Nat.le_of_ble_eq_true rfl, Nat.le_of_ble_eq_true rfl⟩) ⟨hx, hb, hml, hown, hts⟩ hE hP hD hS hA 7 0 rfl rfl rfl rfl hl.1 rfl rfl (Nat.le_of_ble_eq_true rfl) dX7_needed_116 (fun H locs hP hD hS => ?_)
      obtain ⟨rfl, rfl, rfl, rfl⟩ := some_p4 hf
      rw [hQ]; exact Ct.iret hx hb hr hlocks hAe hP hD hS dX7_needed_119
    · have hf := if_f hf hc
      refine lv_iload_n hx hb dX7_needed_109 rfl (lv_at hl 1 rfl) ?_
      refine lv_goto (tgt := 119) hx hb dX7_needed_110 (by decide) ?_
      obtain ⟨rfl, rfl, rfl, rfl⟩ := some_p4 hf
      rw [hQ]; exact Ct.iret hx hb hr hlocks hAe hP hD hS dX7_needed_119
  · have hf := if_f hf hc
    refine lv_aload_n hx hb dX7_needed_10 rfl (lv_at hl 1 rfl) ?_
    refine lv_iload_n hx hb dX7_needed_11 rfl (lv_at hl 0 rfl) ?_
    obtain ⟨x118, found119, hg, hf⟩ := o2_s hf
    refine Ct.callV0 (ws' := wM g m0 m1 m2 m3 m4 m5 m6 m7 m8 m9 m10 m11 m12 now kept aside ik found119 carried T S) (As := [.int x101]) (rest := []) (st1 := [.int x118]) (c_X7_finding l g m0 m1 m2 m3 m4 m5 m6 m7 m8 m9 m10 m11 m12 now kept aside ik found carried T S x101 hg) (cwV 1 hts gX7_needed_X7_finding rfl rfl rfl q_X7_finding ⟨Nat.le_of_ble_eq_true rfl, Nat.le_of_ble_eq_true rfl⟩) ⟨hx, hb, hml, hown, hts⟩ hE hP hD hS hA 7 0 rfl rfl rfl rfl hl.1 rfl rfl (Nat.le_of_ble_eq_true rfl) dX7_needed_12 (fun H locs hP hD hS => ?_)
    obtain ⟨rfl, rfl, rfl, rfl⟩ := some_p4 hf
    rw [hQ]; exact Ct.iret hx hb hr hlocks hAe hP hD hS dX7_needed_15
def fX7_canCarry_D0 : (Nat → Int32) → (Nat → Int32) → Int32 → Int32 → Int32 → Option (Int32 × (Nat → Int32) × (Nat → Int32)) := fun _ _ _ _ _ => none
theorem c_X7_canCarry_D0 (l : Launch) (g : gG) (m0 m1 m2 m3 m4 m5 m6 m7 m8 m9 m10 m11 m12 : Nat) (now : Nat → Int32) (kept : Nat → Int32) (aside : Nat → Int32) (ik : Int32) (found : Nat → Int32) (carried : Nat → Int32) (T : Mt) (S : Ms) (a1 a2 a3 : Int32) {r : Int32} {now' : Nat → Int32} {carried' : Nat → Int32} (hf : fX7_canCarry_D0 now carried a1 a2 a3 = some (r, now', carried')) : Ct l yX7_canCarry wsX7_canCarry (rmm 0 0) g (wM g m0 m1 m2 m3 m4 m5 m6 m7 m8 m9 m10 m11 m12 now kept aside ik found carried T S) (wM g m0 m1 m2 m3 m4 m5 m6 m7 m8 m9 m10 m11 m12 now' kept aside ik found carried' T S) [.ref m0, .int a1, .int a2, .int a3] (some (.int r)) := nomatch (show (none : Option (Int32 × (Nat → Int32) × (Nat → Int32))) = some _ from hf)
def fX7_canCarry_B_L13 (rec : (Nat → Int32) → (Nat → Int32) → Int32 → Int32 → Int32 → Option (Int32 × (Nat → Int32) × (Nat → Int32))) (x1 : Int32) (x3 : Int32) (kx : (Nat → Int32) → (Nat → Int32) → Option (Int32 × (Nat → Int32) × (Nat → Int32))) : Nat → (Nat → Int32) → (Nat → Int32) → Int32 → Option (Int32 × (Nat → Int32) × (Nat → Int32))
  | 0, _, _, _ => none
  | k + 1, now, carried, x4 => rd now 120 (2 : Int32) (fun x114 => if x114 ≤ x4 then (kx now carried) else (o1 (fX7_cisternIs now x4 (2 : Int32)) (fun x115 => o1 (fX7_cisternIs now x4 (1 : Int32)) (fun x116 => if x116 ≤ x115 then (fX7_canCarry_B_L13 rec x1 x3 kx k now carried (x4 + (1 : Int32))) else (o1 (fX7_at x4 (2 : Int32)) (fun x117 => rd now 120 x117 (fun x118 => wr now 120 x117 (x118 + (1 : Int32)) (fun f119 => wr carried 4 x3 x4 (fun f120 => o3 (rec f119 f120 x1 x4 (x3 + (1 : Int32))) (fun x121 now122 carried123 => o1 (fX7_at x4 (2 : Int32)) (fun x124 => rd now122 120 x124 (fun x125 => wr now122 120 x124 (x125 - (1 : Int32)) (fun f126 => if x121 = 0 then (fX7_canCarry_B_L13 rec x1 x3 kx k f126 carried123 (x4 + (1 : Int32))) else (some ((1 : Int32), f126, carried123)))))))))))))))
def fX7_canCarry_B (rec : (Nat → Int32) → (Nat → Int32) → Int32 → Int32 → Int32 → Option (Int32 × (Nat → Int32) × (Nat → Int32))) (now : Nat → Int32) (carried : Nat → Int32) (a1 : Int32) (a2 : Int32) (a3 : Int32) : Option (Int32 × (Nat → Int32) × (Nat → Int32)) := if a1 = a3 then (o1 (fX7_isOpen now) (fun x129 => nb x129 (some (x129, now, carried)))) else (fX7_canCarry_B_L13 rec a1 a3 (fun now127 carried128 => some ((0 : Int32), now127, carried128)) fu now carried a2)
def fX7_canCarry_D1 : (Nat → Int32) → (Nat → Int32) → Int32 → Int32 → Int32 → Option (Int32 × (Nat → Int32) × (Nat → Int32)) := fX7_canCarry_B fX7_canCarry_D0
theorem q_X7_canCarry : yX7_canCarry.cls = RX7 ∧ yX7_canCarry.cls ≠ "java/lang/invoke/MethodHandle" ∧ yX7_canCarry.cls ≠ "java/lang/invoke/VarHandle" ∧ (parseMethodDescriptor yX7_canCarry.desc).map (fun d => d.parameters.length) = some 3 := by decide +kernel
theorem i_X7_canCarry_X7 : ∀ w ∈ u_ws RX7 TX7 22, w ∈ wsX7_canCarry := fun _ h => List.mem_cons_of_mem _ (List.mem_append_right _ (h))
set_option maxHeartbeats 4000000 in
set_option maxRecDepth 100000 in
theorem c_X7_canCarry_D1 (l : Launch) (g : gG) (m0 m1 m2 m3 m4 m5 m6 m7 m8 m9 m10 m11 m12 : Nat) (now : Nat → Int32) (kept : Nat → Int32) (aside : Nat → Int32) (ik : Int32) (found : Nat → Int32) (carried : Nat → Int32) (T : Mt) (S : Ms) (a1 : Int32) (a2 : Int32) (a3 : Int32) {r : Int32} {now' : Nat → Int32} {carried' : Nat → Int32} (hf : fX7_canCarry_D1 now carried a1 a2 a3 = some (r, now', carried')) : Ct l yX7_canCarry wsX7_canCarry (rmm 6 132) g (wM g m0 m1 m2 m3 m4 m5 m6 m7 m8 m9 m10 m11 m12 now kept aside ik found carried T S) (wM g m0 m1 m2 m3 m4 m5 m6 m7 m8 m9 m10 m11 m12 (now') kept aside ik found (carried') T S) [.ref m0, .int a1, .int a2, .int a3] (some (.int r)) := by
  refine Ct.mk (by decide) rfl (Nat.le_of_ble_eq_true rfl) ?_
  intro p e s m args below meth c A ls hx hb hr hml hts hown hlocks hA hE hP hD hS hl hAe
  obtain ⟨Qx, hQ⟩ : ∃ Qx : State → Prop, Qx = MQ below (QcG g (wM g m0 m1 m2 m3 m4 m5 m6 m7 m8 m9 m10 m11 m12 now kept aside ik found carried T S) (wM g m0 m1 m2 m3 m4 m5 m6 m7 m8 m9 m10 m11 m12 (now') kept aside ik found (carried') T S) (some (.int r)) s.heap.size) args s 0 0 A := ⟨_, rfl⟩
  rw [← hQ]
  have hown : s.vm.findClass RX7 = some m.cls := hown
  have hl : lv_has ls 6 [(0, .ref m0), (1, .int a1), (2, .int a2), (3, .int a3)] := hl
  have w1 := hts (.fieldLink RX7 9 "RainVaultModel" "now" "[I") (List.mem_of_getElem? (i := 1) rfl)
  have w2 := hts (.fieldLink RX7 22 "RainVaultModel" "carried" "[I") (List.mem_of_getElem? (i := 2) rfl)
  have L13 : ∀ (x1 : Int32) (x3 : Int32) (kx : (Nat → Int32) → (Nat → Int32) → Option (Int32 × (Nat → Int32) × (Nat → Int32))) (k : Nat) (now : Nat → Int32) (carried : Nat → Int32) (x4 : Int32) (H : Heap) (locs : List Loc) (ls : Array Slot), fX7_canCarry_B_L13 fX7_canCarry_D0 x1 x3 kx k now carried x4 = some (r, now', carried') → va_P g.1 vwK (wM g m0 m1 m2 m3 m4 m5 m6 m7 m8 m9 m10 m11 m12 now kept aside ik found carried T S) H → va_D A (wM g m0 m1 m2 m3 m4 m5 m6 m7 m8 m9 m10 m11 m12 now kept aside ik found carried T S) → va_S A s.heap H locs → lv_has ls 6 [(0, .ref m0), (1, .int x1), (3, .int x3), (4, .int x4)] → (∀ (now : Nat → Int32) (carried : Nat → Int32) (H : Heap) (locs : List Loc) (ls : Array Slot), kx now carried = some (r, now', carried') → va_P g.1 vwK (wM g m0 m1 m2 m3 m4 m5 m6 m7 m8 m9 m10 m11 m12 now kept aside ik found carried T S) H → va_D A (wM g m0 m1 m2 m3 m4 m5 m6 m7 m8 m9 m10 m11 m12 now kept aside ik found carried T S) → va_S A s.heap H locs → lv_has ls 6 [] → W p l e (rmm 6 132) s m args below meth c H locs 0 0 Qx (F0 m 104 ls [])) → W p l e (rmm 6 132) s m args below meth c H locs 0 0 Qx (F0 m 13 ls []) := by
    intro x1 x3 kx k
    induction k with
    | zero => intro now carried x4 H locs ls hf; exact nomatch (show (none : Option (Int32 × (Nat → Int32) × (Nat → Int32))) = some _ from hf)
    | succ k ih =>
      intro now carried x4 H locs ls hf hP hD hS hl hk
      rw [fX7_canCarry_B_L13] at hf
      refine lv_iload hx hb dX7_canCarry_13 (lv_at hl 3 rfl) ?_
      refine lv_aload_n hx hb dX7_canCarry_15 rfl (lv_at hl 0 rfl) ?_
      refine va_get (D := g.1) (ci := 7) (v := .ref m1) (C := RX7) (T := TX7) (N := 22) hx hb hts i_X7_canCarry_X7 hown hE.1 hP 0 rfl rfl 0 (by decide) w1 (fun _ h9 => h9) rfl dX7_canCarry_16 ?_
      refine lv_iconst (v := (2 : Int32)) hx hb dX7_canCarry_19 (by decide) ?_
      obtain ⟨x114, ex, hin, hf⟩ := rd_s hf
      refine st_iald (f := now) hx hb hE.1 hP 1 0 rfl rfl hin ex dX7_canCarry_20 ?_
      refine lv_icmp_ge (tgt := 104) hx hb dX7_canCarry_21 (by decide) (fun hc => ?_) (fun hc => ?_)
      · have hf := if_t hf hc
        exact hk _ _ _ _ _  hf hP hD hS (lv_sub hl [] rfl)
      · have hf := if_f hf hc
        refine lv_aload_n hx hb dX7_canCarry_24 rfl (lv_at hl 0 rfl) ?_
        refine lv_iload hx hb dX7_canCarry_25 (lv_at hl 3 rfl) ?_
        refine lv_iconst (v := (2 : Int32)) hx hb dX7_canCarry_27 (by decide) ?_
        obtain ⟨x115, hg, hf⟩ := o1_s hf
        refine Ct.callV0 (ws' := wM g m0 m1 m2 m3 m4 m5 m6 m7 m8 m9 m10 m11 m12 now kept aside ik found carried T S) (As := [.int x4, .int (2 : Int32)]) (rest := []) (st1 := [.int x115]) (c_X7_cisternIs l g m0 m1 m2 m3 m4 m5 m6 m7 m8 m9 m10 m11 m12 now kept aside ik found carried T S x4 (2 : Int32) hg) (cwV 2 hts gX7_canCarry_X7_cisternIs rfl rfl rfl q_X7_cisternIs ⟨Nat.le_of_ble_eq_true rfl, Nat.le_of_ble_eq_true rfl⟩) ⟨hx, hb, hml, hown, hts⟩ hE hP hD hS hA 7 0 rfl rfl rfl rfl hl.1 rfl rfl (Nat.le_of_ble_eq_true rfl) dX7_canCarry_28 (fun H locs hP hD hS => ?_)
        refine lv_aload_n hx hb dX7_canCarry_31 rfl (lv_at hl 0 rfl) ?_
        refine lv_iload hx hb dX7_canCarry_32 (lv_at hl 3 rfl) ?_
        refine lv_iconst (v := (1 : Int32)) hx hb dX7_canCarry_34 (by decide) ?_
        obtain ⟨x116, hg, hf⟩ := o1_s hf
        refine Ct.callV0 (ws' := wM g m0 m1 m2 m3 m4 m5 m6 m7 m8 m9 m10 m11 m12 now kept aside ik found carried T S) (As := [.int x4, .int (1 : Int32)]) (rest := [.int x115]) (st1 := [.int x116, .int x115]) (c_X7_cisternIs l g m0 m1 m2 m3 m4 m5 m6 m7 m8 m9 m10 m11 m12 now kept aside ik found carried T S x4 (1 : Int32) hg) (cwV 2 hts gX7_canCarry_X7_cisternIs rfl rfl rfl q_X7_cisternIs ⟨Nat.le_of_ble_eq_true rfl, Nat.le_of_ble_eq_true rfl⟩) ⟨hx, hb, hml, hown, hts⟩ hE hP hD hS hA 7 0 rfl rfl rfl rfl hl.1 rfl rfl (Nat.le_of_ble_eq_true rfl) dX7_canCarry_35 (fun H locs hP hD hS => ?_)
        refine lv_icmp_ge (tgt := 98) hx hb dX7_canCarry_38 (by decide) (fun hc => ?_) (fun hc => ?_)
        · have hf := if_t hf hc
          refine lv_iinc (v := (x4 + (1 : Int32))) (lv' := [(4, .int (x4 + (1 : Int32))), (0, .ref m0), (1, .int x1), (3, .int x3)]) hx hb dX7_canCarry_98 hl (k := 3) rfl rfl (by decide) rfl (fun ls hl => ?_)
          refine lv_goto (tgt := 13) hx hb dX7_canCarry_101 (by decide) ?_
          exact ih _ _ _ _ _ _  hf hP hD hS (lv_sub hl [1, 2, 3, 0] rfl) hk
        · have hf := if_f hf hc
          refine lv_aload_n hx hb dX7_canCarry_41 rfl (lv_at hl 0 rfl) ?_
          refine va_get (D := g.1) (ci := 7) (v := .ref m1) (C := RX7) (T := TX7) (N := 22) hx hb hts i_X7_canCarry_X7 hown hE.1 hP 0 rfl rfl 0 (by decide) w1 (fun _ h9 => h9) rfl dX7_canCarry_42 ?_
          refine lv_iload hx hb dX7_canCarry_45 (lv_at hl 3 rfl) ?_
          refine lv_iconst (v := (2 : Int32)) hx hb dX7_canCarry_47 (by decide) ?_
          obtain ⟨x117, hg, hf⟩ := o1_s hf
          refine Ct.callS (ws' := wM g m0 m1 m2 m3 m4 m5 m6 m7 m8 m9 m10 m11 m12 now kept aside ik found carried T S) (As := [.int x4, .int (2 : Int32)]) (rest := [.ref m1]) (st1 := [.int x117, .ref m1]) (c_X7_at l g x4 (2 : Int32) hg) (va_cwS 2 hts gX7_canCarry_X7_at rfl rfl rfl q_X7_at.2 ⟨Nat.le_of_ble_eq_true rfl, Nat.le_of_ble_eq_true rfl⟩) ⟨hx, hb, hml, hown, hts⟩ hE hP hD hS hA [] rfl rfl rfl rfl rfl hl.1 rfl rfl (Nat.le_of_ble_eq_true rfl) dX7_canCarry_48 (fun H locs hP hD hS => ?_)
          refine lv_dup2_11 hx hb dX7_canCarry_51 rfl rfl ?_
          obtain ⟨x118, ex, hin, hf⟩ := rd_s hf
          refine st_iald (f := now) hx hb hE.1 hP 1 0 rfl rfl hin ex dX7_canCarry_52 ?_
          refine lv_iconst (v := (1 : Int32)) hx hb dX7_canCarry_53 (by decide) ?_
          refine lv_iadd hx hb dX7_canCarry_54 ?_
          obtain ⟨f119, ef, hin, hf⟩ := wr_s hf
          refine st_iast (ws' := wM g m0 m1 m2 m3 m4 m5 m6 m7 m8 m9 m10 m11 m12 f119 kept aside ik found carried T S) (f := now) (f2 := f119) hx hb hE.1 hP hD hS 1 0 rfl rfl hin ef rfl dX7_canCarry_55 (fun H locs hP hD hS => ?_)
          refine lv_aload_n hx hb dX7_canCarry_56 rfl (lv_at hl 0 rfl) ?_
          refine va_get (D := g.1) (ci := 7) (v := .ref m5) (C := RX7) (T := TX7) (N := 22) hx hb hts i_X7_canCarry_X7 hown hE.1 hP 0 rfl rfl 5 (by decide) w2 (fun _ h9 => h9) rfl dX7_canCarry_57 ?_
          refine lv_iload_n hx hb dX7_canCarry_60 rfl (lv_at hl 2 rfl) ?_
          refine lv_iload hx hb dX7_canCarry_61 (lv_at hl 3 rfl) ?_
          obtain ⟨f120, ef, hin, hf⟩ := wr_s hf
          refine st_iast (ws' := wM g m0 m1 m2 m3 m4 m5 m6 m7 m8 m9 m10 m11 m12 f119 kept aside ik found f120 T S) (f := carried) (f2 := f120) hx hb hE.1 hP hD hS 5 0 rfl rfl hin ef rfl dX7_canCarry_63 (fun H locs hP hD hS => ?_)
          refine lv_aload_n hx hb dX7_canCarry_64 rfl (lv_at hl 0 rfl) ?_
          refine lv_iload_n hx hb dX7_canCarry_65 rfl (lv_at hl 1 rfl) ?_
          refine lv_iload hx hb dX7_canCarry_66 (lv_at hl 3 rfl) ?_
          refine lv_iload_n hx hb dX7_canCarry_68 rfl (lv_at hl 2 rfl) ?_
          refine lv_iconst (v := (1 : Int32)) hx hb dX7_canCarry_69 (by decide) ?_
          refine lv_iadd hx hb dX7_canCarry_70 ?_
          obtain ⟨x121, now122, carried123, hg, hf⟩ := o3_s hf
          refine Ct.callV0 (ws' := wM g m0 m1 m2 m3 m4 m5 m6 m7 m8 m9 m10 m11 m12 now122 kept aside ik found carried123 T S) (As := [.int x1, .int x4, .int (x3 + (1 : Int32))]) (rest := []) (st1 := [.int x121]) (c_X7_canCarry_D0 l g m0 m1 m2 m3 m4 m5 m6 m7 m8 m9 m10 m11 m12 f119 kept aside ik found f120 T S x1 x4 (x3 + (1 : Int32)) hg) (cwV 3 hts gX7_canCarry_X7_canCarry rfl rfl rfl q_X7_canCarry ⟨Nat.le_of_ble_eq_true rfl, Nat.le_of_ble_eq_true rfl⟩) ⟨hx, hb, hml, hown, hts⟩ hE hP hD hS hA 7 0 rfl rfl rfl rfl hl.1 rfl rfl (Nat.le_of_ble_eq_true rfl) dX7_canCarry_71 (fun H locs hP hD hS => ?_)
          refine lv_istore (lv' := [(5, .int x121), (0, .ref m0), (1, .int x1), (3, .int x3), (4, .int x4)]) hx hb dX7_canCarry_74 hl (by decide) rfl (fun ls hl => ?_)
          refine lv_aload_n hx hb dX7_canCarry_76 rfl (lv_at hl 1 rfl) ?_
          refine va_get (D := g.1) (ci := 7) (v := .ref m1) (C := RX7) (T := TX7) (N := 22) hx hb hts i_X7_canCarry_X7 hown hE.1 hP 0 rfl rfl 0 (by decide) w1 (fun _ h9 => h9) rfl dX7_canCarry_77 ?_
          refine lv_iload hx hb dX7_canCarry_80 (lv_at hl 4 rfl) ?_
          refine lv_iconst (v := (2 : Int32)) hx hb dX7_canCarry_82 (by decide) ?_
          obtain ⟨x124, hg, hf⟩ := o1_s hf
          refine Ct.callS (ws' := wM g m0 m1 m2 m3 m4 m5 m6 m7 m8 m9 m10 m11 m12 now122 kept aside ik found carried123 T S) (As := [.int x4, .int (2 : Int32)]) (rest := [.ref m1]) (st1 := [.int x124, .ref m1]) (c_X7_at l g x4 (2 : Int32) hg) (va_cwS 2 hts gX7_canCarry_X7_at rfl rfl rfl q_X7_at.2 ⟨Nat.le_of_ble_eq_true rfl, Nat.le_of_ble_eq_true rfl⟩) ⟨hx, hb, hml, hown, hts⟩ hE hP hD hS hA [] rfl rfl rfl rfl rfl hl.1 rfl rfl (Nat.le_of_ble_eq_true rfl) dX7_canCarry_83 (fun H locs hP hD hS => ?_)
          refine lv_dup2_11 hx hb dX7_canCarry_86 rfl rfl ?_
          obtain ⟨x125, ex, hin, hf⟩ := rd_s hf
          refine st_iald (f := now122) hx hb hE.1 hP 1 0 rfl rfl hin ex dX7_canCarry_87 ?_
          refine lv_iconst (v := (1 : Int32)) hx hb dX7_canCarry_88 (by decide) ?_
          refine lv_isub hx hb dX7_canCarry_89 ?_
          obtain ⟨f126, ef, hin, hf⟩ := wr_s hf
          refine st_iast (ws' := wM g m0 m1 m2 m3 m4 m5 m6 m7 m8 m9 m10 m11 m12 f126 kept aside ik found carried123 T S) (f := now122) (f2 := f126) hx hb hE.1 hP hD hS 1 0 rfl rfl hin ef rfl dX7_canCarry_90 (fun H locs hP hD hS => ?_)
          refine lv_iload hx hb dX7_canCarry_91 (lv_at hl 0 rfl) ?_
          refine lv_if_eq (tgt := 98) hx hb dX7_canCarry_93 (by decide) (fun hc => ?_) (fun hc => ?_)
          · have hf := if_t hf hc
            refine lv_iinc (v := (x4 + (1 : Int32))) (lv' := [(4, .int (x4 + (1 : Int32))), (5, .int x121), (0, .ref m0), (1, .int x1), (3, .int x3)]) hx hb dX7_canCarry_98 hl (k := 4) rfl rfl (by decide) rfl (fun ls hl => ?_)
            refine lv_goto (tgt := 13) hx hb dX7_canCarry_101 (by decide) ?_
            exact ih _ _ _ _ _ _  hf hP hD hS (lv_sub hl [2, 3, 4, 0] rfl) hk
          · have hf := if_f hf hc
            refine lv_iconst (v := (1 : Int32)) hx hb dX7_canCarry_96 (by decide) ?_
            obtain ⟨rfl, rfl, rfl⟩ := some_p3 hf
            rw [hQ]; exact Ct.zret hx hb hr (by decide) hlocks hAe hP hD hS dX7_canCarry_97
  unfold fX7_canCarry_D1 fX7_canCarry_B at hf
  refine lv_iload_n hx hb dX7_canCarry_0 rfl (lv_at hl 1 rfl) ?_
  refine lv_iload_n hx hb dX7_canCarry_1 rfl (lv_at hl 3 rfl) ?_
  refine lv_icmp_ne (tgt := 10) hx hb dX7_canCarry_2 (by decide) (fun hc => ?_) (fun hc => ?_)
  · have hf := if_f hf hc
    refine lv_iload_n hx hb dX7_canCarry_10 rfl (lv_at hl 2 rfl) ?_
    refine lv_istore (lv' := [(4, .int a2), (0, .ref m0), (1, .int a1), (2, .int a2), (3, .int a3)]) hx hb dX7_canCarry_11 hl (by decide) rfl (fun ls hl => ?_)
    refine L13 _ _ _ _ _ _ _ _ _ _  hf hP hD hS (lv_sub hl [1, 2, 4, 0] rfl) (fun now127 carried128 H locs ls hf hP hD hS hl => ?_)
    refine lv_iconst (v := (0 : Int32)) hx hb dX7_canCarry_104 (by decide) ?_
    obtain ⟨rfl, rfl, rfl⟩ := some_p3 hf
    rw [hQ]; exact Ct.zret hx hb hr (by decide) hlocks hAe hP hD hS dX7_canCarry_105
  · have hf := if_t hf hc
    refine lv_aload_n hx hb dX7_canCarry_5 rfl (lv_at hl 0 rfl) ?_
    obtain ⟨x129, hg, hf⟩ := o1_s hf
    refine Ct.callV0 (ws' := wM g m0 m1 m2 m3 m4 m5 m6 m7 m8 m9 m10 m11 m12 now kept aside ik found carried T S) (As := []) (rest := []) (st1 := [.int x129]) (c_X7_isOpen l g m0 m1 m2 m3 m4 m5 m6 m7 m8 m9 m10 m11 m12 now kept aside ik found carried T S hg) (cwV 0 hts gX7_canCarry_X7_isOpen rfl rfl rfl q_X7_isOpen ⟨Nat.le_of_ble_eq_true rfl, Nat.le_of_ble_eq_true rfl⟩) ⟨hx, hb, hml, hown, hts⟩ hE hP hD hS hA 7 0 rfl rfl rfl rfl hl.1 rfl rfl (Nat.le_of_ble_eq_true rfl) dX7_canCarry_6 (fun H locs hP hD hS => ?_)
    obtain ⟨hn, hf⟩ := nb_s hf
    obtain ⟨rfl, rfl, rfl⟩ := some_p3 hf
    rw [hQ]; exact Ct.zret hx hb hr hn hlocks hAe hP hD hS dX7_canCarry_9
def fX7_canCarry_D2 : (Nat → Int32) → (Nat → Int32) → Int32 → Int32 → Int32 → Option (Int32 × (Nat → Int32) × (Nat → Int32)) := fX7_canCarry_B fX7_canCarry_D1
set_option maxHeartbeats 4000000 in
set_option maxRecDepth 100000 in
theorem c_X7_canCarry_D2 (l : Launch) (g : gG) (m0 m1 m2 m3 m4 m5 m6 m7 m8 m9 m10 m11 m12 : Nat) (now : Nat → Int32) (kept : Nat → Int32) (aside : Nat → Int32) (ik : Int32) (found : Nat → Int32) (carried : Nat → Int32) (T : Mt) (S : Ms) (a1 : Int32) (a2 : Int32) (a3 : Int32) {r : Int32} {now' : Nat → Int32} {carried' : Nat → Int32} (hf : fX7_canCarry_D2 now carried a1 a2 a3 = some (r, now', carried')) : Ct l yX7_canCarry wsX7_canCarry (rmm 7 157) g (wM g m0 m1 m2 m3 m4 m5 m6 m7 m8 m9 m10 m11 m12 now kept aside ik found carried T S) (wM g m0 m1 m2 m3 m4 m5 m6 m7 m8 m9 m10 m11 m12 (now') kept aside ik found (carried') T S) [.ref m0, .int a1, .int a2, .int a3] (some (.int r)) := by
  refine Ct.mk (by decide) rfl (Nat.le_of_ble_eq_true rfl) ?_
  intro p e s m args below meth c A ls hx hb hr hml hts hown hlocks hA hE hP hD hS hl hAe
  obtain ⟨Qx, hQ⟩ : ∃ Qx : State → Prop, Qx = MQ below (QcG g (wM g m0 m1 m2 m3 m4 m5 m6 m7 m8 m9 m10 m11 m12 now kept aside ik found carried T S) (wM g m0 m1 m2 m3 m4 m5 m6 m7 m8 m9 m10 m11 m12 (now') kept aside ik found (carried') T S) (some (.int r)) s.heap.size) args s 0 0 A := ⟨_, rfl⟩
  rw [← hQ]
  have hown : s.vm.findClass RX7 = some m.cls := hown
  have hl : lv_has ls 6 [(0, .ref m0), (1, .int a1), (2, .int a2), (3, .int a3)] := hl
  have w1 := hts (.fieldLink RX7 9 "RainVaultModel" "now" "[I") (List.mem_of_getElem? (i := 1) rfl)
  have w2 := hts (.fieldLink RX7 22 "RainVaultModel" "carried" "[I") (List.mem_of_getElem? (i := 2) rfl)
  have L13 : ∀ (x1 : Int32) (x3 : Int32) (kx : (Nat → Int32) → (Nat → Int32) → Option (Int32 × (Nat → Int32) × (Nat → Int32))) (k : Nat) (now : Nat → Int32) (carried : Nat → Int32) (x4 : Int32) (H : Heap) (locs : List Loc) (ls : Array Slot), fX7_canCarry_B_L13 fX7_canCarry_D1 x1 x3 kx k now carried x4 = some (r, now', carried') → va_P g.1 vwK (wM g m0 m1 m2 m3 m4 m5 m6 m7 m8 m9 m10 m11 m12 now kept aside ik found carried T S) H → va_D A (wM g m0 m1 m2 m3 m4 m5 m6 m7 m8 m9 m10 m11 m12 now kept aside ik found carried T S) → va_S A s.heap H locs → lv_has ls 6 [(0, .ref m0), (1, .int x1), (3, .int x3), (4, .int x4)] → (∀ (now : Nat → Int32) (carried : Nat → Int32) (H : Heap) (locs : List Loc) (ls : Array Slot), kx now carried = some (r, now', carried') → va_P g.1 vwK (wM g m0 m1 m2 m3 m4 m5 m6 m7 m8 m9 m10 m11 m12 now kept aside ik found carried T S) H → va_D A (wM g m0 m1 m2 m3 m4 m5 m6 m7 m8 m9 m10 m11 m12 now kept aside ik found carried T S) → va_S A s.heap H locs → lv_has ls 6 [] → W p l e (rmm 7 157) s m args below meth c H locs 0 0 Qx (F0 m 104 ls [])) → W p l e (rmm 7 157) s m args below meth c H locs 0 0 Qx (F0 m 13 ls []) := by
    intro x1 x3 kx k
    induction k with
    | zero => intro now carried x4 H locs ls hf; exact nomatch (show (none : Option (Int32 × (Nat → Int32) × (Nat → Int32))) = some _ from hf)
    | succ k ih =>
      intro now carried x4 H locs ls hf hP hD hS hl hk
      rw [fX7_canCarry_B_L13] at hf
      refine lv_iload hx hb dX7_canCarry_13 (lv_at hl 3 rfl) ?_
      refine lv_aload_n hx hb dX7_canCarry_15 rfl (lv_at hl 0 rfl) ?_
      refine va_get (D := g.1) (ci := 7) (v := .ref m1) (C := RX7) (T := TX7) (N := 22) hx hb hts i_X7_canCarry_X7 hown hE.1 hP 0 rfl rfl 0 (by decide) w1 (fun _ h9 => h9) rfl dX7_canCarry_16 ?_
      refine lv_iconst (v := (2 : Int32)) hx hb dX7_canCarry_19 (by decide) ?_
      obtain ⟨x114, ex, hin, hf⟩ := rd_s hf
      refine st_iald (f := now) hx hb hE.1 hP 1 0 rfl rfl hin ex dX7_canCarry_20 ?_
      refine lv_icmp_ge (tgt := 104) hx hb dX7_canCarry_21 (by decide) (fun hc => ?_) (fun hc => ?_)
      · have hf := if_t hf hc
        exact hk _ _ _ _ _  hf hP hD hS (lv_sub hl [] rfl)
      · have hf := if_f hf hc
        refine lv_aload_n hx hb dX7_canCarry_24 rfl (lv_at hl 0 rfl) ?_
        refine lv_iload hx hb dX7_canCarry_25 (lv_at hl 3 rfl) ?_
        refine lv_iconst (v := (2 : Int32)) hx hb dX7_canCarry_27 (by decide) ?_
        obtain ⟨x115, hg, hf⟩ := o1_s hf
        refine Ct.callV0 (ws' := wM g m0 m1 m2 m3 m4 m5 m6 m7 m8 m9 m10 m11 m12 now kept aside ik found carried T S) (As := [.int x4, .int (2 : Int32)]) (rest := []) (st1 := [.int x115]) (c_X7_cisternIs l g m0 m1 m2 m3 m4 m5 m6 m7 m8 m9 m10 m11 m12 now kept aside ik found carried T S x4 (2 : Int32) hg) (cwV 2 hts gX7_canCarry_X7_cisternIs rfl rfl rfl q_X7_cisternIs ⟨Nat.le_of_ble_eq_true rfl, Nat.le_of_ble_eq_true rfl⟩) ⟨hx, hb, hml, hown, hts⟩ hE hP hD hS hA 7 0 rfl rfl rfl rfl hl.1 rfl rfl (Nat.le_of_ble_eq_true rfl) dX7_canCarry_28 (fun H locs hP hD hS => ?_)
        refine lv_aload_n hx hb dX7_canCarry_31 rfl (lv_at hl 0 rfl) ?_
        refine lv_iload hx hb dX7_canCarry_32 (lv_at hl 3 rfl) ?_
        refine lv_iconst (v := (1 : Int32)) hx hb dX7_canCarry_34 (by decide) ?_
        obtain ⟨x116, hg, hf⟩ := o1_s hf
        refine Ct.callV0 (ws' := wM g m0 m1 m2 m3 m4 m5 m6 m7 m8 m9 m10 m11 m12 now kept aside ik found carried T S) (As := [.int x4, .int (1 : Int32)]) (rest := [.int x115]) (st1 := [.int x116, .int x115]) (c_X7_cisternIs l g m0 m1 m2 m3 m4 m5 m6 m7 m8 m9 m10 m11 m12 now kept aside ik found carried T S x4 (1 : Int32) hg) (cwV 2 hts gX7_canCarry_X7_cisternIs rfl rfl rfl q_X7_cisternIs ⟨Nat.le_of_ble_eq_true rfl, Nat.le_of_ble_eq_true rfl⟩) ⟨hx, hb, hml, hown, hts⟩ hE hP hD hS hA 7 0 rfl rfl rfl rfl hl.1 rfl rfl (Nat.le_of_ble_eq_true rfl) dX7_canCarry_35 (fun H locs hP hD hS => ?_)
        refine lv_icmp_ge (tgt := 98) hx hb dX7_canCarry_38 (by decide) (fun hc => ?_) (fun hc => ?_)
        · have hf := if_t hf hc
          refine lv_iinc (v := (x4 + (1 : Int32))) (lv' := [(4, .int (x4 + (1 : Int32))), (0, .ref m0), (1, .int x1), (3, .int x3)]) hx hb dX7_canCarry_98 hl (k := 3) rfl rfl (by decide) rfl (fun ls hl => ?_)
          refine lv_goto (tgt := 13) hx hb dX7_canCarry_101 (by decide) ?_
          exact ih _ _ _ _ _ _  hf hP hD hS (lv_sub hl [1, 2, 3, 0] rfl) hk
        · have hf := if_f hf hc
          refine lv_aload_n hx hb dX7_canCarry_41 rfl (lv_at hl 0 rfl) ?_
          refine va_get (D := g.1) (ci := 7) (v := .ref m1) (C := RX7) (T := TX7) (N := 22) hx hb hts i_X7_canCarry_X7 hown hE.1 hP 0 rfl rfl 0 (by decide) w1 (fun _ h9 => h9) rfl dX7_canCarry_42 ?_
          refine lv_iload hx hb dX7_canCarry_45 (lv_at hl 3 rfl) ?_
          refine lv_iconst (v := (2 : Int32)) hx hb dX7_canCarry_47 (by decide) ?_
          obtain ⟨x117, hg, hf⟩ := o1_s hf
          refine Ct.callS (ws' := wM g m0 m1 m2 m3 m4 m5 m6 m7 m8 m9 m10 m11 m12 now kept aside ik found carried T S) (As := [.int x4, .int (2 : Int32)]) (rest := [.ref m1]) (st1 := [.int x117, .ref m1]) (c_X7_at l g x4 (2 : Int32) hg) (va_cwS 2 hts gX7_canCarry_X7_at rfl rfl rfl q_X7_at.2 ⟨Nat.le_of_ble_eq_true rfl, Nat.le_of_ble_eq_true rfl⟩) ⟨hx, hb, hml, hown, hts⟩ hE hP hD hS hA [] rfl rfl rfl rfl rfl hl.1 rfl rfl (Nat.le_of_ble_eq_true rfl) dX7_canCarry_48 (fun H locs hP hD hS => ?_)
          refine lv_dup2_11 hx hb dX7_canCarry_51 rfl rfl ?_
          obtain ⟨x118, ex, hin, hf⟩ := rd_s hf
          refine st_iald (f := now) hx hb hE.1 hP 1 0 rfl rfl hin ex dX7_canCarry_52 ?_
          refine lv_iconst (v := (1 : Int32)) hx hb dX7_canCarry_53 (by decide) ?_
          refine lv_iadd hx hb dX7_canCarry_54 ?_
          obtain ⟨f119, ef, hin, hf⟩ := wr_s hf
          refine st_iast (ws' := wM g m0 m1 m2 m3 m4 m5 m6 m7 m8 m9 m10 m11 m12 f119 kept aside ik found carried T S) (f := now) (f2 := f119) hx hb hE.1 hP hD hS 1 0 rfl rfl hin ef rfl dX7_canCarry_55 (fun H locs hP hD hS => ?_)
          refine lv_aload_n hx hb dX7_canCarry_56 rfl (lv_at hl 0 rfl) ?_
          refine va_get (D := g.1) (ci := 7) (v := .ref m5) (C := RX7) (T := TX7) (N := 22) hx hb hts i_X7_canCarry_X7 hown hE.1 hP 0 rfl rfl 5 (by decide) w2 (fun _ h9 => h9) rfl dX7_canCarry_57 ?_
          refine lv_iload_n hx hb dX7_canCarry_60 rfl (lv_at hl 2 rfl) ?_
          refine lv_iload hx hb dX7_canCarry_61 (lv_at hl 3 rfl) ?_
          obtain ⟨f120, ef, hin, hf⟩ := wr_s hf
          refine st_iast (ws' := wM g m0 m1 m2 m3 m4 m5 m6 m7 m8 m9 m10 m11 m12 f119 kept aside ik found f120 T S) (f := carried) (f2 := f120) hx hb hE.1 hP hD hS 5 0 rfl rfl hin ef rfl dX7_canCarry_63 (fun H locs hP hD hS => ?_)
          refine lv_aload_n hx hb dX7_canCarry_64 rfl (lv_at hl 0 rfl) ?_
          refine lv_iload_n hx hb dX7_canCarry_65 rfl (lv_at hl 1 rfl) ?_
          refine lv_iload hx hb dX7_canCarry_66 (lv_at hl 3 rfl) ?_
          refine lv_iload_n hx hb dX7_canCarry_68 rfl (lv_at hl 2 rfl) ?_
          refine lv_iconst (v := (1 : Int32)) hx hb dX7_canCarry_69 (by decide) ?_
          refine lv_iadd hx hb dX7_canCarry_70 ?_
          obtain ⟨x121, now122, carried123, hg, hf⟩ := o3_s hf
          refine Ct.callV0 (ws' := wM g m0 m1 m2 m3 m4 m5 m6 m7 m8 m9 m10 m11 m12 now122 kept aside ik found carried123 T S) (As := [.int x1, .int x4, .int (x3 + (1 : Int32))]) (rest := []) (st1 := [.int x121]) (c_X7_canCarry_D1 l g m0 m1 m2 m3 m4 m5 m6 m7 m8 m9 m10 m11 m12 f119 kept aside ik found f120 T S x1 x4 (x3 + (1 : Int32)) hg) (cwV 3 hts gX7_canCarry_X7_canCarry rfl rfl rfl q_X7_canCarry ⟨Nat.le_of_ble_eq_true rfl, Nat.le_of_ble_eq_true rfl⟩) ⟨hx, hb, hml, hown, hts⟩ hE hP hD hS hA 7 0 rfl rfl rfl rfl hl.1 rfl rfl (Nat.le_of_ble_eq_true rfl) dX7_canCarry_71 (fun H locs hP hD hS => ?_)
          refine lv_istore (lv' := [(5, .int x121), (0, .ref m0), (1, .int x1), (3, .int x3), (4, .int x4)]) hx hb dX7_canCarry_74 hl (by decide) rfl (fun ls hl => ?_)
          refine lv_aload_n hx hb dX7_canCarry_76 rfl (lv_at hl 1 rfl) ?_
          refine va_get (D := g.1) (ci := 7) (v := .ref m1) (C := RX7) (T := TX7) (N := 22) hx hb hts i_X7_canCarry_X7 hown hE.1 hP 0 rfl rfl 0 (by decide) w1 (fun _ h9 => h9) rfl dX7_canCarry_77 ?_
          refine lv_iload hx hb dX7_canCarry_80 (lv_at hl 4 rfl) ?_
          refine lv_iconst (v := (2 : Int32)) hx hb dX7_canCarry_82 (by decide) ?_
          obtain ⟨x124, hg, hf⟩ := o1_s hf
          refine Ct.callS (ws' := wM g m0 m1 m2 m3 m4 m5 m6 m7 m8 m9 m10 m11 m12 now122 kept aside ik found carried123 T S) (As := [.int x4, .int (2 : Int32)]) (rest := [.ref m1]) (st1 := [.int x124, .ref m1]) (c_X7_at l g x4 (2 : Int32) hg) (va_cwS 2 hts gX7_canCarry_X7_at rfl rfl rfl q_X7_at.2 ⟨Nat.le_of_ble_eq_true rfl, Nat.le_of_ble_eq_true rfl⟩) ⟨hx, hb, hml, hown, hts⟩ hE hP hD hS hA [] rfl rfl rfl rfl rfl hl.1 rfl rfl (Nat.le_of_ble_eq_true rfl) dX7_canCarry_83 (fun H locs hP hD hS => ?_)
          refine lv_dup2_11 hx hb dX7_canCarry_86 rfl rfl ?_
          obtain ⟨x125, ex, hin, hf⟩ := rd_s hf
          refine st_iald (f := now122) hx hb hE.1 hP 1 0 rfl rfl hin ex dX7_canCarry_87 ?_
          refine lv_iconst (v := (1 : Int32)) hx hb dX7_canCarry_88 (by decide) ?_
          refine lv_isub hx hb dX7_canCarry_89 ?_
          obtain ⟨f126, ef, hin, hf⟩ := wr_s hf
          refine st_iast (ws' := wM g m0 m1 m2 m3 m4 m5 m6 m7 m8 m9 m10 m11 m12 f126 kept aside ik found carried123 T S) (f := now122) (f2 := f126) hx hb hE.1 hP hD hS 1 0 rfl rfl hin ef rfl dX7_canCarry_90 (fun H locs hP hD hS => ?_)
          refine lv_iload hx hb dX7_canCarry_91 (lv_at hl 0 rfl) ?_
          refine lv_if_eq (tgt := 98) hx hb dX7_canCarry_93 (by decide) (fun hc => ?_) (fun hc => ?_)
          · have hf := if_t hf hc
            refine lv_iinc (v := (x4 + (1 : Int32))) (lv' := [(4, .int (x4 + (1 : Int32))), (5, .int x121), (0, .ref m0), (1, .int x1), (3, .int x3)]) hx hb dX7_canCarry_98 hl (k := 4) rfl rfl (by decide) rfl (fun ls hl => ?_)
            refine lv_goto (tgt := 13) hx hb dX7_canCarry_101 (by decide) ?_
            exact ih _ _ _ _ _ _  hf hP hD hS (lv_sub hl [2, 3, 4, 0] rfl) hk
          · have hf := if_f hf hc
            refine lv_iconst (v := (1 : Int32)) hx hb dX7_canCarry_96 (by decide) ?_
            obtain ⟨rfl, rfl, rfl⟩ := some_p3 hf
            rw [hQ]; exact Ct.zret hx hb hr (by decide) hlocks hAe hP hD hS dX7_canCarry_97
  unfold fX7_canCarry_D2 fX7_canCarry_B at hf
  refine lv_iload_n hx hb dX7_canCarry_0 rfl (lv_at hl 1 rfl) ?_
  refine lv_iload_n hx hb dX7_canCarry_1 rfl (lv_at hl 3 rfl) ?_
  refine lv_icmp_ne (tgt := 10) hx hb dX7_canCarry_2 (by decide) (fun hc => ?_) (fun hc => ?_)
  · have hf := if_f hf hc
    refine lv_iload_n hx hb dX7_canCarry_10 rfl (lv_at hl 2 rfl) ?_
    refine lv_istore (lv' := [(4, .int a2), (0, .ref m0), (1, .int a1), (2, .int a2), (3, .int a3)]) hx hb dX7_canCarry_11 hl (by decide) rfl (fun ls hl => ?_)
    refine L13 _ _ _ _ _ _ _ _ _ _  hf hP hD hS (lv_sub hl [1, 2, 4, 0] rfl) (fun now127 carried128 H locs ls hf hP hD hS hl => ?_)
    refine lv_iconst (v := (0 : Int32)) hx hb dX7_canCarry_104 (by decide) ?_
    obtain ⟨rfl, rfl, rfl⟩ := some_p3 hf
    rw [hQ]; exact Ct.zret hx hb hr (by decide) hlocks hAe hP hD hS dX7_canCarry_105
  · have hf := if_t hf hc
    refine lv_aload_n hx hb dX7_canCarry_5 rfl (lv_at hl 0 rfl) ?_
    obtain ⟨x129, hg, hf⟩ := o1_s hf
    refine Ct.callV0 (ws' := wM g m0 m1 m2 m3 m4 m5 m6 m7 m8 m9 m10 m11 m12 now kept aside ik found carried T S) (As := []) (rest := []) (st1 := [.int x129]) (c_X7_isOpen l g m0 m1 m2 m3 m4 m5 m6 m7 m8 m9 m10 m11 m12 now kept aside ik found carried T S hg) (cwV 0 hts gX7_canCarry_X7_isOpen rfl rfl rfl q_X7_isOpen ⟨Nat.le_of_ble_eq_true rfl, Nat.le_of_ble_eq_true rfl⟩) ⟨hx, hb, hml, hown, hts⟩ hE hP hD hS hA 7 0 rfl rfl rfl rfl hl.1 rfl rfl (Nat.le_of_ble_eq_true rfl) dX7_canCarry_6 (fun H locs hP hD hS => ?_)
    obtain ⟨hn, hf⟩ := nb_s hf
    obtain ⟨rfl, rfl, rfl⟩ := some_p3 hf
    rw [hQ]; exact Ct.zret hx hb hr hn hlocks hAe hP hD hS dX7_canCarry_9
def fX7_canCarry_D3 : (Nat → Int32) → (Nat → Int32) → Int32 → Int32 → Int32 → Option (Int32 × (Nat → Int32) × (Nat → Int32)) := fX7_canCarry_B fX7_canCarry_D2
set_option maxHeartbeats 4000000 in
set_option maxRecDepth 100000 in
theorem c_X7_canCarry_D3 (l : Launch) (g : gG) (m0 m1 m2 m3 m4 m5 m6 m7 m8 m9 m10 m11 m12 : Nat) (now : Nat → Int32) (kept : Nat → Int32) (aside : Nat → Int32) (ik : Int32) (found : Nat → Int32) (carried : Nat → Int32) (T : Mt) (S : Ms) (a1 : Int32) (a2 : Int32) (a3 : Int32) {r : Int32} {now' : Nat → Int32} {carried' : Nat → Int32} (hf : fX7_canCarry_D3 now carried a1 a2 a3 = some (r, now', carried')) : Ct l yX7_canCarry wsX7_canCarry (rmm 8 182) g (wM g m0 m1 m2 m3 m4 m5 m6 m7 m8 m9 m10 m11 m12 now kept aside ik found carried T S) (wM g m0 m1 m2 m3 m4 m5 m6 m7 m8 m9 m10 m11 m12 (now') kept aside ik found (carried') T S) [.ref m0, .int a1, .int a2, .int a3] (some (.int r)) := by
  refine Ct.mk (by decide) rfl (Nat.le_of_ble_eq_true rfl) ?_
  intro p e s m args below meth c A ls hx hb hr hml hts hown hlocks hA hE hP hD hS hl hAe
  obtain ⟨Qx, hQ⟩ : ∃ Qx : State → Prop, Qx = MQ below (QcG g (wM g m0 m1 m2 m3 m4 m5 m6 m7 m8 m9 m10 m11 m12 now kept aside ik found carried T S) (wM g m0 m1 m2 m3 m4 m5 m6 m7 m8 m9 m10 m11 m12 (now') kept aside ik found (carried') T S) (some (.int r)) s.heap.size) args s 0 0 A := ⟨_, rfl⟩
  rw [← hQ]
  have hown : s.vm.findClass RX7 = some m.cls := hown
  have hl : lv_has ls 6 [(0, .ref m0), (1, .int a1), (2, .int a2), (3, .int a3)] := hl
  have w1 := hts (.fieldLink RX7 9 "RainVaultModel" "now" "[I") (List.mem_of_getElem? (i := 1) rfl)
  have w2 := hts (.fieldLink RX7 22 "RainVaultModel" "carried" "[I") (List.mem_of_getElem? (i := 2) rfl)
  have L13 : ∀ (x1 : Int32) (x3 : Int32) (kx : (Nat → Int32) → (Nat → Int32) → Option (Int32 × (Nat → Int32) × (Nat → Int32))) (k : Nat) (now : Nat → Int32) (carried : Nat → Int32) (x4 : Int32) (H : Heap) (locs : List Loc) (ls : Array Slot), fX7_canCarry_B_L13 fX7_canCarry_D2 x1 x3 kx k now carried x4 = some (r, now', carried') → va_P g.1 vwK (wM g m0 m1 m2 m3 m4 m5 m6 m7 m8 m9 m10 m11 m12 now kept aside ik found carried T S) H → va_D A (wM g m0 m1 m2 m3 m4 m5 m6 m7 m8 m9 m10 m11 m12 now kept aside ik found carried T S) → va_S A s.heap H locs → lv_has ls 6 [(0, .ref m0), (1, .int x1), (3, .int x3), (4, .int x4)] → (∀ (now : Nat → Int32) (carried : Nat → Int32) (H : Heap) (locs : List Loc) (ls : Array Slot), kx now carried = some (r, now', carried') → va_P g.1 vwK (wM g m0 m1 m2 m3 m4 m5 m6 m7 m8 m9 m10 m11 m12 now kept aside ik found carried T S) H → va_D A (wM g m0 m1 m2 m3 m4 m5 m6 m7 m8 m9 m10 m11 m12 now kept aside ik found carried T S) → va_S A s.heap H locs → lv_has ls 6 [] → W p l e (rmm 8 182) s m args below meth c H locs 0 0 Qx (F0 m 104 ls [])) → W p l e (rmm 8 182) s m args below meth c H locs 0 0 Qx (F0 m 13 ls []) := by
    intro x1 x3 kx k
    induction k with
    | zero => intro now carried x4 H locs ls hf; exact nomatch (show (none : Option (Int32 × (Nat → Int32) × (Nat → Int32))) = some _ from hf)
    | succ k ih =>
      intro now carried x4 H locs ls hf hP hD hS hl hk
      rw [fX7_canCarry_B_L13] at hf
      refine lv_iload hx hb dX7_canCarry_13 (lv_at hl 3 rfl) ?_
      refine lv_aload_n hx hb dX7_canCarry_15 rfl (lv_at hl 0 rfl) ?_
      refine va_get (D := g.1) (ci := 7) (v := .ref m1) (C := RX7) (T := TX7) (N := 22) hx hb hts i_X7_canCarry_X7 hown hE.1 hP 0 rfl rfl 0 (by decide) w1 (fun _ h9 => h9) rfl dX7_canCarry_16 ?_
      refine lv_iconst (v := (2 : Int32)) hx hb dX7_canCarry_19 (by decide) ?_
      obtain ⟨x114, ex, hin, hf⟩ := rd_s hf
      refine st_iald (f := now) hx hb hE.1 hP 1 0 rfl rfl hin ex dX7_canCarry_20 ?_
      refine lv_icmp_ge (tgt := 104) hx hb dX7_canCarry_21 (by decide) (fun hc => ?_) (fun hc => ?_)
      · have hf := if_t hf hc
        exact hk _ _ _ _ _  hf hP hD hS (lv_sub hl [] rfl)
      · have hf := if_f hf hc
        refine lv_aload_n hx hb dX7_canCarry_24 rfl (lv_at hl 0 rfl) ?_
        refine lv_iload hx hb dX7_canCarry_25 (lv_at hl 3 rfl) ?_
        refine lv_iconst (v := (2 : Int32)) hx hb dX7_canCarry_27 (by decide) ?_
        obtain ⟨x115, hg, hf⟩ := o1_s hf
        refine Ct.callV0 (ws' := wM g m0 m1 m2 m3 m4 m5 m6 m7 m8 m9 m10 m11 m12 now kept aside ik found carried T S) (As := [.int x4, .int (2 : Int32)]) (rest := []) (st1 := [.int x115]) (c_X7_cisternIs l g m0 m1 m2 m3 m4 m5 m6 m7 m8 m9 m10 m11 m12 now kept aside ik found carried T S x4 (2 : Int32) hg) (cwV 2 hts gX7_canCarry_X7_cisternIs rfl rfl rfl q_X7_cisternIs ⟨Nat.le_of_ble_eq_true rfl, Nat.le_of_ble_eq_true rfl⟩) ⟨hx, hb, hml, hown, hts⟩ hE hP hD hS hA 7 0 rfl rfl rfl rfl hl.1 rfl rfl (Nat.le_of_ble_eq_true rfl) dX7_canCarry_28 (fun H locs hP hD hS => ?_)
        refine lv_aload_n hx hb dX7_canCarry_31 rfl (lv_at hl 0 rfl) ?_
        refine lv_iload hx hb dX7_canCarry_32 (lv_at hl 3 rfl) ?_
        refine lv_iconst (v := (1 : Int32)) hx hb dX7_canCarry_34 (by decide) ?_
        obtain ⟨x116, hg, hf⟩ := o1_s hf
        refine Ct.callV0 (ws' := wM g m0 m1 m2 m3 m4 m5 m6 m7 m8 m9 m10 m11 m12 now kept aside ik found carried T S) (As := [.int x4, .int (1 : Int32)]) (rest := [.int x115]) (st1 := [.int x116, .int x115]) (c_X7_cisternIs l g m0 m1 m2 m3 m4 m5 m6 m7 m8 m9 m10 m11 m12 now kept aside ik found carried T S x4 (1 : Int32) hg) (cwV 2 hts gX7_canCarry_X7_cisternIs rfl rfl rfl q_X7_cisternIs ⟨Nat.le_of_ble_eq_true rfl, Nat.le_of_ble_eq_true rfl⟩) ⟨hx, hb, hml, hown, hts⟩ hE hP hD hS hA 7 0 rfl rfl rfl rfl hl.1 rfl rfl (Nat.le_of_ble_eq_true rfl) dX7_canCarry_35 (fun H locs hP hD hS => ?_)
        refine lv_icmp_ge (tgt := 98) hx hb dX7_canCarry_38 (by decide) (fun hc => ?_) (fun hc => ?_)
        · have hf := if_t hf hc
          refine lv_iinc (v := (x4 + (1 : Int32))) (lv' := [(4, .int (x4 + (1 : Int32))), (0, .ref m0), (1, .int x1), (3, .int x3)]) hx hb dX7_canCarry_98 hl (k := 3) rfl rfl (by decide) rfl (fun ls hl => ?_)
          refine lv_goto (tgt := 13) hx hb dX7_canCarry_101 (by decide) ?_
          exact ih _ _ _ _ _ _  hf hP hD hS (lv_sub hl [1, 2, 3, 0] rfl) hk
        · have hf := if_f hf hc
          refine lv_aload_n hx hb dX7_canCarry_41 rfl (lv_at hl 0 rfl) ?_
          refine va_get (D := g.1) (ci := 7) (v := .ref m1) (C := RX7) (T := TX7) (N := 22) hx hb hts i_X7_canCarry_X7 hown hE.1 hP 0 rfl rfl 0 (by decide) w1 (fun _ h9 => h9) rfl dX7_canCarry_42 ?_
          refine lv_iload hx hb dX7_canCarry_45 (lv_at hl 3 rfl) ?_
          refine lv_iconst (v := (2 : Int32)) hx hb dX7_canCarry_47 (by decide) ?_
          obtain ⟨x117, hg, hf⟩ := o1_s hf
          refine Ct.callS (ws' := wM g m0 m1 m2 m3 m4 m5 m6 m7 m8 m9 m10 m11 m12 now kept aside ik found carried T S) (As := [.int x4, .int (2 : Int32)]) (rest := [.ref m1]) (st1 := [.int x117, .ref m1]) (c_X7_at l g x4 (2 : Int32) hg) (va_cwS 2 hts gX7_canCarry_X7_at rfl rfl rfl q_X7_at.2 ⟨Nat.le_of_ble_eq_true rfl, Nat.le_of_ble_eq_true rfl⟩) ⟨hx, hb, hml, hown, hts⟩ hE hP hD hS hA [] rfl rfl rfl rfl rfl hl.1 rfl rfl (Nat.le_of_ble_eq_true rfl) dX7_canCarry_48 (fun H locs hP hD hS => ?_)
          refine lv_dup2_11 hx hb dX7_canCarry_51 rfl rfl ?_
          obtain ⟨x118, ex, hin, hf⟩ := rd_s hf
          refine st_iald (f := now) hx hb hE.1 hP 1 0 rfl rfl hin ex dX7_canCarry_52 ?_
          refine lv_iconst (v := (1 : Int32)) hx hb dX7_canCarry_53 (by decide) ?_
          refine lv_iadd hx hb dX7_canCarry_54 ?_
          obtain ⟨f119, ef, hin, hf⟩ := wr_s hf
          refine st_iast (ws' := wM g m0 m1 m2 m3 m4 m5 m6 m7 m8 m9 m10 m11 m12 f119 kept aside ik found carried T S) (f := now) (f2 := f119) hx hb hE.1 hP hD hS 1 0 rfl rfl hin ef rfl dX7_canCarry_55 (fun H locs hP hD hS => ?_)
          refine lv_aload_n hx hb dX7_canCarry_56 rfl (lv_at hl 0 rfl) ?_
          refine va_get (D := g.1) (ci := 7) (v := .ref m5) (C := RX7) (T := TX7) (N := 22) hx hb hts i_X7_canCarry_X7 hown hE.1 hP 0 rfl rfl 5 (by decide) w2 (fun _ h9 => h9) rfl dX7_canCarry_57 ?_
          refine lv_iload_n hx hb dX7_canCarry_60 rfl (lv_at hl 2 rfl) ?_
          refine lv_iload hx hb dX7_canCarry_61 (lv_at hl 3 rfl) ?_
          obtain ⟨f120, ef, hin, hf⟩ := wr_s hf
          refine st_iast (ws' := wM g m0 m1 m2 m3 m4 m5 m6 m7 m8 m9 m10 m11 m12 f119 kept aside ik found f120 T S) (f := carried) (f2 := f120) hx hb hE.1 hP hD hS 5 0 rfl rfl hin ef rfl dX7_canCarry_63 (fun H locs hP hD hS => ?_)
          refine lv_aload_n hx hb dX7_canCarry_64 rfl (lv_at hl 0 rfl) ?_
          refine lv_iload_n hx hb dX7_canCarry_65 rfl (lv_at hl 1 rfl) ?_
          refine lv_iload hx hb dX7_canCarry_66 (lv_at hl 3 rfl) ?_
          refine lv_iload_n hx hb dX7_canCarry_68 rfl (lv_at hl 2 rfl) ?_
          refine lv_iconst (v := (1 : Int32)) hx hb dX7_canCarry_69 (by decide) ?_
          refine lv_iadd hx hb dX7_canCarry_70 ?_
          obtain ⟨x121, now122, carried123, hg, hf⟩ := o3_s hf
          refine Ct.callV0 (ws' := wM g m0 m1 m2 m3 m4 m5 m6 m7 m8 m9 m10 m11 m12 now122 kept aside ik found carried123 T S) (As := [.int x1, .int x4, .int (x3 + (1 : Int32))]) (rest := []) (st1 := [.int x121]) (c_X7_canCarry_D2 l g m0 m1 m2 m3 m4 m5 m6 m7 m8 m9 m10 m11 m12 f119 kept aside ik found f120 T S x1 x4 (x3 + (1 : Int32)) hg) (cwV 3 hts gX7_canCarry_X7_canCarry rfl rfl rfl q_X7_canCarry ⟨Nat.le_of_ble_eq_true rfl, Nat.le_of_ble_eq_true rfl⟩) ⟨hx, hb, hml, hown, hts⟩ hE hP hD hS hA 7 0 rfl rfl rfl rfl hl.1 rfl rfl (Nat.le_of_ble_eq_true rfl) dX7_canCarry_71 (fun H locs hP hD hS => ?_)
          refine lv_istore (lv' := [(5, .int x121), (0, .ref m0), (1, .int x1), (3, .int x3), (4, .int x4)]) hx hb dX7_canCarry_74 hl (by decide) rfl (fun ls hl => ?_)
          refine lv_aload_n hx hb dX7_canCarry_76 rfl (lv_at hl 1 rfl) ?_
          refine va_get (D := g.1) (ci := 7) (v := .ref m1) (C := RX7) (T := TX7) (N := 22) hx hb hts i_X7_canCarry_X7 hown hE.1 hP 0 rfl rfl 0 (by decide) w1 (fun _ h9 => h9) rfl dX7_canCarry_77 ?_
          refine lv_iload hx hb dX7_canCarry_80 (lv_at hl 4 rfl) ?_
          refine lv_iconst (v := (2 : Int32)) hx hb dX7_canCarry_82 (by decide) ?_
          obtain ⟨x124, hg, hf⟩ := o1_s hf
          refine Ct.callS (ws' := wM g m0 m1 m2 m3 m4 m5 m6 m7 m8 m9 m10 m11 m12 now122 kept aside ik found carried123 T S) (As := [.int x4, .int (2 : Int32)]) (rest := [.ref m1]) (st1 := [.int x124, .ref m1]) (c_X7_at l g x4 (2 : Int32) hg) (va_cwS 2 hts gX7_canCarry_X7_at rfl rfl rfl q_X7_at.2 ⟨Nat.le_of_ble_eq_true rfl, Nat.le_of_ble_eq_true rfl⟩) ⟨hx, hb, hml, hown, hts⟩ hE hP hD hS hA [] rfl rfl rfl rfl rfl hl.1 rfl rfl (Nat.le_of_ble_eq_true rfl) dX7_canCarry_83 (fun H locs hP hD hS => ?_)
          refine lv_dup2_11 hx hb dX7_canCarry_86 rfl rfl ?_
          obtain ⟨x125, ex, hin, hf⟩ := rd_s hf
          refine st_iald (f := now122) hx hb hE.1 hP 1 0 rfl rfl hin ex dX7_canCarry_87 ?_
          refine lv_iconst (v := (1 : Int32)) hx hb dX7_canCarry_88 (by decide) ?_
          refine lv_isub hx hb dX7_canCarry_89 ?_
          obtain ⟨f126, ef, hin, hf⟩ := wr_s hf
          refine st_iast (ws' := wM g m0 m1 m2 m3 m4 m5 m6 m7 m8 m9 m10 m11 m12 f126 kept aside ik found carried123 T S) (f := now122) (f2 := f126) hx hb hE.1 hP hD hS 1 0 rfl rfl hin ef rfl dX7_canCarry_90 (fun H locs hP hD hS => ?_)
          refine lv_iload hx hb dX7_canCarry_91 (lv_at hl 0 rfl) ?_
          refine lv_if_eq (tgt := 98) hx hb dX7_canCarry_93 (by decide) (fun hc => ?_) (fun hc => ?_)
          · have hf := if_t hf hc
            refine lv_iinc (v := (x4 + (1 : Int32))) (lv' := [(4, .int (x4 + (1 : Int32))), (5, .int x121), (0, .ref m0), (1, .int x1), (3, .int x3)]) hx hb dX7_canCarry_98 hl (k := 4) rfl rfl (by decide) rfl (fun ls hl => ?_)
            refine lv_goto (tgt := 13) hx hb dX7_canCarry_101 (by decide) ?_
            exact ih _ _ _ _ _ _  hf hP hD hS (lv_sub hl [2, 3, 4, 0] rfl) hk
          · have hf := if_f hf hc
            refine lv_iconst (v := (1 : Int32)) hx hb dX7_canCarry_96 (by decide) ?_
            obtain ⟨rfl, rfl, rfl⟩ := some_p3 hf
            rw [hQ]; exact Ct.zret hx hb hr (by decide) hlocks hAe hP hD hS dX7_canCarry_97
  unfold fX7_canCarry_D3 fX7_canCarry_B at hf
  refine lv_iload_n hx hb dX7_canCarry_0 rfl (lv_at hl 1 rfl) ?_
  refine lv_iload_n hx hb dX7_canCarry_1 rfl (lv_at hl 3 rfl) ?_
  refine lv_icmp_ne (tgt := 10) hx hb dX7_canCarry_2 (by decide) (fun hc => ?_) (fun hc => ?_)
  · have hf := if_f hf hc
    refine lv_iload_n hx hb dX7_canCarry_10 rfl (lv_at hl 2 rfl) ?_
    refine lv_istore (lv' := [(4, .int a2), (0, .ref m0), (1, .int a1), (2, .int a2), (3, .int a3)]) hx hb dX7_canCarry_11 hl (by decide) rfl (fun ls hl => ?_)
    refine L13 _ _ _ _ _ _ _ _ _ _  hf hP hD hS (lv_sub hl [1, 2, 4, 0] rfl) (fun now127 carried128 H locs ls hf hP hD hS hl => ?_)
    refine lv_iconst (v := (0 : Int32)) hx hb dX7_canCarry_104 (by decide) ?_
    obtain ⟨rfl, rfl, rfl⟩ := some_p3 hf
    rw [hQ]; exact Ct.zret hx hb hr (by decide) hlocks hAe hP hD hS dX7_canCarry_105
  · have hf := if_t hf hc
    refine lv_aload_n hx hb dX7_canCarry_5 rfl (lv_at hl 0 rfl) ?_
    obtain ⟨x129, hg, hf⟩ := o1_s hf
    refine Ct.callV0 (ws' := wM g m0 m1 m2 m3 m4 m5 m6 m7 m8 m9 m10 m11 m12 now kept aside ik found carried T S) (As := []) (rest := []) (st1 := [.int x129]) (c_X7_isOpen l g m0 m1 m2 m3 m4 m5 m6 m7 m8 m9 m10 m11 m12 now kept aside ik found carried T S hg) (cwV 0 hts gX7_canCarry_X7_isOpen rfl rfl rfl q_X7_isOpen ⟨Nat.le_of_ble_eq_true rfl, Nat.le_of_ble_eq_true rfl⟩) ⟨hx, hb, hml, hown, hts⟩ hE hP hD hS hA 7 0 rfl rfl rfl rfl hl.1 rfl rfl (Nat.le_of_ble_eq_true rfl) dX7_canCarry_6 (fun H locs hP hD hS => ?_)
    obtain ⟨hn, hf⟩ := nb_s hf
    obtain ⟨rfl, rfl, rfl⟩ := some_p3 hf
    rw [hQ]; exact Ct.zret hx hb hr hn hlocks hAe hP hD hS dX7_canCarry_9
def fX7_canCarry_D4 : (Nat → Int32) → (Nat → Int32) → Int32 → Int32 → Int32 → Option (Int32 × (Nat → Int32) × (Nat → Int32)) := fX7_canCarry_B fX7_canCarry_D3
set_option maxHeartbeats 4000000 in
set_option maxRecDepth 100000 in
theorem c_X7_canCarry_D4 (l : Launch) (g : gG) (m0 m1 m2 m3 m4 m5 m6 m7 m8 m9 m10 m11 m12 : Nat) (now : Nat → Int32) (kept : Nat → Int32) (aside : Nat → Int32) (ik : Int32) (found : Nat → Int32) (carried : Nat → Int32) (T : Mt) (S : Ms) (a1 : Int32) (a2 : Int32) (a3 : Int32) {r : Int32} {now' : Nat → Int32} {carried' : Nat → Int32} (hf : fX7_canCarry_D4 now carried a1 a2 a3 = some (r, now', carried')) : Ct l yX7_canCarry wsX7_canCarry (rmm 9 207) g (wM g m0 m1 m2 m3 m4 m5 m6 m7 m8 m9 m10 m11 m12 now kept aside ik found carried T S) (wM g m0 m1 m2 m3 m4 m5 m6 m7 m8 m9 m10 m11 m12 (now') kept aside ik found (carried') T S) [.ref m0, .int a1, .int a2, .int a3] (some (.int r)) := by
  refine Ct.mk (by decide) rfl (Nat.le_of_ble_eq_true rfl) ?_
  intro p e s m args below meth c A ls hx hb hr hml hts hown hlocks hA hE hP hD hS hl hAe
  obtain ⟨Qx, hQ⟩ : ∃ Qx : State → Prop, Qx = MQ below (QcG g (wM g m0 m1 m2 m3 m4 m5 m6 m7 m8 m9 m10 m11 m12 now kept aside ik found carried T S) (wM g m0 m1 m2 m3 m4 m5 m6 m7 m8 m9 m10 m11 m12 (now') kept aside ik found (carried') T S) (some (.int r)) s.heap.size) args s 0 0 A := ⟨_, rfl⟩
  rw [← hQ]
  have hown : s.vm.findClass RX7 = some m.cls := hown
  have hl : lv_has ls 6 [(0, .ref m0), (1, .int a1), (2, .int a2), (3, .int a3)] := hl
  have w1 := hts (.fieldLink RX7 9 "RainVaultModel" "now" "[I") (List.mem_of_getElem? (i := 1) rfl)
  have w2 := hts (.fieldLink RX7 22 "RainVaultModel" "carried" "[I") (List.mem_of_getElem? (i := 2) rfl)
  have L13 : ∀ (x1 : Int32) (x3 : Int32) (kx : (Nat → Int32) → (Nat → Int32) → Option (Int32 × (Nat → Int32) × (Nat → Int32))) (k : Nat) (now : Nat → Int32) (carried : Nat → Int32) (x4 : Int32) (H : Heap) (locs : List Loc) (ls : Array Slot), fX7_canCarry_B_L13 fX7_canCarry_D3 x1 x3 kx k now carried x4 = some (r, now', carried') → va_P g.1 vwK (wM g m0 m1 m2 m3 m4 m5 m6 m7 m8 m9 m10 m11 m12 now kept aside ik found carried T S) H → va_D A (wM g m0 m1 m2 m3 m4 m5 m6 m7 m8 m9 m10 m11 m12 now kept aside ik found carried T S) → va_S A s.heap H locs → lv_has ls 6 [(0, .ref m0), (1, .int x1), (3, .int x3), (4, .int x4)] → (∀ (now : Nat → Int32) (carried : Nat → Int32) (H : Heap) (locs : List Loc) (ls : Array Slot), kx now carried = some (r, now', carried') → va_P g.1 vwK (wM g m0 m1 m2 m3 m4 m5 m6 m7 m8 m9 m10 m11 m12 now kept aside ik found carried T S) H → va_D A (wM g m0 m1 m2 m3 m4 m5 m6 m7 m8 m9 m10 m11 m12 now kept aside ik found carried T S) → va_S A s.heap H locs → lv_has ls 6 [] → W p l e (rmm 9 207) s m args below meth c H locs 0 0 Qx (F0 m 104 ls [])) → W p l e (rmm 9 207) s m args below meth c H locs 0 0 Qx (F0 m 13 ls []) := by
    intro x1 x3 kx k
    induction k with
    | zero => intro now carried x4 H locs ls hf; exact nomatch (show (none : Option (Int32 × (Nat → Int32) × (Nat → Int32))) = some _ from hf)
    | succ k ih =>
      intro now carried x4 H locs ls hf hP hD hS hl hk
      rw [fX7_canCarry_B_L13] at hf
      refine lv_iload hx hb dX7_canCarry_13 (lv_at hl 3 rfl) ?_
      refine lv_aload_n hx hb dX7_canCarry_15 rfl (lv_at hl 0 rfl) ?_
      refine va_get (D := g.1) (ci := 7) (v := .ref m1) (C := RX7) (T := TX7) (N := 22) hx hb hts i_X7_canCarry_X7 hown hE.1 hP 0 rfl rfl 0 (by decide) w1 (fun _ h9 => h9) rfl dX7_canCarry_16 ?_
      refine lv_iconst (v := (2 : Int32)) hx hb dX7_canCarry_19 (by decide) ?_
      obtain ⟨x114, ex, hin, hf⟩ := rd_s hf
      refine st_iald (f := now) hx hb hE.1 hP 1 0 rfl rfl hin ex dX7_canCarry_20 ?_
      refine lv_icmp_ge (tgt := 104) hx hb dX7_canCarry_21 (by decide) (fun hc => ?_) (fun hc => ?_)
      · have hf := if_t hf hc
        exact hk _ _ _ _ _  hf hP hD hS (lv_sub hl [] rfl)
      · have hf := if_f hf hc
        refine lv_aload_n hx hb dX7_canCarry_24 rfl (lv_at hl 0 rfl) ?_
        refine lv_iload hx hb dX7_canCarry_25 (lv_at hl 3 rfl) ?_
        refine lv_iconst (v := (2 : Int32)) hx hb dX7_canCarry_27 (by decide) ?_
        obtain ⟨x115, hg, hf⟩ := o1_s hf
        refine Ct.callV0 (ws' := wM g m0 m1 m2 m3 m4 m5 m6 m7 m8 m9 m10 m11 m12 now kept aside ik found carried T S) (As := [.int x4, .int (2 : Int32)]) (rest := []) (st1 := [.int x115]) (c_X7_cisternIs l g m0 m1 m2 m3 m4 m5 m6 m7 m8 m9 m10 m11 m12 now kept aside ik found carried T S x4 (2 : Int32) hg) (cwV 2 hts gX7_canCarry_X7_cisternIs rfl rfl rfl q_X7_cisternIs ⟨Nat.le_of_ble_eq_true rfl, Nat.le_of_ble_eq_true rfl⟩) ⟨hx, hb, hml, hown, hts⟩ hE hP hD hS hA 7 0 rfl rfl rfl rfl hl.1 rfl rfl (Nat.le_of_ble_eq_true rfl) dX7_canCarry_28 (fun H locs hP hD hS => ?_)
        refine lv_aload_n hx hb dX7_canCarry_31 rfl (lv_at hl 0 rfl) ?_
        refine lv_iload hx hb dX7_canCarry_32 (lv_at hl 3 rfl) ?_
        refine lv_iconst (v := (1 : Int32)) hx hb dX7_canCarry_34 (by decide) ?_
        obtain ⟨x116, hg, hf⟩ := o1_s hf
        refine Ct.callV0 (ws' := wM g m0 m1 m2 m3 m4 m5 m6 m7 m8 m9 m10 m11 m12 now kept aside ik found carried T S) (As := [.int x4, .int (1 : Int32)]) (rest := [.int x115]) (st1 := [.int x116, .int x115]) (c_X7_cisternIs l g m0 m1 m2 m3 m4 m5 m6 m7 m8 m9 m10 m11 m12 now kept aside ik found carried T S x4 (1 : Int32) hg) (cwV 2 hts gX7_canCarry_X7_cisternIs rfl rfl rfl q_X7_cisternIs ⟨Nat.le_of_ble_eq_true rfl, Nat.le_of_ble_eq_true rfl⟩) ⟨hx, hb, hml, hown, hts⟩ hE hP hD hS hA 7 0 rfl rfl rfl rfl hl.1 rfl rfl (Nat.le_of_ble_eq_true rfl) dX7_canCarry_35 (fun H locs hP hD hS => ?_)
        refine lv_icmp_ge (tgt := 98) hx hb dX7_canCarry_38 (by decide) (fun hc => ?_) (fun hc => ?_)
        · have hf := if_t hf hc
          refine lv_iinc (v := (x4 + (1 : Int32))) (lv' := [(4, .int (x4 + (1 : Int32))), (0, .ref m0), (1, .int x1), (3, .int x3)]) hx hb dX7_canCarry_98 hl (k := 3) rfl rfl (by decide) rfl (fun ls hl => ?_)
          refine lv_goto (tgt := 13) hx hb dX7_canCarry_101 (by decide) ?_
          exact ih _ _ _ _ _ _  hf hP hD hS (lv_sub hl [1, 2, 3, 0] rfl) hk
        · have hf := if_f hf hc
          refine lv_aload_n hx hb dX7_canCarry_41 rfl (lv_at hl 0 rfl) ?_
          refine va_get (D := g.1) (ci := 7) (v := .ref m1) (C := RX7) (T := TX7) (N := 22) hx hb hts i_X7_canCarry_X7 hown hE.1 hP 0 rfl rfl 0 (by decide) w1 (fun _ h9 => h9) rfl dX7_canCarry_42 ?_
          refine lv_iload hx hb dX7_canCarry_45 (lv_at hl 3 rfl) ?_
          refine lv_iconst (v := (2 : Int32)) hx hb dX7_canCarry_47 (by decide) ?_
          obtain ⟨x117, hg, hf⟩ := o1_s hf
          refine Ct.callS (ws' := wM g m0 m1 m2 m3 m4 m5 m6 m7 m8 m9 m10 m11 m12 now kept aside ik found carried T S) (As := [.int x4, .int (2 : Int32)]) (rest := [.ref m1]) (st1 := [.int x117, .ref m1]) (c_X7_at l g x4 (2 : Int32) hg) (va_cwS 2 hts gX7_canCarry_X7_at rfl rfl rfl q_X7_at.2 ⟨Nat.le_of_ble_eq_true rfl, Nat.le_of_ble_eq_true rfl⟩) ⟨hx, hb, hml, hown, hts⟩ hE hP hD hS hA [] rfl rfl rfl rfl rfl hl.1 rfl rfl (Nat.le_of_ble_eq_true rfl) dX7_canCarry_48 (fun H locs hP hD hS => ?_)
          refine lv_dup2_11 hx hb dX7_canCarry_51 rfl rfl ?_
          obtain ⟨x118, ex, hin, hf⟩ := rd_s hf
          refine st_iald (f := now) hx hb hE.1 hP 1 0 rfl rfl hin ex dX7_canCarry_52 ?_
          refine lv_iconst (v := (1 : Int32)) hx hb dX7_canCarry_53 (by decide) ?_
          refine lv_iadd hx hb dX7_canCarry_54 ?_
          obtain ⟨f119, ef, hin, hf⟩ := wr_s hf
          refine st_iast (ws' := wM g m0 m1 m2 m3 m4 m5 m6 m7 m8 m9 m10 m11 m12 f119 kept aside ik found carried T S) (f := now) (f2 := f119) hx hb hE.1 hP hD hS 1 0 rfl rfl hin ef rfl dX7_canCarry_55 (fun H locs hP hD hS => ?_)
          refine lv_aload_n hx hb dX7_canCarry_56 rfl (lv_at hl 0 rfl) ?_
          refine va_get (D := g.1) (ci := 7) (v := .ref m5) (C := RX7) (T := TX7) (N := 22) hx hb hts i_X7_canCarry_X7 hown hE.1 hP 0 rfl rfl 5 (by decide) w2 (fun _ h9 => h9) rfl dX7_canCarry_57 ?_
          refine lv_iload_n hx hb dX7_canCarry_60 rfl (lv_at hl 2 rfl) ?_
          refine lv_iload hx hb dX7_canCarry_61 (lv_at hl 3 rfl) ?_
          obtain ⟨f120, ef, hin, hf⟩ := wr_s hf
          refine st_iast (ws' := wM g m0 m1 m2 m3 m4 m5 m6 m7 m8 m9 m10 m11 m12 f119 kept aside ik found f120 T S) (f := carried) (f2 := f120) hx hb hE.1 hP hD hS 5 0 rfl rfl hin ef rfl dX7_canCarry_63 (fun H locs hP hD hS => ?_)
          refine lv_aload_n hx hb dX7_canCarry_64 rfl (lv_at hl 0 rfl) ?_
          refine lv_iload_n hx hb dX7_canCarry_65 rfl (lv_at hl 1 rfl) ?_
          refine lv_iload hx hb dX7_canCarry_66 (lv_at hl 3 rfl) ?_
          refine lv_iload_n hx hb dX7_canCarry_68 rfl (lv_at hl 2 rfl) ?_
          refine lv_iconst (v := (1 : Int32)) hx hb dX7_canCarry_69 (by decide) ?_
          refine lv_iadd hx hb dX7_canCarry_70 ?_
          obtain ⟨x121, now122, carried123, hg, hf⟩ := o3_s hf
          refine Ct.callV0 (ws' := wM g m0 m1 m2 m3 m4 m5 m6 m7 m8 m9 m10 m11 m12 now122 kept aside ik found carried123 T S) (As := [.int x1, .int x4, .int (x3 + (1 : Int32))]) (rest := []) (st1 := [.int x121]) (c_X7_canCarry_D3 l g m0 m1 m2 m3 m4 m5 m6 m7 m8 m9 m10 m11 m12 f119 kept aside ik found f120 T S x1 x4 (x3 + (1 : Int32)) hg) (cwV 3 hts gX7_canCarry_X7_canCarry rfl rfl rfl q_X7_canCarry ⟨Nat.le_of_ble_eq_true rfl, Nat.le_of_ble_eq_true rfl⟩) ⟨hx, hb, hml, hown, hts⟩ hE hP hD hS hA 7 0 rfl rfl rfl rfl hl.1 rfl rfl (Nat.le_of_ble_eq_true rfl) dX7_canCarry_71 (fun H locs hP hD hS => ?_)
          refine lv_istore (lv' := [(5, .int x121), (0, .ref m0), (1, .int x1), (3, .int x3), (4, .int x4)]) hx hb dX7_canCarry_74 hl (by decide) rfl (fun ls hl => ?_)
          refine lv_aload_n hx hb dX7_canCarry_76 rfl (lv_at hl 1 rfl) ?_
          refine va_get (D := g.1) (ci := 7) (v := .ref m1) (C := RX7) (T := TX7) (N := 22) hx hb hts i_X7_canCarry_X7 hown hE.1 hP 0 rfl rfl 0 (by decide) w1 (fun _ h9 => h9) rfl dX7_canCarry_77 ?_
          refine lv_iload hx hb dX7_canCarry_80 (lv_at hl 4 rfl) ?_
          refine lv_iconst (v := (2 : Int32)) hx hb dX7_canCarry_82 (by decide) ?_
          obtain ⟨x124, hg, hf⟩ := o1_s hf
          refine Ct.callS (ws' := wM g m0 m1 m2 m3 m4 m5 m6 m7 m8 m9 m10 m11 m12 now122 kept aside ik found carried123 T S) (As := [.int x4, .int (2 : Int32)]) (rest := [.ref m1]) (st1 := [.int x124, .ref m1]) (c_X7_at l g x4 (2 : Int32) hg) (va_cwS 2 hts gX7_canCarry_X7_at rfl rfl rfl q_X7_at.2 ⟨Nat.le_of_ble_eq_true rfl, Nat.le_of_ble_eq_true rfl⟩) ⟨hx, hb, hml, hown, hts⟩ hE hP hD hS hA [] rfl rfl rfl rfl rfl hl.1 rfl rfl (Nat.le_of_ble_eq_true rfl) dX7_canCarry_83 (fun H locs hP hD hS => ?_)
          refine lv_dup2_11 hx hb dX7_canCarry_86 rfl rfl ?_
          obtain ⟨x125, ex, hin, hf⟩ := rd_s hf
          refine st_iald (f := now122) hx hb hE.1 hP 1 0 rfl rfl hin ex dX7_canCarry_87 ?_
          refine lv_iconst (v := (1 : Int32)) hx hb dX7_canCarry_88 (by decide) ?_
          refine lv_isub hx hb dX7_canCarry_89 ?_
          obtain ⟨f126, ef, hin, hf⟩ := wr_s hf
          refine st_iast (ws' := wM g m0 m1 m2 m3 m4 m5 m6 m7 m8 m9 m10 m11 m12 f126 kept aside ik found carried123 T S) (f := now122) (f2 := f126) hx hb hE.1 hP hD hS 1 0 rfl rfl hin ef rfl dX7_canCarry_90 (fun H locs hP hD hS => ?_)
          refine lv_iload hx hb dX7_canCarry_91 (lv_at hl 0 rfl) ?_
          refine lv_if_eq (tgt := 98) hx hb dX7_canCarry_93 (by decide) (fun hc => ?_) (fun hc => ?_)
          · have hf := if_t hf hc
            refine lv_iinc (v := (x4 + (1 : Int32))) (lv' := [(4, .int (x4 + (1 : Int32))), (5, .int x121), (0, .ref m0), (1, .int x1), (3, .int x3)]) hx hb dX7_canCarry_98 hl (k := 4) rfl rfl (by decide) rfl (fun ls hl => ?_)
            refine lv_goto (tgt := 13) hx hb dX7_canCarry_101 (by decide) ?_
            exact ih _ _ _ _ _ _  hf hP hD hS (lv_sub hl [2, 3, 4, 0] rfl) hk
          · have hf := if_f hf hc
            refine lv_iconst (v := (1 : Int32)) hx hb dX7_canCarry_96 (by decide) ?_
            obtain ⟨rfl, rfl, rfl⟩ := some_p3 hf
            rw [hQ]; exact Ct.zret hx hb hr (by decide) hlocks hAe hP hD hS dX7_canCarry_97
  unfold fX7_canCarry_D4 fX7_canCarry_B at hf
  refine lv_iload_n hx hb dX7_canCarry_0 rfl (lv_at hl 1 rfl) ?_
  refine lv_iload_n hx hb dX7_canCarry_1 rfl (lv_at hl 3 rfl) ?_
  refine lv_icmp_ne (tgt := 10) hx hb dX7_canCarry_2 (by decide) (fun hc => ?_) (fun hc => ?_)
  · have hf := if_f hf hc
    refine lv_iload_n hx hb dX7_canCarry_10 rfl (lv_at hl 2 rfl) ?_
    refine lv_istore (lv' := [(4, .int a2), (0, .ref m0), (1, .int a1), (2, .int a2), (3, .int a3)]) hx hb dX7_canCarry_11 hl (by decide) rfl (fun ls hl => ?_)
    refine L13 _ _ _ _ _ _ _ _ _ _  hf hP hD hS (lv_sub hl [1, 2, 4, 0] rfl) (fun now127 carried128 H locs ls hf hP hD hS hl => ?_)
    refine lv_iconst (v := (0 : Int32)) hx hb dX7_canCarry_104 (by decide) ?_
    obtain ⟨rfl, rfl, rfl⟩ := some_p3 hf
    rw [hQ]; exact Ct.zret hx hb hr (by decide) hlocks hAe hP hD hS dX7_canCarry_105
  · have hf := if_t hf hc
    refine lv_aload_n hx hb dX7_canCarry_5 rfl (lv_at hl 0 rfl) ?_
    obtain ⟨x129, hg, hf⟩ := o1_s hf
    refine Ct.callV0 (ws' := wM g m0 m1 m2 m3 m4 m5 m6 m7 m8 m9 m10 m11 m12 now kept aside ik found carried T S) (As := []) (rest := []) (st1 := [.int x129]) (c_X7_isOpen l g m0 m1 m2 m3 m4 m5 m6 m7 m8 m9 m10 m11 m12 now kept aside ik found carried T S hg) (cwV 0 hts gX7_canCarry_X7_isOpen rfl rfl rfl q_X7_isOpen ⟨Nat.le_of_ble_eq_true rfl, Nat.le_of_ble_eq_true rfl⟩) ⟨hx, hb, hml, hown, hts⟩ hE hP hD hS hA 7 0 rfl rfl rfl rfl hl.1 rfl rfl (Nat.le_of_ble_eq_true rfl) dX7_canCarry_6 (fun H locs hP hD hS => ?_)
    obtain ⟨hn, hf⟩ := nb_s hf
    obtain ⟨rfl, rfl, rfl⟩ := some_p3 hf
    rw [hQ]; exact Ct.zret hx hb hr hn hlocks hAe hP hD hS dX7_canCarry_9
def fX7_canCarry_D5 : (Nat → Int32) → (Nat → Int32) → Int32 → Int32 → Int32 → Option (Int32 × (Nat → Int32) × (Nat → Int32)) := fX7_canCarry_B fX7_canCarry_D4
set_option maxHeartbeats 4000000 in
set_option maxRecDepth 100000 in
theorem c_X7_canCarry_D5 (l : Launch) (g : gG) (m0 m1 m2 m3 m4 m5 m6 m7 m8 m9 m10 m11 m12 : Nat) (now : Nat → Int32) (kept : Nat → Int32) (aside : Nat → Int32) (ik : Int32) (found : Nat → Int32) (carried : Nat → Int32) (T : Mt) (S : Ms) (a1 : Int32) (a2 : Int32) (a3 : Int32) {r : Int32} {now' : Nat → Int32} {carried' : Nat → Int32} (hf : fX7_canCarry_D5 now carried a1 a2 a3 = some (r, now', carried')) : Ct l yX7_canCarry wsX7_canCarry (rmm 10 232) g (wM g m0 m1 m2 m3 m4 m5 m6 m7 m8 m9 m10 m11 m12 now kept aside ik found carried T S) (wM g m0 m1 m2 m3 m4 m5 m6 m7 m8 m9 m10 m11 m12 (now') kept aside ik found (carried') T S) [.ref m0, .int a1, .int a2, .int a3] (some (.int r)) := by
  refine Ct.mk (by decide) rfl (Nat.le_of_ble_eq_true rfl) ?_
  intro p e s m args below meth c A ls hx hb hr hml hts hown hlocks hA hE hP hD hS hl hAe
  obtain ⟨Qx, hQ⟩ : ∃ Qx : State → Prop, Qx = MQ below (QcG g (wM g m0 m1 m2 m3 m4 m5 m6 m7 m8 m9 m10 m11 m12 now kept aside ik found carried T S) (wM g m0 m1 m2 m3 m4 m5 m6 m7 m8 m9 m10 m11 m12 (now') kept aside ik found (carried') T S) (some (.int r)) s.heap.size) args s 0 0 A := ⟨_, rfl⟩
  rw [← hQ]
  have hown : s.vm.findClass RX7 = some m.cls := hown
  have hl : lv_has ls 6 [(0, .ref m0), (1, .int a1), (2, .int a2), (3, .int a3)] := hl
  have w1 := hts (.fieldLink RX7 9 "RainVaultModel" "now" "[I") (List.mem_of_getElem? (i := 1) rfl)
  have w2 := hts (.fieldLink RX7 22 "RainVaultModel" "carried" "[I") (List.mem_of_getElem? (i := 2) rfl)
  have L13 : ∀ (x1 : Int32) (x3 : Int32) (kx : (Nat → Int32) → (Nat → Int32) → Option (Int32 × (Nat → Int32) × (Nat → Int32))) (k : Nat) (now : Nat → Int32) (carried : Nat → Int32) (x4 : Int32) (H : Heap) (locs : List Loc) (ls : Array Slot), fX7_canCarry_B_L13 fX7_canCarry_D4 x1 x3 kx k now carried x4 = some (r, now', carried') → va_P g.1 vwK (wM g m0 m1 m2 m3 m4 m5 m6 m7 m8 m9 m10 m11 m12 now kept aside ik found carried T S) H → va_D A (wM g m0 m1 m2 m3 m4 m5 m6 m7 m8 m9 m10 m11 m12 now kept aside ik found carried T S) → va_S A s.heap H locs → lv_has ls 6 [(0, .ref m0), (1, .int x1), (3, .int x3), (4, .int x4)] → (∀ (now : Nat → Int32) (carried : Nat → Int32) (H : Heap) (locs : List Loc) (ls : Array Slot), kx now carried = some (r, now', carried') → va_P g.1 vwK (wM g m0 m1 m2 m3 m4 m5 m6 m7 m8 m9 m10 m11 m12 now kept aside ik found carried T S) H → va_D A (wM g m0 m1 m2 m3 m4 m5 m6 m7 m8 m9 m10 m11 m12 now kept aside ik found carried T S) → va_S A s.heap H locs → lv_has ls 6 [] → W p l e (rmm 10 232) s m args below meth c H locs 0 0 Qx (F0 m 104 ls [])) → W p l e (rmm 10 232) s m args below meth c H locs 0 0 Qx (F0 m 13 ls []) := by
    intro x1 x3 kx k
    induction k with
    | zero => intro now carried x4 H locs ls hf; exact nomatch (show (none : Option (Int32 × (Nat → Int32) × (Nat → Int32))) = some _ from hf)
    | succ k ih =>
      intro now carried x4 H locs ls hf hP hD hS hl hk
      rw [fX7_canCarry_B_L13] at hf
      refine lv_iload hx hb dX7_canCarry_13 (lv_at hl 3 rfl) ?_
      refine lv_aload_n hx hb dX7_canCarry_15 rfl (lv_at hl 0 rfl) ?_
      refine va_get (D := g.1) (ci := 7) (v := .ref m1) (C := RX7) (T := TX7) (N := 22) hx hb hts i_X7_canCarry_X7 hown hE.1 hP 0 rfl rfl 0 (by decide) w1 (fun _ h9 => h9) rfl dX7_canCarry_16 ?_
      refine lv_iconst (v := (2 : Int32)) hx hb dX7_canCarry_19 (by decide) ?_
      obtain ⟨x114, ex, hin, hf⟩ := rd_s hf
      refine st_iald (f := now) hx hb hE.1 hP 1 0 rfl rfl hin ex dX7_canCarry_20 ?_
      refine lv_icmp_ge (tgt := 104) hx hb dX7_canCarry_21 (by decide) (fun hc => ?_) (fun hc => ?_)
      · have hf := if_t hf hc
        exact hk _ _ _ _ _  hf hP hD hS (lv_sub hl [] rfl)
      · have hf := if_f hf hc
        refine lv_aload_n hx hb dX7_canCarry_24 rfl (lv_at hl 0 rfl) ?_
        refine lv_iload hx hb dX7_canCarry_25 (lv_at hl 3 rfl) ?_
        refine lv_iconst (v := (2 : Int32)) hx hb dX7_canCarry_27 (by decide) ?_
        obtain ⟨x115, hg, hf⟩ := o1_s hf
        refine Ct.callV0 (ws' := wM g m0 m1 m2 m3 m4 m5 m6 m7 m8 m9 m10 m11 m12 now kept aside ik found carried T S) (As := [.int x4, .int (2 : Int32)]) (rest := []) (st1 := [.int x115]) (c_X7_cisternIs l g m0 m1 m2 m3 m4 m5 m6 m7 m8 m9 m10 m11 m12 now kept aside ik found carried T S x4 (2 : Int32) hg) (cwV 2 hts gX7_canCarry_X7_cisternIs rfl rfl rfl q_X7_cisternIs ⟨Nat.le_of_ble_eq_true rfl, Nat.le_of_ble_eq_true rfl⟩) ⟨hx, hb, hml, hown, hts⟩ hE hP hD hS hA 7 0 rfl rfl rfl rfl hl.1 rfl rfl (Nat.le_of_ble_eq_true rfl) dX7_canCarry_28 (fun H locs hP hD hS => ?_)
        refine lv_aload_n hx hb dX7_canCarry_31 rfl (lv_at hl 0 rfl) ?_
        refine lv_iload hx hb dX7_canCarry_32 (lv_at hl 3 rfl) ?_
        refine lv_iconst (v := (1 : Int32)) hx hb dX7_canCarry_34 (by decide) ?_
        obtain ⟨x116, hg, hf⟩ := o1_s hf
        refine Ct.callV0 (ws' := wM g m0 m1 m2 m3 m4 m5 m6 m7 m8 m9 m10 m11 m12 now kept aside ik found carried T S) (As := [.int x4, .int (1 : Int32)]) (rest := [.int x115]) (st1 := [.int x116, .int x115]) (c_X7_cisternIs l g m0 m1 m2 m3 m4 m5 m6 m7 m8 m9 m10 m11 m12 now kept aside ik found carried T S x4 (1 : Int32) hg) (cwV 2 hts gX7_canCarry_X7_cisternIs rfl rfl rfl q_X7_cisternIs ⟨Nat.le_of_ble_eq_true rfl, Nat.le_of_ble_eq_true rfl⟩) ⟨hx, hb, hml, hown, hts⟩ hE hP hD hS hA 7 0 rfl rfl rfl rfl hl.1 rfl rfl (Nat.le_of_ble_eq_true rfl) dX7_canCarry_35 (fun H locs hP hD hS => ?_)
        refine lv_icmp_ge (tgt := 98) hx hb dX7_canCarry_38 (by decide) (fun hc => ?_) (fun hc => ?_)
        · have hf := if_t hf hc
          refine lv_iinc (v := (x4 + (1 : Int32))) (lv' := [(4, .int (x4 + (1 : Int32))), (0, .ref m0), (1, .int x1), (3, .int x3)]) hx hb dX7_canCarry_98 hl (k := 3) rfl rfl (by decide) rfl (fun ls hl => ?_)
          refine lv_goto (tgt := 13) hx hb dX7_canCarry_101 (by decide) ?_
          exact ih _ _ _ _ _ _  hf hP hD hS (lv_sub hl [1, 2, 3, 0] rfl) hk
        · have hf := if_f hf hc
          refine lv_aload_n hx hb dX7_canCarry_41 rfl (lv_at hl 0 rfl) ?_
          refine va_get (D := g.1) (ci := 7) (v := .ref m1) (C := RX7) (T := TX7) (N := 22) hx hb hts i_X7_canCarry_X7 hown hE.1 hP 0 rfl rfl 0 (by decide) w1 (fun _ h9 => h9) rfl dX7_canCarry_42 ?_
          refine lv_iload hx hb dX7_canCarry_45 (lv_at hl 3 rfl) ?_
          refine lv_iconst (v := (2 : Int32)) hx hb dX7_canCarry_47 (by decide) ?_
          obtain ⟨x117, hg, hf⟩ := o1_s hf
          refine Ct.callS (ws' := wM g m0 m1 m2 m3 m4 m5 m6 m7 m8 m9 m10 m11 m12 now kept aside ik found carried T S) (As := [.int x4, .int (2 : Int32)]) (rest := [.ref m1]) (st1 := [.int x117, .ref m1]) (c_X7_at l g x4 (2 : Int32) hg) (va_cwS 2 hts gX7_canCarry_X7_at rfl rfl rfl q_X7_at.2 ⟨Nat.le_of_ble_eq_true rfl, Nat.le_of_ble_eq_true rfl⟩) ⟨hx, hb, hml, hown, hts⟩ hE hP hD hS hA [] rfl rfl rfl rfl rfl hl.1 rfl rfl (Nat.le_of_ble_eq_true rfl) dX7_canCarry_48 (fun H locs hP hD hS => ?_)
          refine lv_dup2_11 hx hb dX7_canCarry_51 rfl rfl ?_
          obtain ⟨x118, ex, hin, hf⟩ := rd_s hf
          refine st_iald (f := now) hx hb hE.1 hP 1 0 rfl rfl hin ex dX7_canCarry_52 ?_
          refine lv_iconst (v := (1 : Int32)) hx hb dX7_canCarry_53 (by decide) ?_
          refine lv_iadd hx hb dX7_canCarry_54 ?_
          obtain ⟨f119, ef, hin, hf⟩ := wr_s hf
          refine st_iast (ws' := wM g m0 m1 m2 m3 m4 m5 m6 m7 m8 m9 m10 m11 m12 f119 kept aside ik found carried T S) (f := now) (f2 := f119) hx hb hE.1 hP hD hS 1 0 rfl rfl hin ef rfl dX7_canCarry_55 (fun H locs hP hD hS => ?_)
          refine lv_aload_n hx hb dX7_canCarry_56 rfl (lv_at hl 0 rfl) ?_
          refine va_get (D := g.1) (ci := 7) (v := .ref m5) (C := RX7) (T := TX7) (N := 22) hx hb hts i_X7_canCarry_X7 hown hE.1 hP 0 rfl rfl 5 (by decide) w2 (fun _ h9 => h9) rfl dX7_canCarry_57 ?_
          refine lv_iload_n hx hb dX7_canCarry_60 rfl (lv_at hl 2 rfl) ?_
          refine lv_iload hx hb dX7_canCarry_61 (lv_at hl 3 rfl) ?_
          obtain ⟨f120, ef, hin, hf⟩ := wr_s hf
          refine st_iast (ws' := wM g m0 m1 m2 m3 m4 m5 m6 m7 m8 m9 m10 m11 m12 f119 kept aside ik found f120 T S) (f := carried) (f2 := f120) hx hb hE.1 hP hD hS 5 0 rfl rfl hin ef rfl dX7_canCarry_63 (fun H locs hP hD hS => ?_)
          refine lv_aload_n hx hb dX7_canCarry_64 rfl (lv_at hl 0 rfl) ?_
          refine lv_iload_n hx hb dX7_canCarry_65 rfl (lv_at hl 1 rfl) ?_
          refine lv_iload hx hb dX7_canCarry_66 (lv_at hl 3 rfl) ?_
          refine lv_iload_n hx hb dX7_canCarry_68 rfl (lv_at hl 2 rfl) ?_
          refine lv_iconst (v := (1 : Int32)) hx hb dX7_canCarry_69 (by decide) ?_
          refine lv_iadd hx hb dX7_canCarry_70 ?_
          obtain ⟨x121, now122, carried123, hg, hf⟩ := o3_s hf
          refine Ct.callV0 (ws' := wM g m0 m1 m2 m3 m4 m5 m6 m7 m8 m9 m10 m11 m12 now122 kept aside ik found carried123 T S) (As := [.int x1, .int x4, .int (x3 + (1 : Int32))]) (rest := []) (st1 := [.int x121]) (c_X7_canCarry_D4 l g m0 m1 m2 m3 m4 m5 m6 m7 m8 m9 m10 m11 m12 f119 kept aside ik found f120 T S x1 x4 (x3 + (1 : Int32)) hg) (cwV 3 hts gX7_canCarry_X7_canCarry rfl rfl rfl q_X7_canCarry ⟨Nat.le_of_ble_eq_true rfl, Nat.le_of_ble_eq_true rfl⟩) ⟨hx, hb, hml, hown, hts⟩ hE hP hD hS hA 7 0 rfl rfl rfl rfl hl.1 rfl rfl (Nat.le_of_ble_eq_true rfl) dX7_canCarry_71 (fun H locs hP hD hS => ?_)
          refine lv_istore (lv' := [(5, .int x121), (0, .ref m0), (1, .int x1), (3, .int x3), (4, .int x4)]) hx hb dX7_canCarry_74 hl (by decide) rfl (fun ls hl => ?_)
          refine lv_aload_n hx hb dX7_canCarry_76 rfl (lv_at hl 1 rfl) ?_
          refine va_get (D := g.1) (ci := 7) (v := .ref m1) (C := RX7) (T := TX7) (N := 22) hx hb hts i_X7_canCarry_X7 hown hE.1 hP 0 rfl rfl 0 (by decide) w1 (fun _ h9 => h9) rfl dX7_canCarry_77 ?_
          refine lv_iload hx hb dX7_canCarry_80 (lv_at hl 4 rfl) ?_
          refine lv_iconst (v := (2 : Int32)) hx hb dX7_canCarry_82 (by decide) ?_
          obtain ⟨x124, hg, hf⟩ := o1_s hf
          refine Ct.callS (ws' := wM g m0 m1 m2 m3 m4 m5 m6 m7 m8 m9 m10 m11 m12 now122 kept aside ik found carried123 T S) (As := [.int x4, .int (2 : Int32)]) (rest := [.ref m1]) (st1 := [.int x124, .ref m1]) (c_X7_at l g x4 (2 : Int32) hg) (va_cwS 2 hts gX7_canCarry_X7_at rfl rfl rfl q_X7_at.2 ⟨Nat.le_of_ble_eq_true rfl, Nat.le_of_ble_eq_true rfl⟩) ⟨hx, hb, hml, hown, hts⟩ hE hP hD hS hA [] rfl rfl rfl rfl rfl hl.1 rfl rfl (Nat.le_of_ble_eq_true rfl) dX7_canCarry_83 (fun H locs hP hD hS => ?_)
          refine lv_dup2_11 hx hb dX7_canCarry_86 rfl rfl ?_
          obtain ⟨x125, ex, hin, hf⟩ := rd_s hf
          refine st_iald (f := now122) hx hb hE.1 hP 1 0 rfl rfl hin ex dX7_canCarry_87 ?_
          refine lv_iconst (v := (1 : Int32)) hx hb dX7_canCarry_88 (by decide) ?_
          refine lv_isub hx hb dX7_canCarry_89 ?_
          obtain ⟨f126, ef, hin, hf⟩ := wr_s hf
          refine st_iast (ws' := wM g m0 m1 m2 m3 m4 m5 m6 m7 m8 m9 m10 m11 m12 f126 kept aside ik found carried123 T S) (f := now122) (f2 := f126) hx hb hE.1 hP hD hS 1 0 rfl rfl hin ef rfl dX7_canCarry_90 (fun H locs hP hD hS => ?_)
          refine lv_iload hx hb dX7_canCarry_91 (lv_at hl 0 rfl) ?_
          refine lv_if_eq (tgt := 98) hx hb dX7_canCarry_93 (by decide) (fun hc => ?_) (fun hc => ?_)
          · have hf := if_t hf hc
            refine lv_iinc (v := (x4 + (1 : Int32))) (lv' := [(4, .int (x4 + (1 : Int32))), (5, .int x121), (0, .ref m0), (1, .int x1), (3, .int x3)]) hx hb dX7_canCarry_98 hl (k := 4) rfl rfl (by decide) rfl (fun ls hl => ?_)
            refine lv_goto (tgt := 13) hx hb dX7_canCarry_101 (by decide) ?_
            exact ih _ _ _ _ _ _  hf hP hD hS (lv_sub hl [2, 3, 4, 0] rfl) hk
          · have hf := if_f hf hc
            refine lv_iconst (v := (1 : Int32)) hx hb dX7_canCarry_96 (by decide) ?_
            obtain ⟨rfl, rfl, rfl⟩ := some_p3 hf
            rw [hQ]; exact Ct.zret hx hb hr (by decide) hlocks hAe hP hD hS dX7_canCarry_97
  unfold fX7_canCarry_D5 fX7_canCarry_B at hf
  refine lv_iload_n hx hb dX7_canCarry_0 rfl (lv_at hl 1 rfl) ?_
  refine lv_iload_n hx hb dX7_canCarry_1 rfl (lv_at hl 3 rfl) ?_
  refine lv_icmp_ne (tgt := 10) hx hb dX7_canCarry_2 (by decide) (fun hc => ?_) (fun hc => ?_)
  · have hf := if_f hf hc
    refine lv_iload_n hx hb dX7_canCarry_10 rfl (lv_at hl 2 rfl) ?_
    refine lv_istore (lv' := [(4, .int a2), (0, .ref m0), (1, .int a1), (2, .int a2), (3, .int a3)]) hx hb dX7_canCarry_11 hl (by decide) rfl (fun ls hl => ?_)
    refine L13 _ _ _ _ _ _ _ _ _ _  hf hP hD hS (lv_sub hl [1, 2, 4, 0] rfl) (fun now127 carried128 H locs ls hf hP hD hS hl => ?_)
    refine lv_iconst (v := (0 : Int32)) hx hb dX7_canCarry_104 (by decide) ?_
    obtain ⟨rfl, rfl, rfl⟩ := some_p3 hf
    rw [hQ]; exact Ct.zret hx hb hr (by decide) hlocks hAe hP hD hS dX7_canCarry_105
  · have hf := if_t hf hc
    refine lv_aload_n hx hb dX7_canCarry_5 rfl (lv_at hl 0 rfl) ?_
    obtain ⟨x129, hg, hf⟩ := o1_s hf
    refine Ct.callV0 (ws' := wM g m0 m1 m2 m3 m4 m5 m6 m7 m8 m9 m10 m11 m12 now kept aside ik found carried T S) (As := []) (rest := []) (st1 := [.int x129]) (c_X7_isOpen l g m0 m1 m2 m3 m4 m5 m6 m7 m8 m9 m10 m11 m12 now kept aside ik found carried T S hg) (cwV 0 hts gX7_canCarry_X7_isOpen rfl rfl rfl q_X7_isOpen ⟨Nat.le_of_ble_eq_true rfl, Nat.le_of_ble_eq_true rfl⟩) ⟨hx, hb, hml, hown, hts⟩ hE hP hD hS hA 7 0 rfl rfl rfl rfl hl.1 rfl rfl (Nat.le_of_ble_eq_true rfl) dX7_canCarry_6 (fun H locs hP hD hS => ?_)
    obtain ⟨hn, hf⟩ := nb_s hf
    obtain ⟨rfl, rfl, rfl⟩ := some_p3 hf
    rw [hQ]; exact Ct.zret hx hb hr hn hlocks hAe hP hD hS dX7_canCarry_9
def fX7_bucketsNow_L2 (kx : (Nat → Int32) → (Nat → Int32) → Int32 → Option (Int32 × (Nat → Int32) × (Nat → Int32))) : Nat → (Nat → Int32) → (Nat → Int32) → Int32 → Option (Int32 × (Nat → Int32) × (Nat → Int32))
  | 0, _, _, _ => none
  | k + 1, now, carried, x1 => if (4 : Int32) < x1 then (kx now carried x1) else (o3 (fX7_canCarry_D5 now carried x1 (0 : Int32) (0 : Int32)) (fun x104 now105 carried106 => if x104 = 0 then (fX7_bucketsNow_L2 kx k now105 carried106 (x1 + (1 : Int32))) else (kx now105 carried106 x1)))
def fX7_bucketsNow (now : Nat → Int32) (carried : Nat → Int32) : Option (Int32 × (Nat → Int32) × (Nat → Int32)) := fX7_bucketsNow_L2 (fun now107 carried108 x109 => some (x109, now107, carried108)) fu now carried (0 : Int32)
theorem q_X7_bucketsNow : yX7_bucketsNow.cls = RX7 ∧ yX7_bucketsNow.cls ≠ "java/lang/invoke/MethodHandle" ∧ yX7_bucketsNow.cls ≠ "java/lang/invoke/VarHandle" ∧ (parseMethodDescriptor yX7_bucketsNow.desc).map (fun d => d.parameters.length) = some 0 := by decide +kernel
set_option maxHeartbeats 4000000 in
set_option maxRecDepth 100000 in
theorem c_X7_bucketsNow (l : Launch) (g : gG) (m0 m1 m2 m3 m4 m5 m6 m7 m8 m9 m10 m11 m12 : Nat) (now : Nat → Int32) (kept : Nat → Int32) (aside : Nat → Int32) (ik : Int32) (found : Nat → Int32) (carried : Nat → Int32) (T : Mt) (S : Ms) {r : Int32} {now' : Nat → Int32} {carried' : Nat → Int32} (hf : fX7_bucketsNow now carried = some (r, now', carried')) : Ct l yX7_bucketsNow wsX7_bucketsNow (rmm 11 257) g (wM g m0 m1 m2 m3 m4 m5 m6 m7 m8 m9 m10 m11 m12 now kept aside ik found carried T S) (wM g m0 m1 m2 m3 m4 m5 m6 m7 m8 m9 m10 m11 m12 (now') kept aside ik found (carried') T S) [.ref m0] (some (.int r)) := by
  refine Ct.mk (by decide) rfl (Nat.le_of_ble_eq_true rfl) ?_
  intro p e s m args below meth c A ls hx hb hr hml hts hown hlocks hA hE hP hD hS hl hAe
  obtain ⟨Qx, hQ⟩ : ∃ Qx : State → Prop, Qx = MQ below (QcG g (wM g m0 m1 m2 m3 m4 m5 m6 m7 m8 m9 m10 m11 m12 now kept aside ik found carried T S) (wM g m0 m1 m2 m3 m4 m5 m6 m7 m8 m9 m10 m11 m12 (now') kept aside ik found (carried') T S) (some (.int r)) s.heap.size) args s 0 0 A := ⟨_, rfl⟩
  rw [← hQ]
  have hown : s.vm.findClass RX7 = some m.cls := hown
  have hl : lv_has ls 2 [(0, .ref m0)] := hl
  have L2 : ∀ (kx : (Nat → Int32) → (Nat → Int32) → Int32 → Option (Int32 × (Nat → Int32) × (Nat → Int32))) (k : Nat) (now : Nat → Int32) (carried : Nat → Int32) (x1 : Int32) (H : Heap) (locs : List Loc) (ls : Array Slot), fX7_bucketsNow_L2 kx k now carried x1 = some (r, now', carried') → va_P g.1 vwK (wM g m0 m1 m2 m3 m4 m5 m6 m7 m8 m9 m10 m11 m12 now kept aside ik found carried T S) H → va_D A (wM g m0 m1 m2 m3 m4 m5 m6 m7 m8 m9 m10 m11 m12 now kept aside ik found carried T S) → va_S A s.heap H locs → lv_has ls 2 [(0, .ref m0), (1, .int x1)] → (∀ (now : Nat → Int32) (carried : Nat → Int32) (x1 : Int32) (H : Heap) (locs : List Loc) (ls : Array Slot), kx now carried x1 = some (r, now', carried') → va_P g.1 vwK (wM g m0 m1 m2 m3 m4 m5 m6 m7 m8 m9 m10 m11 m12 now kept aside ik found carried T S) H → va_D A (wM g m0 m1 m2 m3 m4 m5 m6 m7 m8 m9 m10 m11 m12 now kept aside ik found carried T S) → va_S A s.heap H locs → lv_has ls 2 [(1, .int x1)] → W p l e (rmm 11 257) s m args below meth c H locs 0 0 Qx (F0 m 23 ls [])) → W p l e (rmm 11 257) s m args below meth c H locs 0 0 Qx (F0 m 2 ls []) := by
    intro kx k
    induction k with
    | zero => intro now carried x1 H locs ls hf; exact nomatch (show (none : Option (Int32 × (Nat → Int32) × (Nat → Int32))) = some _ from hf)
    | succ k ih =>
      intro now carried x1 H locs ls hf hP hD hS hl hk
      rw [fX7_bucketsNow_L2] at hf
      refine lv_iload_n hx hb dX7_bucketsNow_2 rfl (lv_at hl 1 rfl) ?_
      refine lv_iconst (v := (4 : Int32)) hx hb dX7_bucketsNow_3 (by decide) ?_
      refine lv_icmp_gt (tgt := 23) hx hb dX7_bucketsNow_4 (by decide) (fun hc => ?_) (fun hc => ?_)
      · have hf := if_t hf hc
        exact hk _ _ _ _ _ _  hf hP hD hS (lv_sub hl [1] rfl)
      · have hf := if_f hf hc
        refine lv_aload_n hx hb dX7_bucketsNow_7 rfl (lv_at hl 0 rfl) ?_
        refine lv_iload_n hx hb dX7_bucketsNow_8 rfl (lv_at hl 1 rfl) ?_
        refine lv_iconst (v := (0 : Int32)) hx hb dX7_bucketsNow_9 (by decide) ?_
        refine lv_iconst (v := (0 : Int32)) hx hb dX7_bucketsNow_10 (by decide) ?_
        obtain ⟨x104, now105, carried106, hg, hf⟩ := o3_s hf
        refine Ct.callV0 (ws' := wM g m0 m1 m2 m3 m4 m5 m6 m7 m8 m9 m10 m11 m12 now105 kept aside ik found carried106 T S) (As := [.int x1, .int (0 : Int32), .int (0 : Int32)]) (rest := []) (st1 := [.int x104]) (c_X7_canCarry_D5 l g m0 m1 m2 m3 m4 m5 m6 m7 m8 m9 m10 m11 m12 now kept aside ik found carried T S x1 (0 : Int32) (0 : Int32) hg) (cwV 3 hts gX7_bucketsNow_X7_canCarry rfl rfl rfl q_X7_canCarry ⟨Nat.le_of_ble_eq_true rfl, Nat.le_of_ble_eq_true rfl⟩) ⟨hx, hb, hml, hown, hts⟩ hE hP hD hS hA 7 0 rfl rfl rfl rfl hl.1 rfl rfl (Nat.le_of_ble_eq_true rfl) dX7_bucketsNow_11 (fun H locs hP hD hS => ?_)
        refine lv_if_ne (tgt := 23) hx hb dX7_bucketsNow_14 (by decide) (fun hc => ?_) (fun hc => ?_)
        · have hf := if_f hf hc
          exact hk _ _ _ _ _ _  hf hP hD hS (lv_sub hl [1] rfl)
        · have hf := if_t hf hc
          refine lv_iinc (v := (x1 + (1 : Int32))) (lv' := [(1, .int (x1 + (1 : Int32))), (0, .ref m0)]) hx hb dX7_bucketsNow_17 hl (k := 1) rfl rfl (by decide) rfl (fun ls hl => ?_)
          refine lv_goto (tgt := 2) hx hb dX7_bucketsNow_20 (by decide) ?_
          exact ih _ _ _ _ _ _  hf hP hD hS (lv_sub hl [1, 0] rfl) hk
  unfold fX7_bucketsNow at hf
  refine lv_iconst (v := (0 : Int32)) hx hb dX7_bucketsNow_0 (by decide) ?_
  refine lv_istore_n (lv' := [(1, .int (0 : Int32)), (0, .ref m0)]) hx hb dX7_bucketsNow_1 rfl hl (by decide) rfl (fun ls hl => ?_)
  refine L2 _ _ _ _ _ _ _ _  hf hP hD hS (lv_sub hl [1, 0] rfl) (fun now107 carried108 x109 H locs ls hf hP hD hS hl => ?_)
  refine lv_iload_n hx hb dX7_bucketsNow_23 rfl (lv_at hl 0 rfl) ?_
  obtain ⟨rfl, rfl, rfl⟩ := some_p3 hf
  rw [hQ]; exact Ct.iret hx hb hr hlocks hAe hP hD hS dX7_bucketsNow_24
def fX7_buckets (now : Nat → Int32) (found : Nat → Int32) (carried : Nat → Int32) : Option (Int32 × (Nat → Int32) × (Nat → Int32) × (Nat → Int32)) := o3 (fX7_bucketsNow now carried) (fun x101 now102 carried103 => if x101 ≤ (4 : Int32) then (some (x101, now102, found, carried103)) else (o2 (fX7_finding found (-1000004 : Int32)) (fun x104 found105 => some (x104, now102, found105, carried103))))
theorem q_X7_buckets : yX7_buckets.cls = RX7 ∧ yX7_buckets.cls ≠ "java/lang/invoke/MethodHandle" ∧ yX7_buckets.cls ≠ "java/lang/invoke/VarHandle" ∧ (parseMethodDescriptor yX7_buckets.desc).map (fun d => d.parameters.length) = some 0 := by decide +kernel
set_option maxHeartbeats 4000000 in
set_option maxRecDepth 100000 in
theorem c_X7_buckets (l : Launch) (g : gG) (m0 m1 m2 m3 m4 m5 m6 m7 m8 m9 m10 m11 m12 : Nat) (now : Nat → Int32) (kept : Nat → Int32) (aside : Nat → Int32) (ik : Int32) (found : Nat → Int32) (carried : Nat → Int32) (T : Mt) (S : Ms) {r : Int32} {now' : Nat → Int32} {found' : Nat → Int32} {carried' : Nat → Int32} (hf : fX7_buckets now found carried = some (r, now', found', carried')) : Ct l yX7_buckets wsX7_buckets (rmm 12 278) g (wM g m0 m1 m2 m3 m4 m5 m6 m7 m8 m9 m10 m11 m12 now kept aside ik found carried T S) (wM g m0 m1 m2 m3 m4 m5 m6 m7 m8 m9 m10 m11 m12 (now') kept aside ik (found') (carried') T S) [.ref m0] (some (.int r)) := by
  refine Ct.mk (by decide) rfl (Nat.le_of_ble_eq_true rfl) ?_
  intro p e s m args below meth c A ls hx hb hr hml hts hown hlocks hA hE hP hD hS hl hAe
  obtain ⟨Qx, hQ⟩ : ∃ Qx : State → Prop, Qx = MQ below (QcG g (wM g m0 m1 m2 m3 m4 m5 m6 m7 m8 m9 m10 m11 m12 now kept aside ik found carried T S) (wM g m0 m1 m2 m3 m4 m5 m6 m7 m8 m9 m10 m11 m12 (now') kept aside ik (found') (carried') T S) (some (.int r)) s.heap.size) args s 0 0 A := ⟨_, rfl⟩
  rw [← hQ]
  have hown : s.vm.findClass RX7 = some m.cls := hown
  have hl : lv_has ls 2 [(0, .ref m0)] := hl
  have w1 := hts (.constant RX7 190 (-1000004)) (List.mem_of_getElem? (i := 1) rfl)
  unfold fX7_buckets at hf
  refine lv_aload_n hx hb dX7_buckets_0 rfl (lv_at hl 0 rfl) ?_
  obtain ⟨x101, now102, carried103, hg, hf⟩ := o3_s hf
  refine Ct.callV0 (ws' := wM g m0 m1 m2 m3 m4 m5 m6 m7 m8 m9 m10 m11 m12 now102 kept aside ik found carried103 T S) (As := []) (rest := []) (st1 := [.int x101]) (c_X7_bucketsNow l g m0 m1 m2 m3 m4 m5 m6 m7 m8 m9 m10 m11 m12 now kept aside ik found carried T S hg) (cwV 0 hts gX7_buckets_X7_bucketsNow rfl rfl rfl q_X7_bucketsNow ⟨Nat.le_of_ble_eq_true rfl, Nat.le_of_ble_eq_true rfl⟩) ⟨hx, hb, hml, hown, hts⟩ hE hP hD hS hA 7 0 rfl rfl rfl rfl hl.1 rfl rfl (Nat.le_of_ble_eq_true rfl) dX7_buckets_1 (fun H locs hP hD hS => ?_)
  refine lv_istore_n (lv' := [(1, .int x101), (0, .ref m0)]) hx hb dX7_buckets_4 rfl hl (by decide) rfl (fun ls hl => ?_)
  refine lv_iload_n hx hb dX7_buckets_5 rfl (lv_at hl 0 rfl) ?_
  refine lv_iconst (v := (4 : Int32)) hx hb dX7_buckets_6 (by decide) ?_
  refine lv_icmp_le (tgt := 19) hx hb dX7_buckets_7 (by decide) (fun hc => ?_) (fun hc => ?_)
  · have hf := if_t hf hc
    refine lv_iload_n hx hb dX7_buckets_19 rfl (lv_at hl 0 rfl) ?_
    obtain ⟨rfl, rfl, rfl, rfl⟩ := some_p4 hf
    rw [hQ]; exact Ct.iret hx hb hr hlocks hAe hP hD hS dX7_buckets_20
  · have hf := if_f hf hc
    refine lv_aload_n hx hb dX7_buckets_10 rfl (lv_at hl 1 rfl) ?_
    refine lv_ldc hx hb hown w1 dX7_buckets_11 ?_
    obtain ⟨x104, found105, hg, hf⟩ := o2_s hf
    refine Ct.callV0 (ws' := wM g m0 m1 m2 m3 m4 m5 m6 m7 m8 m9 m10 m11 m12 now102 kept aside ik found105 carried103 T S) (As := [.int (-1000004 : Int32)]) (rest := []) (st1 := [.int x104]) (c_X7_finding l g m0 m1 m2 m3 m4 m5 m6 m7 m8 m9 m10 m11 m12 now102 kept aside ik found carried103 T S (-1000004 : Int32) hg) (cwV 1 hts gX7_buckets_X7_finding rfl rfl rfl q_X7_finding ⟨Nat.le_of_ble_eq_true rfl, Nat.le_of_ble_eq_true rfl⟩) ⟨hx, hb, hml, hown, hts⟩ hE hP hD hS hA 7 0 rfl rfl rfl rfl hl.1 rfl rfl (Nat.le_of_ble_eq_true rfl) dX7_buckets_13 (fun H locs hP hD hS => ?_)
    refine lv_goto (tgt := 20) hx hb dX7_buckets_16 (by decide) ?_
    obtain ⟨rfl, rfl, rfl, rfl⟩ := some_p4 hf
    rw [hQ]; exact Ct.iret hx hb hr hlocks hAe hP hD hS dX7_buckets_20
def fX7_carry (now : Nat → Int32) (found : Nat → Int32) (carried : Nat → Int32) (a1 : Int32) : Option (Int32 × (Nat → Int32) × (Nat → Int32) × (Nat → Int32)) := o1 (fX7_within a1 (0 : Int32) (3 : Int32)) (fun x101 => if x101 = 0 then (o2 (fX7_finding found (-1000001 : Int32)) (fun x110 found111 => some (x110, now, found111, carried))) else (o3 (fX7_bucketsNow now carried) (fun x102 now103 carried104 => if (4 : Int32) < x102 then (o2 (fX7_finding found (-1000004 : Int32)) (fun x105 found106 => some (x105, now103, found106, carried104))) else (if a1 < x102 then (rd carried104 4 a1 (fun x107 => some (x107, now103, found, carried104))) else (o2 (fX7_finding found (-1000004 : Int32)) (fun x108 found109 => some (x108, now103, found109, carried104)))))))
theorem q_X7_carry : yX7_carry.cls = RX7 ∧ yX7_carry.cls ≠ "java/lang/invoke/MethodHandle" ∧ yX7_carry.cls ≠ "java/lang/invoke/VarHandle" ∧ (parseMethodDescriptor yX7_carry.desc).map (fun d => d.parameters.length) = some 1 := by decide +kernel
theorem i_X7_carry_X7 : ∀ w ∈ u_ws RX7 TX7 22, w ∈ wsX7_carry := fun _ h => List.mem_cons_of_mem _ (List.mem_append_right _ (h))
set_option maxHeartbeats 4000000 in
set_option maxRecDepth 100000 in
theorem c_X7_carry (l : Launch) (g : gG) (m0 m1 m2 m3 m4 m5 m6 m7 m8 m9 m10 m11 m12 : Nat) (now : Nat → Int32) (kept : Nat → Int32) (aside : Nat → Int32) (ik : Int32) (found : Nat → Int32) (carried : Nat → Int32) (T : Mt) (S : Ms) (a1 : Int32) {r : Int32} {now' : Nat → Int32} {found' : Nat → Int32} {carried' : Nat → Int32} (hf : fX7_carry now found carried a1 = some (r, now', found', carried')) : Ct l yX7_carry wsX7_carry (rmm 12 278) g (wM g m0 m1 m2 m3 m4 m5 m6 m7 m8 m9 m10 m11 m12 now kept aside ik found carried T S) (wM g m0 m1 m2 m3 m4 m5 m6 m7 m8 m9 m10 m11 m12 (now') kept aside ik (found') (carried') T S) [.ref m0, .int a1] (some (.int r)) := by
  refine Ct.mk (by decide) rfl (Nat.le_of_ble_eq_true rfl) ?_
  intro p e s m args below meth c A ls hx hb hr hml hts hown hlocks hA hE hP hD hS hl hAe
  obtain ⟨Qx, hQ⟩ : ∃ Qx : State → Prop, Qx = MQ below (QcG g (wM g m0 m1 m2 m3 m4 m5 m6 m7 m8 m9 m10 m11 m12 now kept aside ik found carried T S) (wM g m0 m1 m2 m3 m4 m5 m6 m7 m8 m9 m10 m11 m12 (now') kept aside ik (found') (carried') T S) (some (.int r)) s.heap.size) args s 0 0 A := ⟨_, rfl⟩
  rw [← hQ]
  have hown : s.vm.findClass RX7 = some m.cls := hown
  have hl : lv_has ls 3 [(0, .ref m0), (1, .int a1)] := hl
  have w1 := hts (.constant RX7 190 (-1000004)) (List.mem_of_getElem? (i := 2) rfl)
  have w2 := hts (.fieldLink RX7 22 "RainVaultModel" "carried" "[I") (List.mem_of_getElem? (i := 3) rfl)
  have w3 := hts (.constant RX7 63 (-1000001)) (List.mem_of_getElem? (i := 1) rfl)
  unfold fX7_carry at hf
  refine lv_iload_n hx hb dX7_carry_0 rfl (lv_at hl 1 rfl) ?_
  refine lv_iconst (v := (0 : Int32)) hx hb dX7_carry_1 (by decide) ?_
  refine lv_iconst (v := (3 : Int32)) hx hb dX7_carry_2 (by decide) ?_
  obtain ⟨x101, hg, hf⟩ := o1_s hf
  refine Ct.callS (ws' := wM g m0 m1 m2 m3 m4 m5 m6 m7 m8 m9 m10 m11 m12 now kept aside ik found carried T S) (As := [.int a1, .int (0 : Int32), .int (3 : Int32)]) (rest := []) (st1 := [.int x101]) (c_X7_within l g a1 (0 : Int32) (3 : Int32) hg) (va_cwS 3 hts gX7_carry_X7_within rfl rfl rfl q_X7_within.2 ⟨Nat.le_of_ble_eq_true rfl, Nat.le_of_ble_eq_true rfl⟩) ⟨hx, hb, hml, hown, hts⟩ hE hP hD hS hA [] rfl rfl rfl rfl rfl hl.1 rfl rfl (Nat.le_of_ble_eq_true rfl) dX7_carry_3 (fun H locs hP hD hS => ?_)
  refine lv_if_ne (tgt := 16) hx hb dX7_carry_6 (by decide) (fun hc => ?_) (fun hc => ?_)
  · have hf := if_f hf hc
    refine lv_aload_n hx hb dX7_carry_16 rfl (lv_at hl 0 rfl) ?_
    obtain ⟨x102, now103, carried104, hg, hf⟩ := o3_s hf
    refine Ct.callV0 (ws' := wM g m0 m1 m2 m3 m4 m5 m6 m7 m8 m9 m10 m11 m12 now103 kept aside ik found carried104 T S) (As := []) (rest := []) (st1 := [.int x102]) (c_X7_bucketsNow l g m0 m1 m2 m3 m4 m5 m6 m7 m8 m9 m10 m11 m12 now kept aside ik found carried T S hg) (cwV 0 hts gX7_carry_X7_bucketsNow rfl rfl rfl q_X7_bucketsNow ⟨Nat.le_of_ble_eq_true rfl, Nat.le_of_ble_eq_true rfl⟩) ⟨hx, hb, hml, hown, hts⟩ hE hP hD hS hA 7 0 rfl rfl rfl rfl hl.1 rfl rfl (Nat.le_of_ble_eq_true rfl) dX7_carry_17 (fun H locs hP hD hS => ?_)
    refine lv_istore_n (lv' := [(2, .int x102), (0, .ref m0), (1, .int a1)]) hx hb dX7_carry_20 rfl hl (by decide) rfl (fun ls hl => ?_)
    refine lv_iload_n hx hb dX7_carry_21 rfl (lv_at hl 0 rfl) ?_
    refine lv_iconst (v := (4 : Int32)) hx hb dX7_carry_22 (by decide) ?_
    refine lv_icmp_gt (tgt := 31) hx hb dX7_carry_23 (by decide) (fun hc => ?_) (fun hc => ?_)
    · have hf := if_t hf hc
      refine lv_aload_n hx hb dX7_carry_31 rfl (lv_at hl 1 rfl) ?_
      refine lv_ldc hx hb hown w1 dX7_carry_32 ?_
      obtain ⟨x105, found106, hg, hf⟩ := o2_s hf
      refine Ct.callV0 (ws' := wM g m0 m1 m2 m3 m4 m5 m6 m7 m8 m9 m10 m11 m12 now103 kept aside ik found106 carried104 T S) (As := [.int (-1000004 : Int32)]) (rest := []) (st1 := [.int x105]) (c_X7_finding l g m0 m1 m2 m3 m4 m5 m6 m7 m8 m9 m10 m11 m12 now103 kept aside ik found carried104 T S (-1000004 : Int32) hg) (cwV 1 hts gX7_carry_X7_finding rfl rfl rfl q_X7_finding ⟨Nat.le_of_ble_eq_true rfl, Nat.le_of_ble_eq_true rfl⟩) ⟨hx, hb, hml, hown, hts⟩ hE hP hD hS hA 7 0 rfl rfl rfl rfl hl.1 rfl rfl (Nat.le_of_ble_eq_true rfl) dX7_carry_34 (fun H locs hP hD hS => ?_)
      refine lv_goto (tgt := 46) hx hb dX7_carry_37 (by decide) ?_
      obtain ⟨rfl, rfl, rfl, rfl⟩ := some_p4 hf
      rw [hQ]; exact Ct.iret hx hb hr hlocks hAe hP hD hS dX7_carry_46
    · have hf := if_f hf hc
      refine lv_iload_n hx hb dX7_carry_26 rfl (lv_at hl 2 rfl) ?_
      refine lv_iload_n hx hb dX7_carry_27 rfl (lv_at hl 0 rfl) ?_
      refine lv_icmp_lt (tgt := 40) hx hb dX7_carry_28 (by decide) (fun hc => ?_) (fun hc => ?_)
      · have hf := if_t hf hc
        refine lv_aload_n hx hb dX7_carry_40 rfl (lv_at hl 1 rfl) ?_
        refine va_get (D := g.1) (ci := 7) (v := .ref m5) (C := RX7) (T := TX7) (N := 22) hx hb hts i_X7_carry_X7 hown hE.1 hP 0 rfl rfl 5 (by decide) w2 (fun _ h9 => h9) rfl dX7_carry_41 ?_
        refine lv_iload_n hx hb dX7_carry_44 rfl (lv_at hl 2 rfl) ?_
        obtain ⟨x107, ex, hin, hf⟩ := rd_s hf
        refine st_iald (f := carried104) hx hb hE.1 hP 5 0 rfl rfl hin ex dX7_carry_45 ?_
        obtain ⟨rfl, rfl, rfl, rfl⟩ := some_p4 hf
        rw [hQ]; exact Ct.iret hx hb hr hlocks hAe hP hD hS dX7_carry_46
      · have hf := if_f hf hc
        refine lv_aload_n hx hb dX7_carry_31 rfl (lv_at hl 1 rfl) ?_
        refine lv_ldc hx hb hown w1 dX7_carry_32 ?_
        obtain ⟨x108, found109, hg, hf⟩ := o2_s hf
        refine Ct.callV0 (ws' := wM g m0 m1 m2 m3 m4 m5 m6 m7 m8 m9 m10 m11 m12 now103 kept aside ik found109 carried104 T S) (As := [.int (-1000004 : Int32)]) (rest := []) (st1 := [.int x108]) (c_X7_finding l g m0 m1 m2 m3 m4 m5 m6 m7 m8 m9 m10 m11 m12 now103 kept aside ik found carried104 T S (-1000004 : Int32) hg) (cwV 1 hts gX7_carry_X7_finding rfl rfl rfl q_X7_finding ⟨Nat.le_of_ble_eq_true rfl, Nat.le_of_ble_eq_true rfl⟩) ⟨hx, hb, hml, hown, hts⟩ hE hP hD hS hA 7 0 rfl rfl rfl rfl hl.1 rfl rfl (Nat.le_of_ble_eq_true rfl) dX7_carry_34 (fun H locs hP hD hS => ?_)
        refine lv_goto (tgt := 46) hx hb dX7_carry_37 (by decide) ?_
        obtain ⟨rfl, rfl, rfl, rfl⟩ := some_p4 hf
        rw [hQ]; exact Ct.iret hx hb hr hlocks hAe hP hD hS dX7_carry_46
  · have hf := if_t hf hc
    refine lv_aload_n hx hb dX7_carry_9 rfl (lv_at hl 0 rfl) ?_
    refine lv_ldc hx hb hown w3 dX7_carry_10 ?_
    obtain ⟨x110, found111, hg, hf⟩ := o2_s hf
    refine Ct.callV0 (ws' := wM g m0 m1 m2 m3 m4 m5 m6 m7 m8 m9 m10 m11 m12 now kept aside ik found111 carried T S) (As := [.int (-1000001 : Int32)]) (rest := []) (st1 := [.int x110]) (c_X7_finding l g m0 m1 m2 m3 m4 m5 m6 m7 m8 m9 m10 m11 m12 now kept aside ik found carried T S (-1000001 : Int32) hg) (cwV 1 hts gX7_carry_X7_finding rfl rfl rfl q_X7_finding ⟨Nat.le_of_ble_eq_true rfl, Nat.le_of_ble_eq_true rfl⟩) ⟨hx, hb, hml, hown, hts⟩ hE hP hD hS hA 7 0 rfl rfl rfl rfl hl.1 rfl rfl (Nat.le_of_ble_eq_true rfl) dX7_carry_12 (fun H locs hP hD hS => ?_)
    obtain ⟨rfl, rfl, rfl, rfl⟩ := some_p4 hf
    rw [hQ]; exact Ct.iret hx hb hr hlocks hAe hP hD hS dX7_carry_15
def fX7_leavesOpen (now : Nat → Int32) (aside : Nat → Int32) (a1 : Int32) (a2 : Int32) (a3 : Int32) : Option (Int32 × (Nat → Int32)) := o2 (fX7_hoursGo now a1 a2 a3) (fun x101 now102 => if 0 ≤ x101 then (o1 (fX7_open now102) (fun x103 => o2 (fX7_putBack now102 aside x103) (fun x104 now105 => if x104 = (1 : Int32) then (some ((1 : Int32), now105)) else (some ((0 : Int32), now105))))) else (o2 (fX7_putBack now102 aside (0 : Int32)) (fun x106 now107 => if x106 = (1 : Int32) then (some ((1 : Int32), now107)) else (some ((0 : Int32), now107)))))
theorem q_X7_leavesOpen : yX7_leavesOpen.cls = RX7 ∧ yX7_leavesOpen.cls ≠ "java/lang/invoke/MethodHandle" ∧ yX7_leavesOpen.cls ≠ "java/lang/invoke/VarHandle" ∧ (parseMethodDescriptor yX7_leavesOpen.desc).map (fun d => d.parameters.length) = some 3 := by decide +kernel
set_option maxHeartbeats 4000000 in
set_option maxRecDepth 100000 in
theorem c_X7_leavesOpen (l : Launch) (g : gG) (m0 m1 m2 m3 m4 m5 m6 m7 m8 m9 m10 m11 m12 : Nat) (now : Nat → Int32) (kept : Nat → Int32) (aside : Nat → Int32) (ik : Int32) (found : Nat → Int32) (carried : Nat → Int32) (T : Mt) (S : Ms) (a1 : Int32) (a2 : Int32) (a3 : Int32) {r : Int32} {now' : Nat → Int32} (hf : fX7_leavesOpen now aside a1 a2 a3 = some (r, now')) : Ct l yX7_leavesOpen wsX7_leavesOpen (rmm 9 202) g (wM g m0 m1 m2 m3 m4 m5 m6 m7 m8 m9 m10 m11 m12 now kept aside ik found carried T S) (wM g m0 m1 m2 m3 m4 m5 m6 m7 m8 m9 m10 m11 m12 (now') kept aside ik found carried T S) [.ref m0, .int a1, .int a2, .int a3] (some (.int r)) := by
  refine Ct.mk (by decide) rfl (Nat.le_of_ble_eq_true rfl) ?_
  intro p e s m args below meth c A ls hx hb hr hml hts hown hlocks hA hE hP hD hS hl hAe
  obtain ⟨Qx, hQ⟩ : ∃ Qx : State → Prop, Qx = MQ below (QcG g (wM g m0 m1 m2 m3 m4 m5 m6 m7 m8 m9 m10 m11 m12 now kept aside ik found carried T S) (wM g m0 m1 m2 m3 m4 m5 m6 m7 m8 m9 m10 m11 m12 (now') kept aside ik found carried T S) (some (.int r)) s.heap.size) args s 0 0 A := ⟨_, rfl⟩
  rw [← hQ]
  have hown : s.vm.findClass RX7 = some m.cls := hown
  have hl : lv_has ls 5 [(0, .ref m0), (1, .int a1), (2, .int a2), (3, .int a3)] := hl
  unfold fX7_leavesOpen at hf
  refine lv_aload_n hx hb dX7_leavesOpen_0 rfl (lv_at hl 0 rfl) ?_
  refine lv_iload_n hx hb dX7_leavesOpen_1 rfl (lv_at hl 1 rfl) ?_
  refine lv_iload_n hx hb dX7_leavesOpen_2 rfl (lv_at hl 2 rfl) ?_
  refine lv_iload_n hx hb dX7_leavesOpen_3 rfl (lv_at hl 3 rfl) ?_
  obtain ⟨x101, now102, hg, hf⟩ := o2_s hf
  refine Ct.callV0 (ws' := wM g m0 m1 m2 m3 m4 m5 m6 m7 m8 m9 m10 m11 m12 now102 kept aside ik found carried T S) (As := [.int a1, .int a2, .int a3]) (rest := []) (st1 := [.int x101]) (c_X7_hoursGo l g m0 m1 m2 m3 m4 m5 m6 m7 m8 m9 m10 m11 m12 now kept aside ik found carried T S a1 a2 a3 hg) (cwV 3 hts gX7_leavesOpen_X7_hoursGo rfl rfl rfl q_X7_hoursGo ⟨Nat.le_of_ble_eq_true rfl, Nat.le_of_ble_eq_true rfl⟩) ⟨hx, hb, hml, hown, hts⟩ hE hP hD hS hA 7 0 rfl rfl rfl rfl hl.1 rfl rfl (Nat.le_of_ble_eq_true rfl) dX7_leavesOpen_4 (fun H locs hP hD hS => ?_)
  refine lv_istore (lv' := [(4, .int x101), (0, .ref m0), (1, .int a1), (2, .int a2), (3, .int a3)]) hx hb dX7_leavesOpen_7 hl (by decide) rfl (fun ls hl => ?_)
  refine lv_aload_n hx hb dX7_leavesOpen_9 rfl (lv_at hl 1 rfl) ?_
  refine lv_iload hx hb dX7_leavesOpen_10 (lv_at hl 0 rfl) ?_
  refine lv_if_ge (tgt := 19) hx hb dX7_leavesOpen_12 (by decide) (fun hc => ?_) (fun hc => ?_)
  · have hf := if_t hf hc
    refine lv_aload_n hx hb dX7_leavesOpen_19 rfl (lv_at hl 1 rfl) ?_
    obtain ⟨x103, hg, hf⟩ := o1_s hf
    refine Ct.callV0 (ws' := wM g m0 m1 m2 m3 m4 m5 m6 m7 m8 m9 m10 m11 m12 now102 kept aside ik found carried T S) (As := []) (rest := [.ref m0]) (st1 := [.int x103, .ref m0]) (c_X7_open l g m0 m1 m2 m3 m4 m5 m6 m7 m8 m9 m10 m11 m12 now102 kept aside ik found carried T S hg) (cwV 0 hts gX7_leavesOpen_X7_open rfl rfl rfl q_X7_open ⟨Nat.le_of_ble_eq_true rfl, Nat.le_of_ble_eq_true rfl⟩) ⟨hx, hb, hml, hown, hts⟩ hE hP hD hS hA 7 0 rfl rfl rfl rfl hl.1 rfl rfl (Nat.le_of_ble_eq_true rfl) dX7_leavesOpen_20 (fun H locs hP hD hS => ?_)
    obtain ⟨x104, now105, hg, hf⟩ := o2_s hf
    refine Ct.callV0 (ws' := wM g m0 m1 m2 m3 m4 m5 m6 m7 m8 m9 m10 m11 m12 now105 kept aside ik found carried T S) (As := [.int x103]) (rest := []) (st1 := [.int x104]) (c_X7_putBack l g m0 m1 m2 m3 m4 m5 m6 m7 m8 m9 m10 m11 m12 now102 kept aside ik found carried T S x103 hg) (cwV 1 hts gX7_leavesOpen_X7_putBack rfl rfl rfl q_X7_putBack ⟨Nat.le_of_ble_eq_true rfl, Nat.le_of_ble_eq_true rfl⟩) ⟨hx, hb, hml, hown, hts⟩ hE hP hD hS hA 7 0 rfl rfl rfl rfl hl.1 rfl rfl (Nat.le_of_ble_eq_true rfl) dX7_leavesOpen_23 (fun H locs hP hD hS => ?_)
    refine lv_iconst (v := (1 : Int32)) hx hb dX7_leavesOpen_26 (by decide) ?_
    refine lv_icmp_ne (tgt := 34) hx hb dX7_leavesOpen_27 (by decide) (fun hc => ?_) (fun hc => ?_)
    · have hf := if_f hf hc
      refine lv_iconst (v := (0 : Int32)) hx hb dX7_leavesOpen_34 (by decide) ?_
      obtain ⟨rfl, rfl⟩ := some_p2 hf
      rw [hQ]; exact Ct.zret hx hb hr (by decide) hlocks hAe hP hD hS dX7_leavesOpen_35
    · have hf := if_t hf hc
      refine lv_iconst (v := (1 : Int32)) hx hb dX7_leavesOpen_30 (by decide) ?_
      refine lv_goto (tgt := 35) hx hb dX7_leavesOpen_31 (by decide) ?_
      obtain ⟨rfl, rfl⟩ := some_p2 hf
      rw [hQ]; exact Ct.zret hx hb hr (by decide) hlocks hAe hP hD hS dX7_leavesOpen_35
  · have hf := if_f hf hc
    refine lv_iconst (v := (0 : Int32)) hx hb dX7_leavesOpen_15 (by decide) ?_
    refine lv_goto (tgt := 23) hx hb dX7_leavesOpen_16 (by decide) ?_
    obtain ⟨x106, now107, hg, hf⟩ := o2_s hf
    refine Ct.callV0 (ws' := wM g m0 m1 m2 m3 m4 m5 m6 m7 m8 m9 m10 m11 m12 now107 kept aside ik found carried T S) (As := [.int (0 : Int32)]) (rest := []) (st1 := [.int x106]) (c_X7_putBack l g m0 m1 m2 m3 m4 m5 m6 m7 m8 m9 m10 m11 m12 now102 kept aside ik found carried T S (0 : Int32) hg) (cwV 1 hts gX7_leavesOpen_X7_putBack rfl rfl rfl q_X7_putBack ⟨Nat.le_of_ble_eq_true rfl, Nat.le_of_ble_eq_true rfl⟩) ⟨hx, hb, hml, hown, hts⟩ hE hP hD hS hA 7 0 rfl rfl rfl rfl hl.1 rfl rfl (Nat.le_of_ble_eq_true rfl) dX7_leavesOpen_23 (fun H locs hP hD hS => ?_)
    refine lv_iconst (v := (1 : Int32)) hx hb dX7_leavesOpen_26 (by decide) ?_
    refine lv_icmp_ne (tgt := 34) hx hb dX7_leavesOpen_27 (by decide) (fun hc => ?_) (fun hc => ?_)
    · have hf := if_f hf hc
      refine lv_iconst (v := (0 : Int32)) hx hb dX7_leavesOpen_34 (by decide) ?_
      obtain ⟨rfl, rfl⟩ := some_p2 hf
      rw [hQ]; exact Ct.zret hx hb hr (by decide) hlocks hAe hP hD hS dX7_leavesOpen_35
    · have hf := if_t hf hc
      refine lv_iconst (v := (1 : Int32)) hx hb dX7_leavesOpen_30 (by decide) ?_
      refine lv_goto (tgt := 35) hx hb dX7_leavesOpen_31 (by decide) ?_
      obtain ⟨rfl, rfl⟩ := some_p2 hf
      rw [hQ]; exact Ct.zret hx hb hr (by decide) hlocks hAe hP hD hS dX7_leavesOpen_35
def fX7_bits_L4 (kx : Int32 → Option (Int32)) : Nat → Int32 → Int32 → Option (Int32)
  | 0, _, _ => none
  | k + 1, x1, x2 => if x2 = 0 then (kx x1) else (fX7_bits_L4 kx k (x1 + (1 : Int32)) (x2 &&& (x2 - (1 : Int32))))
def fX7_bits (a1 : Int32) : Option (Int32) := fX7_bits_L4 (fun x101 => some x101) fu (0 : Int32) a1
theorem q_X7_bits : yX7_bits.cls = RX7 ∧ yX7_bits.cls ≠ "java/lang/invoke/MethodHandle" ∧ yX7_bits.cls ≠ "java/lang/invoke/VarHandle" ∧ (parseMethodDescriptor yX7_bits.desc).map (fun d => d.parameters.length) = some 1 := by decide +kernel
set_option maxHeartbeats 4000000 in
set_option maxRecDepth 100000 in
theorem c_X7_bits (l : Launch) (g : gG) (a1 : Int32) {r : Int32} (hf : fX7_bits a1 = some r) : Ct l yX7_bits wsX7_bits (rmm 0 0) g (wNil g  ) (wNil g  ) [.int a1] (some (.int r)) := by
  refine Ct.mk (by decide) rfl (Nat.le_of_ble_eq_true rfl) ?_
  intro p e s m args below meth c A ls hx hb hr hml hts hown hlocks hA hE hP hD hS hl hAe
  obtain ⟨Qx, hQ⟩ : ∃ Qx : State → Prop, Qx = MQ below (QcG g (wNil g  ) (wNil g  ) (some (.int r)) s.heap.size) args s 0 0 A := ⟨_, rfl⟩
  rw [← hQ]
  have hown : s.vm.findClass RX7 = some m.cls := hown
  have hl : lv_has ls 3 [(0, .int a1)] := hl
  have L4 : ∀ (kx : Int32 → Option (Int32)) (k : Nat) (x1 : Int32) (x2 : Int32) (H : Heap) (locs : List Loc) (ls : Array Slot), fX7_bits_L4 kx k x1 x2 = some r → va_P g.1 vwK (wNil g  ) H → va_D A (wNil g  ) → va_S A s.heap H locs → lv_has ls 3 [(1, .int x1), (2, .int x2)] → (∀ (x1 : Int32) (H : Heap) (locs : List Loc) (ls : Array Slot), kx x1 = some r → va_P g.1 vwK (wNil g  ) H → va_D A (wNil g  ) → va_S A s.heap H locs → lv_has ls 3 [(1, .int x1)] → W p l e (rmm 0 0) s m args below meth c H locs 0 0 Qx (F0 m 20 ls [])) → W p l e (rmm 0 0) s m args below meth c H locs 0 0 Qx (F0 m 4 ls []) := by
    intro kx k
    induction k with
    | zero => intro x1 x2 H locs ls hf; exact nomatch (show (none : Option (Int32)) = some _ from hf)
    | succ k ih =>
      intro x1 x2 H locs ls hf hP hD hS hl hk
      rw [fX7_bits_L4] at hf
      refine lv_iload_n hx hb dX7_bits_4 rfl (lv_at hl 1 rfl) ?_
      refine lv_if_eq (tgt := 20) hx hb dX7_bits_5 (by decide) (fun hc => ?_) (fun hc => ?_)
      · have hf := if_t hf hc
        exact hk _ _ _ _  hf hP hD hS (lv_sub hl [0] rfl)
      · have hf := if_f hf hc
        refine lv_iinc (v := (x1 + (1 : Int32))) (lv' := [(1, .int (x1 + (1 : Int32))), (2, .int x2)]) hx hb dX7_bits_8 hl (k := 0) rfl rfl (by decide) rfl (fun ls hl => ?_)
        refine lv_iload_n hx hb dX7_bits_11 rfl (lv_at hl 1 rfl) ?_
        refine lv_iload_n hx hb dX7_bits_12 rfl (lv_at hl 1 rfl) ?_
        refine lv_iconst (v := (1 : Int32)) hx hb dX7_bits_13 (by decide) ?_
        refine lv_isub hx hb dX7_bits_14 ?_
        refine lv_iand hx hb dX7_bits_15 ?_
        refine lv_istore_n (lv' := [(2, .int (x2 &&& (x2 - (1 : Int32)))), (1, .int (x1 + (1 : Int32)))]) hx hb dX7_bits_16 rfl hl (by decide) rfl (fun ls hl => ?_)
        refine lv_goto (tgt := 4) hx hb dX7_bits_17 (by decide) ?_
        exact ih _ _ _ _ _  hf hP hD hS (lv_sub hl [1, 0] rfl) hk
  unfold fX7_bits at hf
  refine lv_iconst (v := (0 : Int32)) hx hb dX7_bits_0 (by decide) ?_
  refine lv_istore_n (lv' := [(1, .int (0 : Int32)), (0, .int a1)]) hx hb dX7_bits_1 rfl hl (by decide) rfl (fun ls hl => ?_)
  refine lv_iload_n hx hb dX7_bits_2 rfl (lv_at hl 1 rfl) ?_
  refine lv_istore_n (lv' := [(2, .int a1), (1, .int (0 : Int32)), (0, .int a1)]) hx hb dX7_bits_3 rfl hl (by decide) rfl (fun ls hl => ?_)
  refine L4 _ _ _ _ _ _ _  hf hP hD hS (lv_sub hl [1, 0] rfl) (fun x101 H locs ls hf hP hD hS hl => ?_)
  refine lv_iload_n hx hb dX7_bits_20 rfl (lv_at hl 0 rfl) ?_
  obtain rfl := Option.some.inj hf
  rw [hQ]; exact Ct.iret hx hb hr hlocks hAe hP hD hS dX7_bits_21
def fX7_cloths_L75 (x6 : Int32) (kx : (Nat → Int32) → Option (Int32 × (Nat → Int32) × (Nat → Int32) × (Nat → Int32))) : Nat → (Nat → Int32) → Int32 → Option (Int32 × (Nat → Int32) × (Nat → Int32) × (Nat → Int32))
  | 0, _, _ => none
  | k + 1, now, x7 => rd now 120 (2 : Int32) (fun x107 => if x107 ≤ x7 then (kx now) else (o1 (fX7_at x7 (5 : Int32)) (fun x108 => wr now 120 x108 ((x6 >>> (x7 &&& 31)) &&& (1 : Int32)) (fun f109 => fX7_cloths_L75 x6 kx k f109 (x7 + (1 : Int32))))))
def fX7_cloths_L41 (aside : Nat → Int32) (x1 : Int32) (x2 : Int32) (x3 : Int32) (kx : (Nat → Int32) → Int32 → Option (Int32 × (Nat → Int32) × (Nat → Int32) × (Nat → Int32))) : Nat → (Nat → Int32) → Int32 → Int32 → Option (Int32 × (Nat → Int32) × (Nat → Int32) × (Nat → Int32))
  | 0, _, _, _ => none
  | k + 1, now, x5, x6 => rd now 120 (2 : Int32) (fun x118 => if ((1 : Int32) <<< (x118 &&& 31)) ≤ x6 then (kx now x5) else (if x5 < 0 then (fX7_cloths_L75 x6 (fun now119 => o2 (fX7_leavesOpen now119 aside x1 x2 x3) (fun x120 now121 => if x120 = 0 then (fX7_cloths_L41 aside x1 x2 x3 kx k now121 x5 (x6 + (1 : Int32))) else (fX7_cloths_L41 aside x1 x2 x3 kx k now121 x6 (x6 + (1 : Int32))))) fu now (0 : Int32)) else (o1 (fX7_bits x6) (fun x122 => o1 (fX7_bits x5) (fun x123 => if x123 ≤ x122 then (fX7_cloths_L41 aside x1 x2 x3 kx k now x5 (x6 + (1 : Int32))) else (fX7_cloths_L75 x6 (fun now124 => o2 (fX7_leavesOpen now124 aside x1 x2 x3) (fun x125 now126 => if x125 = 0 then (fX7_cloths_L41 aside x1 x2 x3 kx k now126 x5 (x6 + (1 : Int32))) else (fX7_cloths_L41 aside x1 x2 x3 kx k now126 x6 (x6 + (1 : Int32))))) fu now (0 : Int32)))))))
def fX7_cloths (now : Nat → Int32) (aside : Nat → Int32) (found : Nat → Int32) (a1 : Int32) (a2 : Int32) (a3 : Int32) : Option (Int32 × (Nat → Int32) × (Nat → Int32) × (Nat → Int32)) := o1 (fX7_refuses now a1 a2 a3 (1 : Int32) (20 : Int32)) (fun x101 => if x101 = 0 then (o1 (fX7_copyRow 120 now) (fun f2102 => fX7_cloths_L41 f2102 a1 a2 a3 (fun now127 x128 => if 0 ≤ x128 then (some (x128, now127, f2102, found)) else (o2 (fX7_finding found (-1000004 : Int32)) (fun x129 found130 => some (x129, now127, f2102, found130)))) fu now (-1 : Int32) (0 : Int32))) else (o2 (fX7_finding found x101) (fun x131 found132 => some (x131, now, aside, found132))))
theorem q_X7_cloths : yX7_cloths.cls = RX7 ∧ yX7_cloths.cls ≠ "java/lang/invoke/MethodHandle" ∧ yX7_cloths.cls ≠ "java/lang/invoke/VarHandle" ∧ (parseMethodDescriptor yX7_cloths.desc).map (fun d => d.parameters.length) = some 3 := by decide +kernel
theorem i_X7_cloths_X7 : ∀ w ∈ u_ws RX7 TX7 22, w ∈ wsX7_cloths := fun _ h => List.mem_cons_of_mem _ (List.mem_append_right _ (h))
set_option maxHeartbeats 4000000 in
set_option maxRecDepth 100000 in
theorem c_X7_cloths (l : Launch) (g : gG) (m0 m1 m2 m3 m4 m5 m6 m7 m8 m9 m10 m11 m12 : Nat) (now : Nat → Int32) (kept : Nat → Int32) (aside : Nat → Int32) (ik : Int32) (found : Nat → Int32) (carried : Nat → Int32) (T : Mt) (S : Ms) (a1 : Int32) (a2 : Int32) (a3 : Int32) {r : Int32} {now' : Nat → Int32} {aside' : Nat → Int32} {found' : Nat → Int32} (hf : fX7_cloths now aside found a1 a2 a3 = some (r, now', aside', found')) : Ct l yX7_cloths wsX7_cloths (rmm 10 226) g (wM g m0 m1 m2 m3 m4 m5 m6 m7 m8 m9 m10 m11 m12 now kept aside ik found carried T S) (wM g m0 m1 m2 m3 m4 m5 m6 m7 m8 m9 m10 m11 m12 (now') kept (aside') ik (found') carried T S) [.ref m0, .int a1, .int a2, .int a3] (some (.int r)) := by
  refine Ct.mk (by decide) rfl (Nat.le_of_ble_eq_true rfl) ?_
  intro p e s m args below meth c A ls hx hb hr hml hts hown hlocks hA hE hP hD hS hl hAe
  obtain ⟨Qx, hQ⟩ : ∃ Qx : State → Prop, Qx = MQ below (QcG g (wM g m0 m1 m2 m3 m4 m5 m6 m7 m8 m9 m10 m11 m12 now kept aside ik found carried T S) (wM g m0 m1 m2 m3 m4 m5 m6 m7 m8 m9 m10 m11 m12 (now') kept (aside') ik (found') carried T S) (some (.int r)) s.heap.size) args s 0 0 A := ⟨_, rfl⟩
  rw [← hQ]
  have hown : s.vm.findClass RX7 = some m.cls := hown
  have hl : lv_has ls 8 [(0, .ref m0), (1, .int a1), (2, .int a2), (3, .int a3)] := hl
  have w1 := hts (.fieldLink RX7 9 "RainVaultModel" "now" "[I") (List.mem_of_getElem? (i := 1) rfl)
  have w2 := hts (.fieldLink RX7 16 "RainVaultModel" "aside" "[I") (List.mem_of_getElem? (i := 2) rfl)
  have w3 := hts (.constant RX7 190 (-1000004)) (List.mem_of_getElem? (i := 3) rfl)
  have L75 : ∀ (aside : Nat → Int32) (found : Nat → Int32) (x1 : Int32) (x2 : Int32) (x3 : Int32) (x5 : Int32) (x6 : Int32) (kx : (Nat → Int32) → Option (Int32 × (Nat → Int32) × (Nat → Int32) × (Nat → Int32))) (k : Nat) (now : Nat → Int32) (x7 : Int32) (H : Heap) (locs : List Loc) (ls : Array Slot), fX7_cloths_L75 x6 kx k now x7 = some (r, now', aside', found') → va_P g.1 vwK (wM g m0 m1 m2 m3 m4 m5 m6 m7 m8 m9 m10 m11 m12 now kept aside ik found carried T S) H → va_D A (wM g m0 m1 m2 m3 m4 m5 m6 m7 m8 m9 m10 m11 m12 now kept aside ik found carried T S) → va_S A s.heap H locs → lv_has ls 8 [(0, .ref m0), (1, .int x1), (2, .int x2), (3, .int x3), (5, .int x5), (6, .int x6), (7, .int x7)] → (∀ (now : Nat → Int32) (H : Heap) (locs : List Loc) (ls : Array Slot), kx now = some (r, now', aside', found') → va_P g.1 vwK (wM g m0 m1 m2 m3 m4 m5 m6 m7 m8 m9 m10 m11 m12 now kept aside ik found carried T S) H → va_D A (wM g m0 m1 m2 m3 m4 m5 m6 m7 m8 m9 m10 m11 m12 now kept aside ik found carried T S) → va_S A s.heap H locs → lv_has ls 8 [(0, .ref m0), (1, .int x1), (2, .int x2), (3, .int x3), (5, .int x5), (6, .int x6)] → W p l e (rmm 10 226) s m args below meth c H locs 0 0 Qx (F0 m 110 ls [])) → W p l e (rmm 10 226) s m args below meth c H locs 0 0 Qx (F0 m 75 ls []) := by
    intro aside found x1 x2 x3 x5 x6 kx k
    induction k with
    | zero => intro now x7 H locs ls hf; exact nomatch (show (none : Option (Int32 × (Nat → Int32) × (Nat → Int32) × (Nat → Int32))) = some _ from hf)
    | succ k ih =>
      intro now x7 H locs ls hf hP hD hS hl hk
      rw [fX7_cloths_L75] at hf
      refine lv_iload hx hb dX7_cloths_75 (lv_at hl 6 rfl) ?_
      refine lv_aload_n hx hb dX7_cloths_77 rfl (lv_at hl 0 rfl) ?_
      refine va_get (D := g.1) (ci := 7) (v := .ref m1) (C := RX7) (T := TX7) (N := 22) hx hb hts i_X7_cloths_X7 hown hE.1 hP 0 rfl rfl 0 (by decide) w1 (fun _ h9 => h9) rfl dX7_cloths_78 ?_
      refine lv_iconst (v := (2 : Int32)) hx hb dX7_cloths_81 (by decide) ?_
      obtain ⟨x107, ex, hin, hf⟩ := rd_s hf
      refine st_iald (f := now) hx hb hE.1 hP 1 0 rfl rfl hin ex dX7_cloths_82 ?_
      refine lv_icmp_ge (tgt := 110) hx hb dX7_cloths_83 (by decide) (fun hc => ?_) (fun hc => ?_)
      · have hf := if_t hf hc
        exact hk _ _ _ _  hf hP hD hS (lv_sub hl [0, 1, 2, 3, 4, 5] rfl)
      · have hf := if_f hf hc
        refine lv_aload_n hx hb dX7_cloths_86 rfl (lv_at hl 0 rfl) ?_
        refine va_get (D := g.1) (ci := 7) (v := .ref m1) (C := RX7) (T := TX7) (N := 22) hx hb hts i_X7_cloths_X7 hown hE.1 hP 0 rfl rfl 0 (by decide) w1 (fun _ h9 => h9) rfl dX7_cloths_87 ?_
        refine lv_iload hx hb dX7_cloths_90 (lv_at hl 6 rfl) ?_
        refine lv_iconst (v := (5 : Int32)) hx hb dX7_cloths_92 (by decide) ?_
        obtain ⟨x108, hg, hf⟩ := o1_s hf
        refine Ct.callS (ws' := wM g m0 m1 m2 m3 m4 m5 m6 m7 m8 m9 m10 m11 m12 now kept aside ik found carried T S) (As := [.int x7, .int (5 : Int32)]) (rest := [.ref m1]) (st1 := [.int x108, .ref m1]) (c_X7_at l g x7 (5 : Int32) hg) (va_cwS 2 hts gX7_cloths_X7_at rfl rfl rfl q_X7_at.2 ⟨Nat.le_of_ble_eq_true rfl, Nat.le_of_ble_eq_true rfl⟩) ⟨hx, hb, hml, hown, hts⟩ hE hP hD hS hA [] rfl rfl rfl rfl rfl hl.1 rfl rfl (Nat.le_of_ble_eq_true rfl) dX7_cloths_93 (fun H locs hP hD hS => ?_)
        refine lv_iload hx hb dX7_cloths_96 (lv_at hl 5 rfl) ?_
        refine lv_iload hx hb dX7_cloths_98 (lv_at hl 6 rfl) ?_
        refine lv_ishr hx hb dX7_cloths_100 ?_
        refine lv_iconst (v := (1 : Int32)) hx hb dX7_cloths_101 (by decide) ?_
        refine lv_iand hx hb dX7_cloths_102 ?_
        obtain ⟨f109, ef, hin, hf⟩ := wr_s hf
        refine st_iast (ws' := wM g m0 m1 m2 m3 m4 m5 m6 m7 m8 m9 m10 m11 m12 f109 kept aside ik found carried T S) (f := now) (f2 := f109) hx hb hE.1 hP hD hS 1 0 rfl rfl hin ef rfl dX7_cloths_103 (fun H locs hP hD hS => ?_)
        refine lv_iinc (v := (x7 + (1 : Int32))) (lv' := [(7, .int (x7 + (1 : Int32))), (0, .ref m0), (1, .int x1), (2, .int x2), (3, .int x3), (5, .int x5), (6, .int x6)]) hx hb dX7_cloths_104 hl (k := 6) rfl rfl (by decide) rfl (fun ls hl => ?_)
        refine lv_goto (tgt := 75) hx hb dX7_cloths_107 (by decide) ?_
        exact ih _ _ _ _ _  hf hP hD hS (lv_sub hl [1, 2, 3, 4, 5, 6, 0] rfl) hk
  have L41 : ∀ (aside : Nat → Int32) (found : Nat → Int32) (x1 : Int32) (x2 : Int32) (x3 : Int32) (kx : (Nat → Int32) → Int32 → Option (Int32 × (Nat → Int32) × (Nat → Int32) × (Nat → Int32))) (k : Nat) (now : Nat → Int32) (x5 : Int32) (x6 : Int32) (H : Heap) (locs : List Loc) (ls : Array Slot), fX7_cloths_L41 aside x1 x2 x3 kx k now x5 x6 = some (r, now', aside', found') → va_P g.1 vwK (wM g m0 m1 m2 m3 m4 m5 m6 m7 m8 m9 m10 m11 m12 now kept aside ik found carried T S) H → va_D A (wM g m0 m1 m2 m3 m4 m5 m6 m7 m8 m9 m10 m11 m12 now kept aside ik found carried T S) → va_S A s.heap H locs → lv_has ls 8 [(0, .ref m0), (1, .int x1), (2, .int x2), (3, .int x3), (5, .int x5), (6, .int x6)] → (∀ (now : Nat → Int32) (x5 : Int32) (H : Heap) (locs : List Loc) (ls : Array Slot), kx now x5 = some (r, now', aside', found') → va_P g.1 vwK (wM g m0 m1 m2 m3 m4 m5 m6 m7 m8 m9 m10 m11 m12 now kept aside ik found carried T S) H → va_D A (wM g m0 m1 m2 m3 m4 m5 m6 m7 m8 m9 m10 m11 m12 now kept aside ik found carried T S) → va_S A s.heap H locs → lv_has ls 8 [(0, .ref m0), (5, .int x5)] → W p l e (rmm 10 226) s m args below meth c H locs 0 0 Qx (F0 m 135 ls [])) → W p l e (rmm 10 226) s m args below meth c H locs 0 0 Qx (F0 m 41 ls []) := by
    intro aside found x1 x2 x3 kx k
    induction k with
    | zero => intro now x5 x6 H locs ls hf; exact nomatch (show (none : Option (Int32 × (Nat → Int32) × (Nat → Int32) × (Nat → Int32))) = some _ from hf)
    | succ k ih =>
      intro now x5 x6 H locs ls hf hP hD hS hl hk
      rw [fX7_cloths_L41] at hf
      refine lv_iload hx hb dX7_cloths_41 (lv_at hl 5 rfl) ?_
      refine lv_iconst (v := (1 : Int32)) hx hb dX7_cloths_43 (by decide) ?_
      refine lv_aload_n hx hb dX7_cloths_44 rfl (lv_at hl 0 rfl) ?_
      refine va_get (D := g.1) (ci := 7) (v := .ref m1) (C := RX7) (T := TX7) (N := 22) hx hb hts i_X7_cloths_X7 hown hE.1 hP 0 rfl rfl 0 (by decide) w1 (fun _ h9 => h9) rfl dX7_cloths_45 ?_
      refine lv_iconst (v := (2 : Int32)) hx hb dX7_cloths_48 (by decide) ?_
      obtain ⟨x118, ex, hin, hf⟩ := rd_s hf
      refine st_iald (f := now) hx hb hE.1 hP 1 0 rfl rfl hin ex dX7_cloths_49 ?_
      refine lv_ishl hx hb dX7_cloths_50 ?_
      refine lv_icmp_ge (tgt := 135) hx hb dX7_cloths_51 (by decide) (fun hc => ?_) (fun hc => ?_)
      · have hf := if_t hf hc
        exact hk _ _ _ _ _  hf hP hD hS (lv_sub hl [0, 4] rfl)
      · have hf := if_f hf hc
        refine lv_iload hx hb dX7_cloths_54 (lv_at hl 4 rfl) ?_
        refine lv_if_lt (tgt := 72) hx hb dX7_cloths_56 (by decide) (fun hc => ?_) (fun hc => ?_)
        · have hf := if_t hf hc
          refine lv_iconst (v := (0 : Int32)) hx hb dX7_cloths_72 (by decide) ?_
          refine lv_istore (lv' := [(7, .int (0 : Int32)), (0, .ref m0), (1, .int x1), (2, .int x2), (3, .int x3), (5, .int x5), (6, .int x6)]) hx hb dX7_cloths_73 hl (by decide) rfl (fun ls hl => ?_)
          refine L75 _ _ _ _ _ _ _ _ _ _ _ _ _ _  hf hP hD hS (lv_sub hl [1, 2, 3, 4, 5, 6, 0] rfl) (fun now119 H locs ls hf hP hD hS hl => ?_)
          refine lv_aload_n hx hb dX7_cloths_110 rfl (lv_at hl 0 rfl) ?_
          refine lv_iload_n hx hb dX7_cloths_111 rfl (lv_at hl 1 rfl) ?_
          refine lv_iload_n hx hb dX7_cloths_112 rfl (lv_at hl 2 rfl) ?_
          refine lv_iload_n hx hb dX7_cloths_113 rfl (lv_at hl 3 rfl) ?_
          obtain ⟨x120, now121, hg, hf⟩ := o2_s hf
          refine Ct.callV0 (ws' := wM g m0 m1 m2 m3 m4 m5 m6 m7 m8 m9 m10 m11 m12 now121 kept aside ik found carried T S) (As := [.int x1, .int x2, .int x3]) (rest := []) (st1 := [.int x120]) (c_X7_leavesOpen l g m0 m1 m2 m3 m4 m5 m6 m7 m8 m9 m10 m11 m12 now119 kept aside ik found carried T S x1 x2 x3 hg) (cwV 3 hts gX7_cloths_X7_leavesOpen rfl rfl rfl q_X7_leavesOpen ⟨Nat.le_of_ble_eq_true rfl, Nat.le_of_ble_eq_true rfl⟩) ⟨hx, hb, hml, hown, hts⟩ hE hP hD hS hA 7 0 rfl rfl rfl rfl hl.1 rfl rfl (Nat.le_of_ble_eq_true rfl) dX7_cloths_114 (fun H locs hP hD hS => ?_)
          refine lv_if_eq (tgt := 125) hx hb dX7_cloths_117 (by decide) (fun hc => ?_) (fun hc => ?_)
          · have hf := if_t hf hc
            refine lv_iload hx hb dX7_cloths_125 (lv_at hl 4 rfl) ?_
            refine lv_istore (lv' := [(5, .int x5), (0, .ref m0), (1, .int x1), (2, .int x2), (3, .int x3), (6, .int x6)]) hx hb dX7_cloths_127 hl (by decide) rfl (fun ls hl => ?_)
            refine lv_iinc (v := (x6 + (1 : Int32))) (lv' := [(6, .int (x6 + (1 : Int32))), (5, .int x5), (0, .ref m0), (1, .int x1), (2, .int x2), (3, .int x3)]) hx hb dX7_cloths_129 hl (k := 5) rfl rfl (by decide) rfl (fun ls hl => ?_)
            refine lv_goto (tgt := 41) hx hb dX7_cloths_132 (by decide) ?_
            exact ih _ _ _ _ _ _  hf hP hD hS (lv_sub hl [2, 3, 4, 5, 1, 0] rfl) hk
          · have hf := if_f hf hc
            refine lv_iload hx hb dX7_cloths_120 (lv_at hl 5 rfl) ?_
            refine lv_goto (tgt := 127) hx hb dX7_cloths_122 (by decide) ?_
            refine lv_istore (lv' := [(5, .int x6), (0, .ref m0), (1, .int x1), (2, .int x2), (3, .int x3), (6, .int x6)]) hx hb dX7_cloths_127 hl (by decide) rfl (fun ls hl => ?_)
            refine lv_iinc (v := (x6 + (1 : Int32))) (lv' := [(6, .int (x6 + (1 : Int32))), (5, .int x6), (0, .ref m0), (1, .int x1), (2, .int x2), (3, .int x3)]) hx hb dX7_cloths_129 hl (k := 5) rfl rfl (by decide) rfl (fun ls hl => ?_)
            refine lv_goto (tgt := 41) hx hb dX7_cloths_132 (by decide) ?_
            exact ih _ _ _ _ _ _  hf hP hD hS (lv_sub hl [2, 3, 4, 5, 1, 0] rfl) hk
        · have hf := if_f hf hc
          refine lv_iload hx hb dX7_cloths_59 (lv_at hl 5 rfl) ?_
          obtain ⟨x122, hg, hf⟩ := o1_s hf
          refine Ct.callS (ws' := wM g m0 m1 m2 m3 m4 m5 m6 m7 m8 m9 m10 m11 m12 now kept aside ik found carried T S) (As := [.int x6]) (rest := []) (st1 := [.int x122]) (c_X7_bits l g x6 hg) (va_cwS 1 hts gX7_cloths_X7_bits rfl rfl rfl q_X7_bits.2 ⟨Nat.le_of_ble_eq_true rfl, Nat.le_of_ble_eq_true rfl⟩) ⟨hx, hb, hml, hown, hts⟩ hE hP hD hS hA [] rfl rfl rfl rfl rfl hl.1 rfl rfl (Nat.le_of_ble_eq_true rfl) dX7_cloths_61 (fun H locs hP hD hS => ?_)
          refine lv_iload hx hb dX7_cloths_64 (lv_at hl 4 rfl) ?_
          obtain ⟨x123, hg, hf⟩ := o1_s hf
          refine Ct.callS (ws' := wM g m0 m1 m2 m3 m4 m5 m6 m7 m8 m9 m10 m11 m12 now kept aside ik found carried T S) (As := [.int x5]) (rest := [.int x122]) (st1 := [.int x123, .int x122]) (c_X7_bits l g x5 hg) (va_cwS 1 hts gX7_cloths_X7_bits rfl rfl rfl q_X7_bits.2 ⟨Nat.le_of_ble_eq_true rfl, Nat.le_of_ble_eq_true rfl⟩) ⟨hx, hb, hml, hown, hts⟩ hE hP hD hS hA [] rfl rfl rfl rfl rfl hl.1 rfl rfl (Nat.le_of_ble_eq_true rfl) dX7_cloths_66 (fun H locs hP hD hS => ?_)
          refine lv_icmp_ge (tgt := 129) hx hb dX7_cloths_69 (by decide) (fun hc => ?_) (fun hc => ?_)
          · have hf := if_t hf hc
            refine lv_iinc (v := (x6 + (1 : Int32))) (lv' := [(6, .int (x6 + (1 : Int32))), (0, .ref m0), (1, .int x1), (2, .int x2), (3, .int x3), (5, .int x5)]) hx hb dX7_cloths_129 hl (k := 5) rfl rfl (by decide) rfl (fun ls hl => ?_)
            refine lv_goto (tgt := 41) hx hb dX7_cloths_132 (by decide) ?_
            exact ih _ _ _ _ _ _  hf hP hD hS (lv_sub hl [1, 2, 3, 4, 5, 0] rfl) hk
          · have hf := if_f hf hc
            refine lv_iconst (v := (0 : Int32)) hx hb dX7_cloths_72 (by decide) ?_
            refine lv_istore (lv' := [(7, .int (0 : Int32)), (0, .ref m0), (1, .int x1), (2, .int x2), (3, .int x3), (5, .int x5), (6, .int x6)]) hx hb dX7_cloths_73 hl (by decide) rfl (fun ls hl => ?_)
            refine L75 _ _ _ _ _ _ _ _ _ _ _ _ _ _  hf hP hD hS (lv_sub hl [1, 2, 3, 4, 5, 6, 0] rfl) (fun now124 H locs ls hf hP hD hS hl => ?_)
            refine lv_aload_n hx hb dX7_cloths_110 rfl (lv_at hl 0 rfl) ?_
            refine lv_iload_n hx hb dX7_cloths_111 rfl (lv_at hl 1 rfl) ?_
            refine lv_iload_n hx hb dX7_cloths_112 rfl (lv_at hl 2 rfl) ?_
            refine lv_iload_n hx hb dX7_cloths_113 rfl (lv_at hl 3 rfl) ?_
            obtain ⟨x125, now126, hg, hf⟩ := o2_s hf
            refine Ct.callV0 (ws' := wM g m0 m1 m2 m3 m4 m5 m6 m7 m8 m9 m10 m11 m12 now126 kept aside ik found carried T S) (As := [.int x1, .int x2, .int x3]) (rest := []) (st1 := [.int x125]) (c_X7_leavesOpen l g m0 m1 m2 m3 m4 m5 m6 m7 m8 m9 m10 m11 m12 now124 kept aside ik found carried T S x1 x2 x3 hg) (cwV 3 hts gX7_cloths_X7_leavesOpen rfl rfl rfl q_X7_leavesOpen ⟨Nat.le_of_ble_eq_true rfl, Nat.le_of_ble_eq_true rfl⟩) ⟨hx, hb, hml, hown, hts⟩ hE hP hD hS hA 7 0 rfl rfl rfl rfl hl.1 rfl rfl (Nat.le_of_ble_eq_true rfl) dX7_cloths_114 (fun H locs hP hD hS => ?_)
            refine lv_if_eq (tgt := 125) hx hb dX7_cloths_117 (by decide) (fun hc => ?_) (fun hc => ?_)
            · have hf := if_t hf hc
              refine lv_iload hx hb dX7_cloths_125 (lv_at hl 4 rfl) ?_
              refine lv_istore (lv' := [(5, .int x5), (0, .ref m0), (1, .int x1), (2, .int x2), (3, .int x3), (6, .int x6)]) hx hb dX7_cloths_127 hl (by decide) rfl (fun ls hl => ?_)
              refine lv_iinc (v := (x6 + (1 : Int32))) (lv' := [(6, .int (x6 + (1 : Int32))), (5, .int x5), (0, .ref m0), (1, .int x1), (2, .int x2), (3, .int x3)]) hx hb dX7_cloths_129 hl (k := 5) rfl rfl (by decide) rfl (fun ls hl => ?_)
              refine lv_goto (tgt := 41) hx hb dX7_cloths_132 (by decide) ?_
              exact ih _ _ _ _ _ _  hf hP hD hS (lv_sub hl [2, 3, 4, 5, 1, 0] rfl) hk
            · have hf := if_f hf hc
              refine lv_iload hx hb dX7_cloths_120 (lv_at hl 5 rfl) ?_
              refine lv_goto (tgt := 127) hx hb dX7_cloths_122 (by decide) ?_
              refine lv_istore (lv' := [(5, .int x6), (0, .ref m0), (1, .int x1), (2, .int x2), (3, .int x3), (6, .int x6)]) hx hb dX7_cloths_127 hl (by decide) rfl (fun ls hl => ?_)
              refine lv_iinc (v := (x6 + (1 : Int32))) (lv' := [(6, .int (x6 + (1 : Int32))), (5, .int x6), (0, .ref m0), (1, .int x1), (2, .int x2), (3, .int x3)]) hx hb dX7_cloths_129 hl (k := 5) rfl rfl (by decide) rfl (fun ls hl => ?_)
              refine lv_goto (tgt := 41) hx hb dX7_cloths_132 (by decide) ?_
              exact ih _ _ _ _ _ _  hf hP hD hS (lv_sub hl [2, 3, 4, 5, 1, 0] rfl) hk
  unfold fX7_cloths at hf
  refine lv_aload_n hx hb dX7_cloths_0 rfl (lv_at hl 0 rfl) ?_
  refine lv_iload_n hx hb dX7_cloths_1 rfl (lv_at hl 1 rfl) ?_
  refine lv_iload_n hx hb dX7_cloths_2 rfl (lv_at hl 2 rfl) ?_
  refine lv_iload_n hx hb dX7_cloths_3 rfl (lv_at hl 3 rfl) ?_
  refine lv_iconst (v := (1 : Int32)) hx hb dX7_cloths_4 (by decide) ?_
  refine lv_bipush (v := (20 : Int32)) hx hb dX7_cloths_5 (by decide) ?_
  obtain ⟨x101, hg, hf⟩ := o1_s hf
  refine Ct.callV0 (ws' := wM g m0 m1 m2 m3 m4 m5 m6 m7 m8 m9 m10 m11 m12 now kept aside ik found carried T S) (As := [.int a1, .int a2, .int a3, .int (1 : Int32), .int (20 : Int32)]) (rest := []) (st1 := [.int x101]) (c_X7_refuses l g m0 m1 m2 m3 m4 m5 m6 m7 m8 m9 m10 m11 m12 now kept aside ik found carried T S a1 a2 a3 (1 : Int32) (20 : Int32) hg) (cwV 5 hts gX7_cloths_X7_refuses rfl rfl rfl q_X7_refuses ⟨Nat.le_of_ble_eq_true rfl, Nat.le_of_ble_eq_true rfl⟩) ⟨hx, hb, hml, hown, hts⟩ hE hP hD hS hA 7 0 rfl rfl rfl rfl hl.1 rfl rfl (Nat.le_of_ble_eq_true rfl) dX7_cloths_7 (fun H locs hP hD hS => ?_)
  refine lv_istore (lv' := [(4, .int x101), (0, .ref m0), (1, .int a1), (2, .int a2), (3, .int a3)]) hx hb dX7_cloths_10 hl (by decide) rfl (fun ls hl => ?_)
  refine lv_iload hx hb dX7_cloths_12 (lv_at hl 0 rfl) ?_
  refine lv_if_eq (tgt := 24) hx hb dX7_cloths_14 (by decide) (fun hc => ?_) (fun hc => ?_)
  · have hf := if_t hf hc
    refine lv_aload_n hx hb dX7_cloths_24 rfl (lv_at hl 1 rfl) ?_
    refine va_get (D := g.1) (ci := 7) (v := .ref m1) (C := RX7) (T := TX7) (N := 22) hx hb hts i_X7_cloths_X7 hown hE.1 hP 0 rfl rfl 0 (by decide) w1 (fun _ h9 => h9) rfl dX7_cloths_25 ?_
    refine lv_aload_n hx hb dX7_cloths_28 rfl (lv_at hl 1 rfl) ?_
    refine va_get (D := g.1) (ci := 7) (v := .ref m3) (C := RX7) (T := TX7) (N := 22) hx hb hts i_X7_cloths_X7 hown hE.1 hP 0 rfl rfl 2 (by decide) w2 (fun _ h9 => h9) rfl dX7_cloths_29 ?_
    obtain ⟨f2102, hg, hf⟩ := o1_s hf
    refine Ct.callS (ws' := wM g m0 m1 m2 m3 m4 m5 m6 m7 m8 m9 m10 m11 m12 now kept f2102 ik found carried T S) (As := [.ref m1, .ref m3]) (rest := []) (st1 := []) (c_X7_copyRow l g m1 m3 120 now aside hg) (va_cwS 2 hts gX7_cloths_X7_copyRow rfl rfl rfl q_X7_copyRow.2 ⟨Nat.le_of_ble_eq_true rfl, Nat.le_of_ble_eq_true rfl⟩) ⟨hx, hb, hml, hown, hts⟩ hE hP hD hS hA [1, 3] rfl rfl rfl rfl rfl hl.1 rfl rfl (Nat.le_of_ble_eq_true rfl) dX7_cloths_32 (fun H locs hP hD hS => ?_)
    refine lv_iconst (v := (-1 : Int32)) hx hb dX7_cloths_35 (by decide) ?_
    refine lv_istore (lv' := [(5, .int (-1 : Int32)), (4, .int x101), (0, .ref m0), (1, .int a1), (2, .int a2), (3, .int a3)]) hx hb dX7_cloths_36 hl (by decide) rfl (fun ls hl => ?_)
    refine lv_iconst (v := (0 : Int32)) hx hb dX7_cloths_38 (by decide) ?_
    refine lv_istore (lv' := [(6, .int (0 : Int32)), (5, .int (-1 : Int32)), (4, .int x101), (0, .ref m0), (1, .int a1), (2, .int a2), (3, .int a3)]) hx hb dX7_cloths_39 hl (by decide) rfl (fun ls hl => ?_)
    refine L41 _ _ _ _ _ _ _ _ _ _ _ _ _  hf hP hD hS (lv_sub hl [3, 4, 5, 6, 1, 0] rfl) (fun now127 x128 H locs ls hf hP hD hS hl => ?_)
    refine lv_iload hx hb dX7_cloths_135 (lv_at hl 1 rfl) ?_
    refine lv_if_ge (tgt := 149) hx hb dX7_cloths_137 (by decide) (fun hc => ?_) (fun hc => ?_)
    · have hf := if_t hf hc
      refine lv_iload hx hb dX7_cloths_149 (lv_at hl 1 rfl) ?_
      obtain ⟨rfl, rfl, rfl, rfl⟩ := some_p4 hf
      rw [hQ]; exact Ct.iret hx hb hr hlocks hAe hP hD hS dX7_cloths_151
    · have hf := if_f hf hc
      refine lv_aload_n hx hb dX7_cloths_140 rfl (lv_at hl 0 rfl) ?_
      refine lv_ldc hx hb hown w3 dX7_cloths_141 ?_
      obtain ⟨x129, found130, hg, hf⟩ := o2_s hf
      refine Ct.callV0 (ws' := wM g m0 m1 m2 m3 m4 m5 m6 m7 m8 m9 m10 m11 m12 now127 kept f2102 ik found130 carried T S) (As := [.int (-1000004 : Int32)]) (rest := []) (st1 := [.int x129]) (c_X7_finding l g m0 m1 m2 m3 m4 m5 m6 m7 m8 m9 m10 m11 m12 now127 kept f2102 ik found carried T S (-1000004 : Int32) hg) (cwV 1 hts gX7_cloths_X7_finding rfl rfl rfl q_X7_finding ⟨Nat.le_of_ble_eq_true rfl, Nat.le_of_ble_eq_true rfl⟩) ⟨hx, hb, hml, hown, hts⟩ hE hP hD hS hA 7 0 rfl rfl rfl rfl hl.1 rfl rfl (Nat.le_of_ble_eq_true rfl) dX7_cloths_143 (fun H locs hP hD hS => ?_)
      refine lv_goto (tgt := 151) hx hb dX7_cloths_146 (by decide) ?_
      obtain ⟨rfl, rfl, rfl, rfl⟩ := some_p4 hf
      rw [hQ]; exact Ct.iret hx hb hr hlocks hAe hP hD hS dX7_cloths_151
  · have hf := if_f hf hc
    refine lv_aload_n hx hb dX7_cloths_17 rfl (lv_at hl 1 rfl) ?_
    refine lv_iload hx hb dX7_cloths_18 (lv_at hl 0 rfl) ?_
    obtain ⟨x131, found132, hg, hf⟩ := o2_s hf
    refine Ct.callV0 (ws' := wM g m0 m1 m2 m3 m4 m5 m6 m7 m8 m9 m10 m11 m12 now kept aside ik found132 carried T S) (As := [.int x101]) (rest := []) (st1 := [.int x131]) (c_X7_finding l g m0 m1 m2 m3 m4 m5 m6 m7 m8 m9 m10 m11 m12 now kept aside ik found carried T S x101 hg) (cwV 1 hts gX7_cloths_X7_finding rfl rfl rfl q_X7_finding ⟨Nat.le_of_ble_eq_true rfl, Nat.le_of_ble_eq_true rfl⟩) ⟨hx, hb, hml, hown, hts⟩ hE hP hD hS hA 7 0 rfl rfl rfl rfl hl.1 rfl rfl (Nat.le_of_ble_eq_true rfl) dX7_cloths_20 (fun H locs hP hD hS => ?_)
    obtain ⟨rfl, rfl, rfl, rfl⟩ := some_p4 hf
    rw [hQ]; exact Ct.iret hx hb hr hlocks hAe hP hD hS dX7_cloths_23
def fX7_guard_L50 (aside : Nat → Int32) (x1 : Int32) (x2 : Int32) (x3 : Int32) (x6 : Int32) (kx : (Nat → Int32) → Int32 → Option (Int32 × (Nat → Int32) × (Nat → Int32) × (Nat → Int32))) : Nat → (Nat → Int32) → Int32 → Int32 → Option (Int32 × (Nat → Int32) × (Nat → Int32) × (Nat → Int32))
  | 0, _, _, _ => none
  | k + 1, now, x5, x7 => rd now 120 (2 : Int32) (fun x110 => if x110 ≤ x7 then (kx now x5) else (if x6 = 0 then (kx now x5) else (if 0 ≤ x5 then (kx now x5) else (o1 (fX7_at x7 (4 : Int32)) (fun x111 => wr now 120 x111 (-1 : Int32) (fun f112 => o2 (fX7_leavesOpen f112 aside x1 x2 x3) (fun x113 now114 => if x113 = 0 then (fX7_guard_L50 aside x1 x2 x3 x6 kx k now114 x7 (x7 + (1 : Int32))) else (fX7_guard_L50 aside x1 x2 x3 x6 kx k now114 (-1 : Int32) (x7 + (1 : Int32))))))))))
def fX7_guard (now : Nat → Int32) (aside : Nat → Int32) (found : Nat → Int32) (a1 : Int32) (a2 : Int32) (a3 : Int32) : Option (Int32 × (Nat → Int32) × (Nat → Int32) × (Nat → Int32)) := o1 (fX7_refuses now a1 a2 a3 (1 : Int32) (20 : Int32)) (fun x101 => if x101 = 0 then (o1 (fX7_copyRow 120 now) (fun f2102 => o2 (fX7_leavesOpen now f2102 a1 a2 a3) (fun x103 now104 => fX7_guard_L50 f2102 a1 a2 a3 x103 (fun now115 x116 => if 0 ≤ x116 then (some (x116, now115, f2102, found)) else (o2 (fX7_finding found (-1000004 : Int32)) (fun x117 found118 => some (x117, now115, f2102, found118)))) fu now104 (-1 : Int32) (0 : Int32)))) else (o2 (fX7_finding found x101) (fun x119 found120 => some (x119, now, aside, found120))))
theorem q_X7_guard : yX7_guard.cls = RX7 ∧ yX7_guard.cls ≠ "java/lang/invoke/MethodHandle" ∧ yX7_guard.cls ≠ "java/lang/invoke/VarHandle" ∧ (parseMethodDescriptor yX7_guard.desc).map (fun d => d.parameters.length) = some 3 := by decide +kernel
theorem i_X7_guard_X7 : ∀ w ∈ u_ws RX7 TX7 22, w ∈ wsX7_guard := fun _ h => List.mem_cons_of_mem _ (List.mem_append_right _ (h))
set_option maxHeartbeats 4000000 in
set_option maxRecDepth 100000 in
theorem c_X7_guard (l : Launch) (g : gG) (m0 m1 m2 m3 m4 m5 m6 m7 m8 m9 m10 m11 m12 : Nat) (now : Nat → Int32) (kept : Nat → Int32) (aside : Nat → Int32) (ik : Int32) (found : Nat → Int32) (carried : Nat → Int32) (T : Mt) (S : Ms) (a1 : Int32) (a2 : Int32) (a3 : Int32) {r : Int32} {now' : Nat → Int32} {aside' : Nat → Int32} {found' : Nat → Int32} (hf : fX7_guard now aside found a1 a2 a3 = some (r, now', aside', found')) : Ct l yX7_guard wsX7_guard (rmm 10 226) g (wM g m0 m1 m2 m3 m4 m5 m6 m7 m8 m9 m10 m11 m12 now kept aside ik found carried T S) (wM g m0 m1 m2 m3 m4 m5 m6 m7 m8 m9 m10 m11 m12 (now') kept (aside') ik (found') carried T S) [.ref m0, .int a1, .int a2, .int a3] (some (.int r)) := by
  refine Ct.mk (by decide) rfl (Nat.le_of_ble_eq_true rfl) ?_
  intro p e s m args below meth c A ls hx hb hr hml hts hown hlocks hA hE hP hD hS hl hAe
  obtain ⟨Qx, hQ⟩ : ∃ Qx : State → Prop, Qx = MQ below (QcG g (wM g m0 m1 m2 m3 m4 m5 m6 m7 m8 m9 m10 m11 m12 now kept aside ik found carried T S) (wM g m0 m1 m2 m3 m4 m5 m6 m7 m8 m9 m10 m11 m12 (now') kept (aside') ik (found') carried T S) (some (.int r)) s.heap.size) args s 0 0 A := ⟨_, rfl⟩
  rw [← hQ]
  have hown : s.vm.findClass RX7 = some m.cls := hown
  have hl : lv_has ls 8 [(0, .ref m0), (1, .int a1), (2, .int a2), (3, .int a3)] := hl
  have w1 := hts (.fieldLink RX7 9 "RainVaultModel" "now" "[I") (List.mem_of_getElem? (i := 1) rfl)
  have w2 := hts (.fieldLink RX7 16 "RainVaultModel" "aside" "[I") (List.mem_of_getElem? (i := 2) rfl)
  have w3 := hts (.constant RX7 190 (-1000004)) (List.mem_of_getElem? (i := 3) rfl)
  have L50 : ∀ (aside : Nat → Int32) (found : Nat → Int32) (x1 : Int32) (x2 : Int32) (x3 : Int32) (x6 : Int32) (kx : (Nat → Int32) → Int32 → Option (Int32 × (Nat → Int32) × (Nat → Int32) × (Nat → Int32))) (k : Nat) (now : Nat → Int32) (x5 : Int32) (x7 : Int32) (H : Heap) (locs : List Loc) (ls : Array Slot), fX7_guard_L50 aside x1 x2 x3 x6 kx k now x5 x7 = some (r, now', aside', found') → va_P g.1 vwK (wM g m0 m1 m2 m3 m4 m5 m6 m7 m8 m9 m10 m11 m12 now kept aside ik found carried T S) H → va_D A (wM g m0 m1 m2 m3 m4 m5 m6 m7 m8 m9 m10 m11 m12 now kept aside ik found carried T S) → va_S A s.heap H locs → lv_has ls 8 [(0, .ref m0), (1, .int x1), (2, .int x2), (3, .int x3), (5, .int x5), (6, .int x6), (7, .int x7)] → (∀ (now : Nat → Int32) (x5 : Int32) (H : Heap) (locs : List Loc) (ls : Array Slot), kx now x5 = some (r, now', aside', found') → va_P g.1 vwK (wM g m0 m1 m2 m3 m4 m5 m6 m7 m8 m9 m10 m11 m12 now kept aside ik found carried T S) H → va_D A (wM g m0 m1 m2 m3 m4 m5 m6 m7 m8 m9 m10 m11 m12 now kept aside ik found carried T S) → va_S A s.heap H locs → lv_has ls 8 [(0, .ref m0), (5, .int x5)] → W p l e (rmm 10 226) s m args below meth c H locs 0 0 Qx (F0 m 107 ls [])) → W p l e (rmm 10 226) s m args below meth c H locs 0 0 Qx (F0 m 50 ls []) := by
    intro aside found x1 x2 x3 x6 kx k
    induction k with
    | zero => intro now x5 x7 H locs ls hf; exact nomatch (show (none : Option (Int32 × (Nat → Int32) × (Nat → Int32) × (Nat → Int32))) = some _ from hf)
    | succ k ih =>
      intro now x5 x7 H locs ls hf hP hD hS hl hk
      rw [fX7_guard_L50] at hf
      refine lv_iload hx hb dX7_guard_50 (lv_at hl 6 rfl) ?_
      refine lv_aload_n hx hb dX7_guard_52 rfl (lv_at hl 0 rfl) ?_
      refine va_get (D := g.1) (ci := 7) (v := .ref m1) (C := RX7) (T := TX7) (N := 22) hx hb hts i_X7_guard_X7 hown hE.1 hP 0 rfl rfl 0 (by decide) w1 (fun _ h9 => h9) rfl dX7_guard_53 ?_
      refine lv_iconst (v := (2 : Int32)) hx hb dX7_guard_56 (by decide) ?_
      obtain ⟨x110, ex, hin, hf⟩ := rd_s hf
      refine st_iald (f := now) hx hb hE.1 hP 1 0 rfl rfl hin ex dX7_guard_57 ?_
      refine lv_icmp_ge (tgt := 107) hx hb dX7_guard_58 (by decide) (fun hc => ?_) (fun hc => ?_)
      · have hf := if_t hf hc
        exact hk _ _ _ _ _  hf hP hD hS (lv_sub hl [0, 4] rfl)
      · have hf := if_f hf hc
        refine lv_iload hx hb dX7_guard_61 (lv_at hl 5 rfl) ?_
        refine lv_if_eq (tgt := 107) hx hb dX7_guard_63 (by decide) (fun hc => ?_) (fun hc => ?_)
        · have hf := if_t hf hc
          exact hk _ _ _ _ _  hf hP hD hS (lv_sub hl [0, 4] rfl)
        · have hf := if_f hf hc
          refine lv_iload hx hb dX7_guard_66 (lv_at hl 4 rfl) ?_
          refine lv_if_ge (tgt := 107) hx hb dX7_guard_68 (by decide) (fun hc => ?_) (fun hc => ?_)
          · have hf := if_t hf hc
            exact hk _ _ _ _ _  hf hP hD hS (lv_sub hl [0, 4] rfl)
          · have hf := if_f hf hc
            refine lv_aload_n hx hb dX7_guard_71 rfl (lv_at hl 0 rfl) ?_
            refine va_get (D := g.1) (ci := 7) (v := .ref m1) (C := RX7) (T := TX7) (N := 22) hx hb hts i_X7_guard_X7 hown hE.1 hP 0 rfl rfl 0 (by decide) w1 (fun _ h9 => h9) rfl dX7_guard_72 ?_
            refine lv_iload hx hb dX7_guard_75 (lv_at hl 6 rfl) ?_
            refine lv_iconst (v := (4 : Int32)) hx hb dX7_guard_77 (by decide) ?_
            obtain ⟨x111, hg, hf⟩ := o1_s hf
            refine Ct.callS (ws' := wM g m0 m1 m2 m3 m4 m5 m6 m7 m8 m9 m10 m11 m12 now kept aside ik found carried T S) (As := [.int x7, .int (4 : Int32)]) (rest := [.ref m1]) (st1 := [.int x111, .ref m1]) (c_X7_at l g x7 (4 : Int32) hg) (va_cwS 2 hts gX7_guard_X7_at rfl rfl rfl q_X7_at.2 ⟨Nat.le_of_ble_eq_true rfl, Nat.le_of_ble_eq_true rfl⟩) ⟨hx, hb, hml, hown, hts⟩ hE hP hD hS hA [] rfl rfl rfl rfl rfl hl.1 rfl rfl (Nat.le_of_ble_eq_true rfl) dX7_guard_78 (fun H locs hP hD hS => ?_)
            refine lv_iconst (v := (-1 : Int32)) hx hb dX7_guard_81 (by decide) ?_
            obtain ⟨f112, ef, hin, hf⟩ := wr_s hf
            refine st_iast (ws' := wM g m0 m1 m2 m3 m4 m5 m6 m7 m8 m9 m10 m11 m12 f112 kept aside ik found carried T S) (f := now) (f2 := f112) hx hb hE.1 hP hD hS 1 0 rfl rfl hin ef rfl dX7_guard_82 (fun H locs hP hD hS => ?_)
            refine lv_aload_n hx hb dX7_guard_83 rfl (lv_at hl 0 rfl) ?_
            refine lv_iload_n hx hb dX7_guard_84 rfl (lv_at hl 1 rfl) ?_
            refine lv_iload_n hx hb dX7_guard_85 rfl (lv_at hl 2 rfl) ?_
            refine lv_iload_n hx hb dX7_guard_86 rfl (lv_at hl 3 rfl) ?_
            obtain ⟨x113, now114, hg, hf⟩ := o2_s hf
            refine Ct.callV0 (ws' := wM g m0 m1 m2 m3 m4 m5 m6 m7 m8 m9 m10 m11 m12 now114 kept aside ik found carried T S) (As := [.int x1, .int x2, .int x3]) (rest := []) (st1 := [.int x113]) (c_X7_leavesOpen l g m0 m1 m2 m3 m4 m5 m6 m7 m8 m9 m10 m11 m12 f112 kept aside ik found carried T S x1 x2 x3 hg) (cwV 3 hts gX7_guard_X7_leavesOpen rfl rfl rfl q_X7_leavesOpen ⟨Nat.le_of_ble_eq_true rfl, Nat.le_of_ble_eq_true rfl⟩) ⟨hx, hb, hml, hown, hts⟩ hE hP hD hS hA 7 0 rfl rfl rfl rfl hl.1 rfl rfl (Nat.le_of_ble_eq_true rfl) dX7_guard_87 (fun H locs hP hD hS => ?_)
            refine lv_if_eq (tgt := 97) hx hb dX7_guard_90 (by decide) (fun hc => ?_) (fun hc => ?_)
            · have hf := if_t hf hc
              refine lv_iload hx hb dX7_guard_97 (lv_at hl 6 rfl) ?_
              refine lv_istore (lv' := [(5, .int x7), (0, .ref m0), (1, .int x1), (2, .int x2), (3, .int x3), (6, .int x6), (7, .int x7)]) hx hb dX7_guard_99 hl (by decide) rfl (fun ls hl => ?_)
              refine lv_iinc (v := (x7 + (1 : Int32))) (lv' := [(7, .int (x7 + (1 : Int32))), (5, .int x7), (0, .ref m0), (1, .int x1), (2, .int x2), (3, .int x3), (6, .int x6)]) hx hb dX7_guard_101 hl (k := 6) rfl rfl (by decide) rfl (fun ls hl => ?_)
              refine lv_goto (tgt := 50) hx hb dX7_guard_104 (by decide) ?_
              exact ih _ _ _ _ _ _  hf hP hD hS (lv_sub hl [2, 3, 4, 5, 1, 6, 0] rfl) hk
            · have hf := if_f hf hc
              refine lv_iconst (v := (-1 : Int32)) hx hb dX7_guard_93 (by decide) ?_
              refine lv_goto (tgt := 99) hx hb dX7_guard_94 (by decide) ?_
              refine lv_istore (lv' := [(5, .int (-1 : Int32)), (0, .ref m0), (1, .int x1), (2, .int x2), (3, .int x3), (6, .int x6), (7, .int x7)]) hx hb dX7_guard_99 hl (by decide) rfl (fun ls hl => ?_)
              refine lv_iinc (v := (x7 + (1 : Int32))) (lv' := [(7, .int (x7 + (1 : Int32))), (5, .int (-1 : Int32)), (0, .ref m0), (1, .int x1), (2, .int x2), (3, .int x3), (6, .int x6)]) hx hb dX7_guard_101 hl (k := 6) rfl rfl (by decide) rfl (fun ls hl => ?_)
              refine lv_goto (tgt := 50) hx hb dX7_guard_104 (by decide) ?_
              exact ih _ _ _ _ _ _  hf hP hD hS (lv_sub hl [2, 3, 4, 5, 1, 6, 0] rfl) hk
  unfold fX7_guard at hf
  refine lv_aload_n hx hb dX7_guard_0 rfl (lv_at hl 0 rfl) ?_
  refine lv_iload_n hx hb dX7_guard_1 rfl (lv_at hl 1 rfl) ?_
  refine lv_iload_n hx hb dX7_guard_2 rfl (lv_at hl 2 rfl) ?_
  refine lv_iload_n hx hb dX7_guard_3 rfl (lv_at hl 3 rfl) ?_
  refine lv_iconst (v := (1 : Int32)) hx hb dX7_guard_4 (by decide) ?_
  refine lv_bipush (v := (20 : Int32)) hx hb dX7_guard_5 (by decide) ?_
  obtain ⟨x101, hg, hf⟩ := o1_s hf
  refine Ct.callV0 (ws' := wM g m0 m1 m2 m3 m4 m5 m6 m7 m8 m9 m10 m11 m12 now kept aside ik found carried T S) (As := [.int a1, .int a2, .int a3, .int (1 : Int32), .int (20 : Int32)]) (rest := []) (st1 := [.int x101]) (c_X7_refuses l g m0 m1 m2 m3 m4 m5 m6 m7 m8 m9 m10 m11 m12 now kept aside ik found carried T S a1 a2 a3 (1 : Int32) (20 : Int32) hg) (cwV 5 hts gX7_guard_X7_refuses rfl rfl rfl q_X7_refuses ⟨Nat.le_of_ble_eq_true rfl, Nat.le_of_ble_eq_true rfl⟩) ⟨hx, hb, hml, hown, hts⟩ hE hP hD hS hA 7 0 rfl rfl rfl rfl hl.1 rfl rfl (Nat.le_of_ble_eq_true rfl) dX7_guard_7 (fun H locs hP hD hS => ?_)
  refine lv_istore (lv' := [(4, .int x101), (0, .ref m0), (1, .int a1), (2, .int a2), (3, .int a3)]) hx hb dX7_guard_10 hl (by decide) rfl (fun ls hl => ?_)
  refine lv_iload hx hb dX7_guard_12 (lv_at hl 0 rfl) ?_
  refine lv_if_eq (tgt := 24) hx hb dX7_guard_14 (by decide) (fun hc => ?_) (fun hc => ?_)
  · have hf := if_t hf hc
    refine lv_aload_n hx hb dX7_guard_24 rfl (lv_at hl 1 rfl) ?_
    refine va_get (D := g.1) (ci := 7) (v := .ref m1) (C := RX7) (T := TX7) (N := 22) hx hb hts i_X7_guard_X7 hown hE.1 hP 0 rfl rfl 0 (by decide) w1 (fun _ h9 => h9) rfl dX7_guard_25 ?_
    refine lv_aload_n hx hb dX7_guard_28 rfl (lv_at hl 1 rfl) ?_
    refine va_get (D := g.1) (ci := 7) (v := .ref m3) (C := RX7) (T := TX7) (N := 22) hx hb hts i_X7_guard_X7 hown hE.1 hP 0 rfl rfl 2 (by decide) w2 (fun _ h9 => h9) rfl dX7_guard_29 ?_
    obtain ⟨f2102, hg, hf⟩ := o1_s hf
    refine Ct.callS (ws' := wM g m0 m1 m2 m3 m4 m5 m6 m7 m8 m9 m10 m11 m12 now kept f2102 ik found carried T S) (As := [.ref m1, .ref m3]) (rest := []) (st1 := []) (c_X7_copyRow l g m1 m3 120 now aside hg) (va_cwS 2 hts gX7_guard_X7_copyRow rfl rfl rfl q_X7_copyRow.2 ⟨Nat.le_of_ble_eq_true rfl, Nat.le_of_ble_eq_true rfl⟩) ⟨hx, hb, hml, hown, hts⟩ hE hP hD hS hA [1, 3] rfl rfl rfl rfl rfl hl.1 rfl rfl (Nat.le_of_ble_eq_true rfl) dX7_guard_32 (fun H locs hP hD hS => ?_)
    refine lv_iconst (v := (-1 : Int32)) hx hb dX7_guard_35 (by decide) ?_
    refine lv_istore (lv' := [(5, .int (-1 : Int32)), (4, .int x101), (0, .ref m0), (1, .int a1), (2, .int a2), (3, .int a3)]) hx hb dX7_guard_36 hl (by decide) rfl (fun ls hl => ?_)
    refine lv_aload_n hx hb dX7_guard_38 rfl (lv_at hl 2 rfl) ?_
    refine lv_iload_n hx hb dX7_guard_39 rfl (lv_at hl 3 rfl) ?_
    refine lv_iload_n hx hb dX7_guard_40 rfl (lv_at hl 4 rfl) ?_
    refine lv_iload_n hx hb dX7_guard_41 rfl (lv_at hl 5 rfl) ?_
    obtain ⟨x103, now104, hg, hf⟩ := o2_s hf
    refine Ct.callV0 (ws' := wM g m0 m1 m2 m3 m4 m5 m6 m7 m8 m9 m10 m11 m12 now104 kept f2102 ik found carried T S) (As := [.int a1, .int a2, .int a3]) (rest := []) (st1 := [.int x103]) (c_X7_leavesOpen l g m0 m1 m2 m3 m4 m5 m6 m7 m8 m9 m10 m11 m12 now kept f2102 ik found carried T S a1 a2 a3 hg) (cwV 3 hts gX7_guard_X7_leavesOpen rfl rfl rfl q_X7_leavesOpen ⟨Nat.le_of_ble_eq_true rfl, Nat.le_of_ble_eq_true rfl⟩) ⟨hx, hb, hml, hown, hts⟩ hE hP hD hS hA 7 0 rfl rfl rfl rfl hl.1 rfl rfl (Nat.le_of_ble_eq_true rfl) dX7_guard_42 (fun H locs hP hD hS => ?_)
    refine lv_istore (lv' := [(6, .int x103), (5, .int (-1 : Int32)), (4, .int x101), (0, .ref m0), (1, .int a1), (2, .int a2), (3, .int a3)]) hx hb dX7_guard_45 hl (by decide) rfl (fun ls hl => ?_)
    refine lv_iconst (v := (0 : Int32)) hx hb dX7_guard_47 (by decide) ?_
    refine lv_istore (lv' := [(7, .int (0 : Int32)), (6, .int x103), (5, .int (-1 : Int32)), (4, .int x101), (0, .ref m0), (1, .int a1), (2, .int a2), (3, .int a3)]) hx hb dX7_guard_48 hl (by decide) rfl (fun ls hl => ?_)
    refine L50 _ _ _ _ _ _ _ _ _ _ _ _ _ _  hf hP hD hS (lv_sub hl [4, 5, 6, 7, 2, 1, 0] rfl) (fun now115 x116 H locs ls hf hP hD hS hl => ?_)
    refine lv_iload hx hb dX7_guard_107 (lv_at hl 1 rfl) ?_
    refine lv_if_ge (tgt := 121) hx hb dX7_guard_109 (by decide) (fun hc => ?_) (fun hc => ?_)
    · have hf := if_t hf hc
      refine lv_iload hx hb dX7_guard_121 (lv_at hl 1 rfl) ?_
      obtain ⟨rfl, rfl, rfl, rfl⟩ := some_p4 hf
      rw [hQ]; exact Ct.iret hx hb hr hlocks hAe hP hD hS dX7_guard_123
    · have hf := if_f hf hc
      refine lv_aload_n hx hb dX7_guard_112 rfl (lv_at hl 0 rfl) ?_
      refine lv_ldc hx hb hown w3 dX7_guard_113 ?_
      obtain ⟨x117, found118, hg, hf⟩ := o2_s hf
      refine Ct.callV0 (ws' := wM g m0 m1 m2 m3 m4 m5 m6 m7 m8 m9 m10 m11 m12 now115 kept f2102 ik found118 carried T S) (As := [.int (-1000004 : Int32)]) (rest := []) (st1 := [.int x117]) (c_X7_finding l g m0 m1 m2 m3 m4 m5 m6 m7 m8 m9 m10 m11 m12 now115 kept f2102 ik found carried T S (-1000004 : Int32) hg) (cwV 1 hts gX7_guard_X7_finding rfl rfl rfl q_X7_finding ⟨Nat.le_of_ble_eq_true rfl, Nat.le_of_ble_eq_true rfl⟩) ⟨hx, hb, hml, hown, hts⟩ hE hP hD hS hA 7 0 rfl rfl rfl rfl hl.1 rfl rfl (Nat.le_of_ble_eq_true rfl) dX7_guard_115 (fun H locs hP hD hS => ?_)
      refine lv_goto (tgt := 123) hx hb dX7_guard_118 (by decide) ?_
      obtain ⟨rfl, rfl, rfl, rfl⟩ := some_p4 hf
      rw [hQ]; exact Ct.iret hx hb hr hlocks hAe hP hD hS dX7_guard_123
  · have hf := if_f hf hc
    refine lv_aload_n hx hb dX7_guard_17 rfl (lv_at hl 1 rfl) ?_
    refine lv_iload hx hb dX7_guard_18 (lv_at hl 0 rfl) ?_
    obtain ⟨x119, found120, hg, hf⟩ := o2_s hf
    refine Ct.callV0 (ws' := wM g m0 m1 m2 m3 m4 m5 m6 m7 m8 m9 m10 m11 m12 now kept aside ik found120 carried T S) (As := [.int x101]) (rest := []) (st1 := [.int x119]) (c_X7_finding l g m0 m1 m2 m3 m4 m5 m6 m7 m8 m9 m10 m11 m12 now kept aside ik found carried T S x101 hg) (cwV 1 hts gX7_guard_X7_finding rfl rfl rfl q_X7_finding ⟨Nat.le_of_ble_eq_true rfl, Nat.le_of_ble_eq_true rfl⟩) ⟨hx, hb, hml, hown, hts⟩ hE hP hD hS hA 7 0 rfl rfl rfl rfl hl.1 rfl rfl (Nat.le_of_ble_eq_true rfl) dX7_guard_20 (fun H locs hP hD hS => ?_)
    obtain ⟨rfl, rfl, rfl, rfl⟩ := some_p4 hf
    rw [hQ]; exact Ct.iret hx hb hr hlocks hAe hP hD hS dX7_guard_23
def fX7_weak_L20 (aside : Nat → Int32) (x2 : Int32) (kx : (Nat → Int32) → (Nat → Int32) → Int32 → Option (Int32 × (Nat → Int32) × (Nat → Int32) × (Nat → Int32))) : Nat → (Nat → Int32) → (Nat → Int32) → Int32 → Int32 → Option (Int32 × (Nat → Int32) × (Nat → Int32) × (Nat → Int32))
  | 0, _, _, _, _ => none
  | k + 1, now, carried, x1, x3 => rd now 120 (3 : Int32) (fun x112 => if x112 ≤ x3 then (kx now carried x1) else (o1 (fX7_takeOff now x3) (fun now113 => o3 (fX7_bucketsNow now113 carried) (fun x114 now115 carried116 => o2 (fX7_putBack now115 aside x114) (fun x117 now118 => if x117 = x2 then (fX7_weak_L20 aside x2 kx k now118 carried116 (x1 ||| (0 : Int32)) (x3 + (1 : Int32))) else (fX7_weak_L20 aside x2 kx k now118 carried116 (x1 ||| ((1 : Int32) <<< (x3 &&& 31))) (x3 + (1 : Int32))))))))
def fX7_weak (now : Nat → Int32) (aside : Nat → Int32) (carried : Nat → Int32) : Option (Int32 × (Nat → Int32) × (Nat → Int32) × (Nat → Int32)) := o1 (fX7_copyRow 120 now) (fun f2101 => o3 (fX7_bucketsNow now carried) (fun x102 now103 carried104 => fX7_weak_L20 f2101 x102 (fun now119 carried120 x121 => some (x121, now119, f2101, carried120)) fu now103 carried104 (0 : Int32) (0 : Int32)))
theorem q_X7_weak : yX7_weak.cls = RX7 ∧ yX7_weak.cls ≠ "java/lang/invoke/MethodHandle" ∧ yX7_weak.cls ≠ "java/lang/invoke/VarHandle" ∧ (parseMethodDescriptor yX7_weak.desc).map (fun d => d.parameters.length) = some 0 := by decide +kernel
theorem i_X7_weak_X7 : ∀ w ∈ u_ws RX7 TX7 22, w ∈ wsX7_weak := fun _ h => List.mem_cons_of_mem _ (List.mem_append_right _ (h))
set_option maxHeartbeats 4000000 in
set_option maxRecDepth 100000 in
theorem c_X7_weak (l : Launch) (g : gG) (m0 m1 m2 m3 m4 m5 m6 m7 m8 m9 m10 m11 m12 : Nat) (now : Nat → Int32) (kept : Nat → Int32) (aside : Nat → Int32) (ik : Int32) (found : Nat → Int32) (carried : Nat → Int32) (T : Mt) (S : Ms) {r : Int32} {now' : Nat → Int32} {aside' : Nat → Int32} {carried' : Nat → Int32} (hf : fX7_weak now aside carried = some (r, now', aside', carried')) : Ct l yX7_weak wsX7_weak (rmm 12 278) g (wM g m0 m1 m2 m3 m4 m5 m6 m7 m8 m9 m10 m11 m12 now kept aside ik found carried T S) (wM g m0 m1 m2 m3 m4 m5 m6 m7 m8 m9 m10 m11 m12 (now') kept (aside') ik found (carried') T S) [.ref m0] (some (.int r)) := by
  refine Ct.mk (by decide) rfl (Nat.le_of_ble_eq_true rfl) ?_
  intro p e s m args below meth c A ls hx hb hr hml hts hown hlocks hA hE hP hD hS hl hAe
  obtain ⟨Qx, hQ⟩ : ∃ Qx : State → Prop, Qx = MQ below (QcG g (wM g m0 m1 m2 m3 m4 m5 m6 m7 m8 m9 m10 m11 m12 now kept aside ik found carried T S) (wM g m0 m1 m2 m3 m4 m5 m6 m7 m8 m9 m10 m11 m12 (now') kept (aside') ik found (carried') T S) (some (.int r)) s.heap.size) args s 0 0 A := ⟨_, rfl⟩
  rw [← hQ]
  have hown : s.vm.findClass RX7 = some m.cls := hown
  have hl : lv_has ls 5 [(0, .ref m0)] := hl
  have w1 := hts (.fieldLink RX7 9 "RainVaultModel" "now" "[I") (List.mem_of_getElem? (i := 1) rfl)
  have w2 := hts (.fieldLink RX7 16 "RainVaultModel" "aside" "[I") (List.mem_of_getElem? (i := 2) rfl)
  have L20 : ∀ (aside : Nat → Int32) (x2 : Int32) (kx : (Nat → Int32) → (Nat → Int32) → Int32 → Option (Int32 × (Nat → Int32) × (Nat → Int32) × (Nat → Int32))) (k : Nat) (now : Nat → Int32) (carried : Nat → Int32) (x1 : Int32) (x3 : Int32) (H : Heap) (locs : List Loc) (ls : Array Slot), fX7_weak_L20 aside x2 kx k now carried x1 x3 = some (r, now', aside', carried') → va_P g.1 vwK (wM g m0 m1 m2 m3 m4 m5 m6 m7 m8 m9 m10 m11 m12 now kept aside ik found carried T S) H → va_D A (wM g m0 m1 m2 m3 m4 m5 m6 m7 m8 m9 m10 m11 m12 now kept aside ik found carried T S) → va_S A s.heap H locs → lv_has ls 5 [(0, .ref m0), (1, .int x1), (2, .int x2), (3, .int x3)] → (∀ (now : Nat → Int32) (carried : Nat → Int32) (x1 : Int32) (H : Heap) (locs : List Loc) (ls : Array Slot), kx now carried x1 = some (r, now', aside', carried') → va_P g.1 vwK (wM g m0 m1 m2 m3 m4 m5 m6 m7 m8 m9 m10 m11 m12 now kept aside ik found carried T S) H → va_D A (wM g m0 m1 m2 m3 m4 m5 m6 m7 m8 m9 m10 m11 m12 now kept aside ik found carried T S) → va_S A s.heap H locs → lv_has ls 5 [(1, .int x1)] → W p l e (rmm 12 278) s m args below meth c H locs 0 0 Qx (F0 m 67 ls [])) → W p l e (rmm 12 278) s m args below meth c H locs 0 0 Qx (F0 m 20 ls []) := by
    intro aside x2 kx k
    induction k with
    | zero => intro now carried x1 x3 H locs ls hf; exact nomatch (show (none : Option (Int32 × (Nat → Int32) × (Nat → Int32) × (Nat → Int32))) = some _ from hf)
    | succ k ih =>
      intro now carried x1 x3 H locs ls hf hP hD hS hl hk
      rw [fX7_weak_L20] at hf
      refine lv_iload_n hx hb dX7_weak_20 rfl (lv_at hl 3 rfl) ?_
      refine lv_aload_n hx hb dX7_weak_21 rfl (lv_at hl 0 rfl) ?_
      refine va_get (D := g.1) (ci := 7) (v := .ref m1) (C := RX7) (T := TX7) (N := 22) hx hb hts i_X7_weak_X7 hown hE.1 hP 0 rfl rfl 0 (by decide) w1 (fun _ h9 => h9) rfl dX7_weak_22 ?_
      refine lv_iconst (v := (3 : Int32)) hx hb dX7_weak_25 (by decide) ?_
      obtain ⟨x112, ex, hin, hf⟩ := rd_s hf
      refine st_iald (f := now) hx hb hE.1 hP 1 0 rfl rfl hin ex dX7_weak_26 ?_
      refine lv_icmp_ge (tgt := 67) hx hb dX7_weak_27 (by decide) (fun hc => ?_) (fun hc => ?_)
      · have hf := if_t hf hc
        exact hk _ _ _ _ _ _  hf hP hD hS (lv_sub hl [1] rfl)
      · have hf := if_f hf hc
        refine lv_aload_n hx hb dX7_weak_30 rfl (lv_at hl 0 rfl) ?_
        refine lv_iload_n hx hb dX7_weak_31 rfl (lv_at hl 3 rfl) ?_
        obtain ⟨now113, hg, hf⟩ := o1_s hf
        refine Ct.callV0 (ws' := wM g m0 m1 m2 m3 m4 m5 m6 m7 m8 m9 m10 m11 m12 now113 kept aside ik found carried T S) (As := [.int x3]) (rest := []) (st1 := []) (c_X7_takeOff l g m0 m1 m2 m3 m4 m5 m6 m7 m8 m9 m10 m11 m12 now kept aside ik found carried T S x3 hg) (cwV 1 hts gX7_weak_X7_takeOff rfl rfl rfl q_X7_takeOff ⟨Nat.le_of_ble_eq_true rfl, Nat.le_of_ble_eq_true rfl⟩) ⟨hx, hb, hml, hown, hts⟩ hE hP hD hS hA 7 0 rfl rfl rfl rfl hl.1 rfl rfl (Nat.le_of_ble_eq_true rfl) dX7_weak_32 (fun H locs hP hD hS => ?_)
        refine lv_aload_n hx hb dX7_weak_35 rfl (lv_at hl 0 rfl) ?_
        refine lv_aload_n hx hb dX7_weak_36 rfl (lv_at hl 0 rfl) ?_
        obtain ⟨x114, now115, carried116, hg, hf⟩ := o3_s hf
        refine Ct.callV0 (ws' := wM g m0 m1 m2 m3 m4 m5 m6 m7 m8 m9 m10 m11 m12 now115 kept aside ik found carried116 T S) (As := []) (rest := [.ref m0]) (st1 := [.int x114, .ref m0]) (c_X7_bucketsNow l g m0 m1 m2 m3 m4 m5 m6 m7 m8 m9 m10 m11 m12 now113 kept aside ik found carried T S hg) (cwV 0 hts gX7_weak_X7_bucketsNow rfl rfl rfl q_X7_bucketsNow ⟨Nat.le_of_ble_eq_true rfl, Nat.le_of_ble_eq_true rfl⟩) ⟨hx, hb, hml, hown, hts⟩ hE hP hD hS hA 7 0 rfl rfl rfl rfl hl.1 rfl rfl (Nat.le_of_ble_eq_true rfl) dX7_weak_37 (fun H locs hP hD hS => ?_)
        obtain ⟨x117, now118, hg, hf⟩ := o2_s hf
        refine Ct.callV0 (ws' := wM g m0 m1 m2 m3 m4 m5 m6 m7 m8 m9 m10 m11 m12 now118 kept aside ik found carried116 T S) (As := [.int x114]) (rest := []) (st1 := [.int x117]) (c_X7_putBack l g m0 m1 m2 m3 m4 m5 m6 m7 m8 m9 m10 m11 m12 now115 kept aside ik found carried116 T S x114 hg) (cwV 1 hts gX7_weak_X7_putBack rfl rfl rfl q_X7_putBack ⟨Nat.le_of_ble_eq_true rfl, Nat.le_of_ble_eq_true rfl⟩) ⟨hx, hb, hml, hown, hts⟩ hE hP hD hS hA 7 0 rfl rfl rfl rfl hl.1 rfl rfl (Nat.le_of_ble_eq_true rfl) dX7_weak_40 (fun H locs hP hD hS => ?_)
        refine lv_istore (lv' := [(4, .int x117), (0, .ref m0), (1, .int x1), (2, .int x2), (3, .int x3)]) hx hb dX7_weak_43 hl (by decide) rfl (fun ls hl => ?_)
        refine lv_iload_n hx hb dX7_weak_45 rfl (lv_at hl 2 rfl) ?_
        refine lv_iload hx hb dX7_weak_46 (lv_at hl 0 rfl) ?_
        refine lv_iload_n hx hb dX7_weak_48 rfl (lv_at hl 3 rfl) ?_
        refine lv_icmp_ne (tgt := 56) hx hb dX7_weak_49 (by decide) (fun hc => ?_) (fun hc => ?_)
        · have hf := if_f hf hc
          refine lv_iconst (v := (1 : Int32)) hx hb dX7_weak_56 (by decide) ?_
          refine lv_iload_n hx hb dX7_weak_57 rfl (lv_at hl 4 rfl) ?_
          refine lv_ishl hx hb dX7_weak_58 ?_
          refine lv_ior hx hb dX7_weak_59 ?_
          refine lv_istore_n (lv' := [(1, .int (x1 ||| ((1 : Int32) <<< (x3 &&& 31)))), (4, .int x117), (0, .ref m0), (2, .int x2), (3, .int x3)]) hx hb dX7_weak_60 rfl hl (by decide) rfl (fun ls hl => ?_)
          refine lv_iinc (v := (x3 + (1 : Int32))) (lv' := [(3, .int (x3 + (1 : Int32))), (1, .int (x1 ||| ((1 : Int32) <<< (x3 &&& 31)))), (4, .int x117), (0, .ref m0), (2, .int x2)]) hx hb dX7_weak_61 hl (k := 4) rfl rfl (by decide) rfl (fun ls hl => ?_)
          refine lv_goto (tgt := 20) hx hb dX7_weak_64 (by decide) ?_
          exact ih _ _ _ _ _ _ _  hf hP hD hS (lv_sub hl [3, 1, 4, 0] rfl) hk
        · have hf := if_t hf hc
          refine lv_iconst (v := (0 : Int32)) hx hb dX7_weak_52 (by decide) ?_
          refine lv_goto (tgt := 59) hx hb dX7_weak_53 (by decide) ?_
          refine lv_ior hx hb dX7_weak_59 ?_
          refine lv_istore_n (lv' := [(1, .int (x1 ||| (0 : Int32))), (4, .int x117), (0, .ref m0), (2, .int x2), (3, .int x3)]) hx hb dX7_weak_60 rfl hl (by decide) rfl (fun ls hl => ?_)
          refine lv_iinc (v := (x3 + (1 : Int32))) (lv' := [(3, .int (x3 + (1 : Int32))), (1, .int (x1 ||| (0 : Int32))), (4, .int x117), (0, .ref m0), (2, .int x2)]) hx hb dX7_weak_61 hl (k := 4) rfl rfl (by decide) rfl (fun ls hl => ?_)
          refine lv_goto (tgt := 20) hx hb dX7_weak_64 (by decide) ?_
          exact ih _ _ _ _ _ _ _  hf hP hD hS (lv_sub hl [3, 1, 4, 0] rfl) hk
  unfold fX7_weak at hf
  refine lv_aload_n hx hb dX7_weak_0 rfl (lv_at hl 0 rfl) ?_
  refine va_get (D := g.1) (ci := 7) (v := .ref m1) (C := RX7) (T := TX7) (N := 22) hx hb hts i_X7_weak_X7 hown hE.1 hP 0 rfl rfl 0 (by decide) w1 (fun _ h9 => h9) rfl dX7_weak_1 ?_
  refine lv_aload_n hx hb dX7_weak_4 rfl (lv_at hl 0 rfl) ?_
  refine va_get (D := g.1) (ci := 7) (v := .ref m3) (C := RX7) (T := TX7) (N := 22) hx hb hts i_X7_weak_X7 hown hE.1 hP 0 rfl rfl 2 (by decide) w2 (fun _ h9 => h9) rfl dX7_weak_5 ?_
  obtain ⟨f2101, hg, hf⟩ := o1_s hf
  refine Ct.callS (ws' := wM g m0 m1 m2 m3 m4 m5 m6 m7 m8 m9 m10 m11 m12 now kept f2101 ik found carried T S) (As := [.ref m1, .ref m3]) (rest := []) (st1 := []) (c_X7_copyRow l g m1 m3 120 now aside hg) (va_cwS 2 hts gX7_weak_X7_copyRow rfl rfl rfl q_X7_copyRow.2 ⟨Nat.le_of_ble_eq_true rfl, Nat.le_of_ble_eq_true rfl⟩) ⟨hx, hb, hml, hown, hts⟩ hE hP hD hS hA [1, 3] rfl rfl rfl rfl rfl hl.1 rfl rfl (Nat.le_of_ble_eq_true rfl) dX7_weak_8 (fun H locs hP hD hS => ?_)
  refine lv_iconst (v := (0 : Int32)) hx hb dX7_weak_11 (by decide) ?_
  refine lv_istore_n (lv' := [(1, .int (0 : Int32)), (0, .ref m0)]) hx hb dX7_weak_12 rfl hl (by decide) rfl (fun ls hl => ?_)
  refine lv_aload_n hx hb dX7_weak_13 rfl (lv_at hl 1 rfl) ?_
  obtain ⟨x102, now103, carried104, hg, hf⟩ := o3_s hf
  refine Ct.callV0 (ws' := wM g m0 m1 m2 m3 m4 m5 m6 m7 m8 m9 m10 m11 m12 now103 kept f2101 ik found carried104 T S) (As := []) (rest := []) (st1 := [.int x102]) (c_X7_bucketsNow l g m0 m1 m2 m3 m4 m5 m6 m7 m8 m9 m10 m11 m12 now kept f2101 ik found carried T S hg) (cwV 0 hts gX7_weak_X7_bucketsNow rfl rfl rfl q_X7_bucketsNow ⟨Nat.le_of_ble_eq_true rfl, Nat.le_of_ble_eq_true rfl⟩) ⟨hx, hb, hml, hown, hts⟩ hE hP hD hS hA 7 0 rfl rfl rfl rfl hl.1 rfl rfl (Nat.le_of_ble_eq_true rfl) dX7_weak_14 (fun H locs hP hD hS => ?_)
  refine lv_istore_n (lv' := [(2, .int x102), (1, .int (0 : Int32)), (0, .ref m0)]) hx hb dX7_weak_17 rfl hl (by decide) rfl (fun ls hl => ?_)
  refine lv_iconst (v := (0 : Int32)) hx hb dX7_weak_18 (by decide) ?_
  refine lv_istore_n (lv' := [(3, .int (0 : Int32)), (2, .int x102), (1, .int (0 : Int32)), (0, .ref m0)]) hx hb dX7_weak_19 rfl hl (by decide) rfl (fun ls hl => ?_)
  refine L20 _ _ _ _ _ _ _ _ _ _ _  hf hP hD hS (lv_sub hl [3, 2, 1, 0] rfl) (fun now119 carried120 x121 H locs ls hf hP hD hS hl => ?_)
  refine lv_iload_n hx hb dX7_weak_67 rfl (lv_at hl 0 rfl) ?_
  obtain ⟨rfl, rfl, rfl, rfl⟩ := some_p4 hf
  rw [hQ]; exact Ct.iret hx hb hr hlocks hAe hP hD hS dX7_weak_68
