def fX7_leaks_L75 (aside : Nat → Int32) (x1 : Int32) (x2 : Int32) (x3 : Int32) (x4 : Int32) (x5 : Int32) (kx : (Nat → Int32) → Int32 → Option (Int32 × (Nat → Int32) × (Nat → Int32) × (Nat → Int32))) : Nat → (Nat → Int32) → Int32 → Int32 → Option (Int32 × (Nat → Int32) × (Nat → Int32) × (Nat → Int32))
  | 0, _, _, _ => none
  | k + 1, now, x7, x8 => if (10 : Int32) ≤ x8 then (kx now x7) else (o1 (fX7_at x1 (3 : Int32)) (fun x118 => wr now 120 x118 x8 (fun f119 => o2 (fX7_hoursGo f119 x2 x3 x4) (fun x120 now121 => if 0 ≤ x120 then (o1 (fX7_cisternIs now121 x1 (2 : Int32)) (fun x122 => o2 (fX7_putBack now121 aside x122) (fun x123 now124 => if x123 = x5 then (fX7_leaks_L75 aside x1 x2 x3 x4 x5 kx k now124 (x7 ||| ((1 : Int32) <<< (x8 &&& 31))) (x8 + (1 : Int32))) else (fX7_leaks_L75 aside x1 x2 x3 x4 x5 kx k now124 (x7 ||| (0 : Int32)) (x8 + (1 : Int32)))))) else (o2 (fX7_putBack now121 aside (-1 : Int32)) (fun x125 now126 => if x125 = x5 then (fX7_leaks_L75 aside x1 x2 x3 x4 x5 kx k now126 (x7 ||| ((1 : Int32) <<< (x8 &&& 31))) (x8 + (1 : Int32))) else (fX7_leaks_L75 aside x1 x2 x3 x4 x5 kx k now126 (x7 ||| (0 : Int32)) (x8 + (1 : Int32)))))))))
def fX7_leaks (now : Nat → Int32) (aside : Nat → Int32) (found : Nat → Int32) (a1 : Int32) (a2 : Int32) (a3 : Int32) (a4 : Int32) (a5 : Int32) : Option (Int32 × (Nat → Int32) × (Nat → Int32) × (Nat → Int32)) := o1 (fX7_refuses now a2 a3 a4 (1 : Int32) (20 : Int32)) (fun x101 => o1 (fX7_isCistern now a1) (fun x102 => if x102 = 0 then (o2 (fX7_finding found (-1000001 : Int32)) (fun x103 found104 => some (x103, now, aside, found104))) else (if x101 = (-1000001 : Int32) then (o2 (fX7_finding found (-1000001 : Int32)) (fun x105 found106 => some (x105, now, aside, found106))) else (o1 (fX7_within a5 (0 : Int32) (40 : Int32)) (fun x107 => if x107 = 0 then (o2 (fX7_finding found (-1000001 : Int32)) (fun x131 found132 => some (x131, now, aside, found132))) else (if x101 = 0 then (o1 (fX7_copyRow 120 now) (fun f2108 => fX7_leaks_L75 f2108 a1 a2 a3 a4 a5 (fun now127 x128 => some (x128, now127, f2108, found)) fu now (0 : Int32) (0 : Int32))) else (o2 (fX7_finding found x101) (fun x129 found130 => some (x129, now, aside, found130)))))))))
theorem q_X7_leaks : yX7_leaks.cls = RX7 ∧ yX7_leaks.cls ≠ "java/lang/invoke/MethodHandle" ∧ yX7_leaks.cls ≠ "java/lang/invoke/VarHandle" ∧ (parseMethodDescriptor yX7_leaks.desc).map (fun d => d.parameters.length) = some 5 := by decide +kernel
theorem i_X7_leaks_X7 : ∀ w ∈ u_ws RX7 TX7 22, w ∈ wsX7_leaks := fun _ h => List.mem_cons_of_mem _ (List.mem_append_right _ (h))
set_option maxHeartbeats 4000000 in
set_option maxRecDepth 100000 in
theorem c_X7_leaks (l : Launch) (g : gG) (m0 m1 m2 m3 m4 m5 m6 m7 m8 m9 m10 m11 m12 : Nat) (now : Nat → Int32) (kept : Nat → Int32) (aside : Nat → Int32) (ik : Int32) (found : Nat → Int32) (carried : Nat → Int32) (T : Mt) (S : Ms) (a1 : Int32) (a2 : Int32) (a3 : Int32) (a4 : Int32) (a5 : Int32) {r : Int32} {now' : Nat → Int32} {aside' : Nat → Int32} {found' : Nat → Int32} (hf : fX7_leaks now aside found a1 a2 a3 a4 a5 = some (r, now', aside', found')) : Ct l yX7_leaks wsX7_leaks (rmm 9 202) g (wM g m0 m1 m2 m3 m4 m5 m6 m7 m8 m9 m10 m11 m12 now kept aside ik found carried T S) (wM g m0 m1 m2 m3 m4 m5 m6 m7 m8 m9 m10 m11 m12 (now') kept (aside') ik (found') carried T S) [.ref m0, .int a1, .int a2, .int a3, .int a4, .int a5] (some (.int r)) := by
  refine Ct.mk (by decide) rfl (Nat.le_of_ble_eq_true rfl) ?_
  intro p e s m args below meth c A ls hx hb hr hml hts hown hlocks hA hE hP hD hS hl hAe
  obtain ⟨Qx, hQ⟩ : ∃ Qx : State → Prop, Qx = MQ below (QcG g (wM g m0 m1 m2 m3 m4 m5 m6 m7 m8 m9 m10 m11 m12 now kept aside ik found carried T S) (wM g m0 m1 m2 m3 m4 m5 m6 m7 m8 m9 m10 m11 m12 (now') kept (aside') ik (found') carried T S) (some (.int r)) s.heap.size) args s 0 0 A := ⟨_, rfl⟩
  rw [← hQ]
  have hown : s.vm.findClass RX7 = some m.cls := hown
  have hl : lv_has ls 10 [(0, .ref m0), (1, .int a1), (2, .int a2), (3, .int a3), (4, .int a4), (5, .int a5)] := hl
  have w1 := hts (.constant RX7 63 (-1000001)) (List.mem_of_getElem? (i := 1) rfl)
  have w2 := hts (.fieldLink RX7 9 "RainVaultModel" "now" "[I") (List.mem_of_getElem? (i := 2) rfl)
  have w3 := hts (.fieldLink RX7 16 "RainVaultModel" "aside" "[I") (List.mem_of_getElem? (i := 3) rfl)
  have L75 : ∀ (aside : Nat → Int32) (found : Nat → Int32) (x1 : Int32) (x2 : Int32) (x3 : Int32) (x4 : Int32) (x5 : Int32) (kx : (Nat → Int32) → Int32 → Option (Int32 × (Nat → Int32) × (Nat → Int32) × (Nat → Int32))) (k : Nat) (now : Nat → Int32) (x7 : Int32) (x8 : Int32) (H : Heap) (locs : List Loc) (ls : Array Slot), fX7_leaks_L75 aside x1 x2 x3 x4 x5 kx k now x7 x8 = some (r, now', aside', found') → va_P g.1 vwK (wM g m0 m1 m2 m3 m4 m5 m6 m7 m8 m9 m10 m11 m12 now kept aside ik found carried T S) H → va_D A (wM g m0 m1 m2 m3 m4 m5 m6 m7 m8 m9 m10 m11 m12 now kept aside ik found carried T S) → va_S A s.heap H locs → lv_has ls 10 [(0, .ref m0), (1, .int x1), (2, .int x2), (3, .int x3), (4, .int x4), (5, .int x5), (7, .int x7), (8, .int x8)] → (∀ (now : Nat → Int32) (x7 : Int32) (H : Heap) (locs : List Loc) (ls : Array Slot), kx now x7 = some (r, now', aside', found') → va_P g.1 vwK (wM g m0 m1 m2 m3 m4 m5 m6 m7 m8 m9 m10 m11 m12 now kept aside ik found carried T S) H → va_D A (wM g m0 m1 m2 m3 m4 m5 m6 m7 m8 m9 m10 m11 m12 now kept aside ik found carried T S) → va_S A s.heap H locs → lv_has ls 10 [(7, .int x7)] → W p l e (rmm 9 202) s m args below meth c H locs 0 0 Qx (F0 m 147 ls [])) → W p l e (rmm 9 202) s m args below meth c H locs 0 0 Qx (F0 m 75 ls []) := by
    intro aside found x1 x2 x3 x4 x5 kx k
    induction k with
    | zero => intro now x7 x8 H locs ls hf; exact nomatch (show (none : Option (Int32 × (Nat → Int32) × (Nat → Int32) × (Nat → Int32))) = some _ from hf)
    | succ k ih =>
      intro now x7 x8 H locs ls hf hP hD hS hl hk
      rw [fX7_leaks_L75] at hf
      refine lv_iload hx hb dX7_leaks_75 (lv_at hl 7 rfl) ?_
      refine lv_bipush (v := (10 : Int32)) hx hb dX7_leaks_77 (by decide) ?_
      refine lv_icmp_ge (tgt := 147) hx hb dX7_leaks_79 (by decide) (fun hc => ?_) (fun hc => ?_)
      · have hf := if_t hf hc
        exact hk _ _ _ _ _  hf hP hD hS (lv_sub hl [6] rfl)
      · have hf := if_f hf hc
        refine lv_aload_n hx hb dX7_leaks_82 rfl (lv_at hl 0 rfl) ?_
        refine va_get (D := g.1) (ci := 7) (v := .ref m1) (C := RX7) (T := TX7) (N := 22) hx hb hts i_X7_leaks_X7 hown hE.1 hP 0 rfl rfl 0 (by decide) w2 (fun _ h9 => h9) rfl dX7_leaks_83 ?_
        refine lv_iload_n hx hb dX7_leaks_86 rfl (lv_at hl 1 rfl) ?_
        refine lv_iconst (v := (3 : Int32)) hx hb dX7_leaks_87 (by decide) ?_
        obtain ⟨x118, hg, hf⟩ := o1_s hf
        refine Ct.callS (ws' := wM g m0 m1 m2 m3 m4 m5 m6 m7 m8 m9 m10 m11 m12 now kept aside ik found carried T S) (As := [.int x1, .int (3 : Int32)]) (rest := [.ref m1]) (st1 := [.int x118, .ref m1]) (c_X7_at l g x1 (3 : Int32) hg) (va_cwS 2 hts gX7_leaks_X7_at rfl rfl rfl q_X7_at.2 ⟨Nat.le_of_ble_eq_true rfl, Nat.le_of_ble_eq_true rfl⟩) ⟨hx, hb, hml, hown, hts⟩ hE hP hD hS hA [] rfl rfl rfl rfl rfl hl.1 rfl rfl (Nat.le_of_ble_eq_true rfl) dX7_leaks_88 (fun H locs hP hD hS => ?_)
        refine lv_iload hx hb dX7_leaks_91 (lv_at hl 7 rfl) ?_
        obtain ⟨f119, ef, hin, hf⟩ := wr_s hf
        refine st_iast (ws' := wM g m0 m1 m2 m3 m4 m5 m6 m7 m8 m9 m10 m11 m12 f119 kept aside ik found carried T S) (f := now) (f2 := f119) hx hb hE.1 hP hD hS 1 0 rfl rfl hin ef rfl dX7_leaks_93 (fun H locs hP hD hS => ?_)
        refine lv_aload_n hx hb dX7_leaks_94 rfl (lv_at hl 0 rfl) ?_
        refine lv_iload_n hx hb dX7_leaks_95 rfl (lv_at hl 2 rfl) ?_
        refine lv_iload_n hx hb dX7_leaks_96 rfl (lv_at hl 3 rfl) ?_
        refine lv_iload hx hb dX7_leaks_97 (lv_at hl 4 rfl) ?_
        obtain ⟨x120, now121, hg, hf⟩ := o2_s hf
        refine Ct.callV0 (ws' := wM g m0 m1 m2 m3 m4 m5 m6 m7 m8 m9 m10 m11 m12 now121 kept aside ik found carried T S) (As := [.int x2, .int x3, .int x4]) (rest := []) (st1 := [.int x120]) (c_X7_hoursGo l g m0 m1 m2 m3 m4 m5 m6 m7 m8 m9 m10 m11 m12 f119 kept aside ik found carried T S x2 x3 x4 hg) (cwV 3 hts gX7_leaks_X7_hoursGo rfl rfl rfl q_X7_hoursGo ⟨Nat.le_of_ble_eq_true rfl, Nat.le_of_ble_eq_true rfl⟩) ⟨hx, hb, hml, hown, hts⟩ hE hP hD hS hA 7 0 rfl rfl rfl rfl hl.1 rfl rfl (Nat.le_of_ble_eq_true rfl) dX7_leaks_99 (fun H locs hP hD hS => ?_)
        refine lv_istore (lv' := [(9, .int x120), (0, .ref m0), (1, .int x1), (2, .int x2), (3, .int x3), (4, .int x4), (5, .int x5), (7, .int x7), (8, .int x8)]) hx hb dX7_leaks_102 hl (by decide) rfl (fun ls hl => ?_)
        refine lv_iload hx hb dX7_leaks_104 (lv_at hl 7 rfl) ?_
        refine lv_aload_n hx hb dX7_leaks_106 rfl (lv_at hl 1 rfl) ?_
        refine lv_iload hx hb dX7_leaks_107 (lv_at hl 0 rfl) ?_
        refine lv_if_ge (tgt := 116) hx hb dX7_leaks_109 (by decide) (fun hc => ?_) (fun hc => ?_)
        · have hf := if_t hf hc
          refine lv_aload_n hx hb dX7_leaks_116 rfl (lv_at hl 1 rfl) ?_
          refine lv_iload_n hx hb dX7_leaks_117 rfl (lv_at hl 2 rfl) ?_
          refine lv_iconst (v := (2 : Int32)) hx hb dX7_leaks_118 (by decide) ?_
          obtain ⟨x122, hg, hf⟩ := o1_s hf
          refine Ct.callV0 (ws' := wM g m0 m1 m2 m3 m4 m5 m6 m7 m8 m9 m10 m11 m12 now121 kept aside ik found carried T S) (As := [.int x1, .int (2 : Int32)]) (rest := [.ref m0, .int x7]) (st1 := [.int x122, .ref m0, .int x7]) (c_X7_cisternIs l g m0 m1 m2 m3 m4 m5 m6 m7 m8 m9 m10 m11 m12 now121 kept aside ik found carried T S x1 (2 : Int32) hg) (cwV 2 hts gX7_leaks_X7_cisternIs rfl rfl rfl q_X7_cisternIs ⟨Nat.le_of_ble_eq_true rfl, Nat.le_of_ble_eq_true rfl⟩) ⟨hx, hb, hml, hown, hts⟩ hE hP hD hS hA 7 0 rfl rfl rfl rfl hl.1 rfl rfl (Nat.le_of_ble_eq_true rfl) dX7_leaks_119 (fun H locs hP hD hS => ?_)
          obtain ⟨x123, now124, hg, hf⟩ := o2_s hf
          refine Ct.callV0 (ws' := wM g m0 m1 m2 m3 m4 m5 m6 m7 m8 m9 m10 m11 m12 now124 kept aside ik found carried T S) (As := [.int x122]) (rest := [.int x7]) (st1 := [.int x123, .int x7]) (c_X7_putBack l g m0 m1 m2 m3 m4 m5 m6 m7 m8 m9 m10 m11 m12 now121 kept aside ik found carried T S x122 hg) (cwV 1 hts gX7_leaks_X7_putBack rfl rfl rfl q_X7_putBack ⟨Nat.le_of_ble_eq_true rfl, Nat.le_of_ble_eq_true rfl⟩) ⟨hx, hb, hml, hown, hts⟩ hE hP hD hS hA 7 0 rfl rfl rfl rfl hl.1 rfl rfl (Nat.le_of_ble_eq_true rfl) dX7_leaks_122 (fun H locs hP hD hS => ?_)
          refine lv_iload hx hb dX7_leaks_125 (lv_at hl 6 rfl) ?_
          refine lv_icmp_ne (tgt := 137) hx hb dX7_leaks_127 (by decide) (fun hc => ?_) (fun hc => ?_)
          · have hf := if_f hf hc
            refine lv_iconst (v := (0 : Int32)) hx hb dX7_leaks_137 (by decide) ?_
            refine lv_ior hx hb dX7_leaks_138 ?_
            refine lv_istore (lv' := [(7, .int (x7 ||| (0 : Int32))), (9, .int x120), (0, .ref m0), (1, .int x1), (2, .int x2), (3, .int x3), (4, .int x4), (5, .int x5), (8, .int x8)]) hx hb dX7_leaks_139 hl (by decide) rfl (fun ls hl => ?_)
            refine lv_iinc (v := (x8 + (1 : Int32))) (lv' := [(8, .int (x8 + (1 : Int32))), (7, .int (x7 ||| (0 : Int32))), (9, .int x120), (0, .ref m0), (1, .int x1), (2, .int x2), (3, .int x3), (4, .int x4), (5, .int x5)]) hx hb dX7_leaks_141 hl (k := 8) rfl rfl (by decide) rfl (fun ls hl => ?_)
            refine lv_goto (tgt := 75) hx hb dX7_leaks_144 (by decide) ?_
            exact ih _ _ _ _ _ _  hf hP hD hS (lv_sub hl [3, 4, 5, 6, 7, 8, 1, 0] rfl) hk
          · have hf := if_t hf hc
            refine lv_iconst (v := (1 : Int32)) hx hb dX7_leaks_130 (by decide) ?_
            refine lv_iload hx hb dX7_leaks_131 (lv_at hl 8 rfl) ?_
            refine lv_ishl hx hb dX7_leaks_133 ?_
            refine lv_goto (tgt := 138) hx hb dX7_leaks_134 (by decide) ?_
            refine lv_ior hx hb dX7_leaks_138 ?_
            refine lv_istore (lv' := [(7, .int (x7 ||| ((1 : Int32) <<< (x8 &&& 31)))), (9, .int x120), (0, .ref m0), (1, .int x1), (2, .int x2), (3, .int x3), (4, .int x4), (5, .int x5), (8, .int x8)]) hx hb dX7_leaks_139 hl (by decide) rfl (fun ls hl => ?_)
            refine lv_iinc (v := (x8 + (1 : Int32))) (lv' := [(8, .int (x8 + (1 : Int32))), (7, .int (x7 ||| ((1 : Int32) <<< (x8 &&& 31)))), (9, .int x120), (0, .ref m0), (1, .int x1), (2, .int x2), (3, .int x3), (4, .int x4), (5, .int x5)]) hx hb dX7_leaks_141 hl (k := 8) rfl rfl (by decide) rfl (fun ls hl => ?_)
            refine lv_goto (tgt := 75) hx hb dX7_leaks_144 (by decide) ?_
            exact ih _ _ _ _ _ _  hf hP hD hS (lv_sub hl [3, 4, 5, 6, 7, 8, 1, 0] rfl) hk
        · have hf := if_f hf hc
          refine lv_iconst (v := (-1 : Int32)) hx hb dX7_leaks_112 (by decide) ?_
          refine lv_goto (tgt := 122) hx hb dX7_leaks_113 (by decide) ?_
          obtain ⟨x125, now126, hg, hf⟩ := o2_s hf
          refine Ct.callV0 (ws' := wM g m0 m1 m2 m3 m4 m5 m6 m7 m8 m9 m10 m11 m12 now126 kept aside ik found carried T S) (As := [.int (-1 : Int32)]) (rest := [.int x7]) (st1 := [.int x125, .int x7]) (c_X7_putBack l g m0 m1 m2 m3 m4 m5 m6 m7 m8 m9 m10 m11 m12 now121 kept aside ik found carried T S (-1 : Int32) hg) (cwV 1 hts gX7_leaks_X7_putBack rfl rfl rfl q_X7_putBack ⟨Nat.le_of_ble_eq_true rfl, Nat.le_of_ble_eq_true rfl⟩) ⟨hx, hb, hml, hown, hts⟩ hE hP hD hS hA 7 0 rfl rfl rfl rfl hl.1 rfl rfl (Nat.le_of_ble_eq_true rfl) dX7_leaks_122 (fun H locs hP hD hS => ?_)
          refine lv_iload hx hb dX7_leaks_125 (lv_at hl 6 rfl) ?_
          refine lv_icmp_ne (tgt := 137) hx hb dX7_leaks_127 (by decide) (fun hc => ?_) (fun hc => ?_)
          · have hf := if_f hf hc
            refine lv_iconst (v := (0 : Int32)) hx hb dX7_leaks_137 (by decide) ?_
            refine lv_ior hx hb dX7_leaks_138 ?_
            refine lv_istore (lv' := [(7, .int (x7 ||| (0 : Int32))), (9, .int x120), (0, .ref m0), (1, .int x1), (2, .int x2), (3, .int x3), (4, .int x4), (5, .int x5), (8, .int x8)]) hx hb dX7_leaks_139 hl (by decide) rfl (fun ls hl => ?_)
            refine lv_iinc (v := (x8 + (1 : Int32))) (lv' := [(8, .int (x8 + (1 : Int32))), (7, .int (x7 ||| (0 : Int32))), (9, .int x120), (0, .ref m0), (1, .int x1), (2, .int x2), (3, .int x3), (4, .int x4), (5, .int x5)]) hx hb dX7_leaks_141 hl (k := 8) rfl rfl (by decide) rfl (fun ls hl => ?_)
            refine lv_goto (tgt := 75) hx hb dX7_leaks_144 (by decide) ?_
            exact ih _ _ _ _ _ _  hf hP hD hS (lv_sub hl [3, 4, 5, 6, 7, 8, 1, 0] rfl) hk
          · have hf := if_t hf hc
            refine lv_iconst (v := (1 : Int32)) hx hb dX7_leaks_130 (by decide) ?_
            refine lv_iload hx hb dX7_leaks_131 (lv_at hl 8 rfl) ?_
            refine lv_ishl hx hb dX7_leaks_133 ?_
            refine lv_goto (tgt := 138) hx hb dX7_leaks_134 (by decide) ?_
            refine lv_ior hx hb dX7_leaks_138 ?_
            refine lv_istore (lv' := [(7, .int (x7 ||| ((1 : Int32) <<< (x8 &&& 31)))), (9, .int x120), (0, .ref m0), (1, .int x1), (2, .int x2), (3, .int x3), (4, .int x4), (5, .int x5), (8, .int x8)]) hx hb dX7_leaks_139 hl (by decide) rfl (fun ls hl => ?_)
            refine lv_iinc (v := (x8 + (1 : Int32))) (lv' := [(8, .int (x8 + (1 : Int32))), (7, .int (x7 ||| ((1 : Int32) <<< (x8 &&& 31)))), (9, .int x120), (0, .ref m0), (1, .int x1), (2, .int x2), (3, .int x3), (4, .int x4), (5, .int x5)]) hx hb dX7_leaks_141 hl (k := 8) rfl rfl (by decide) rfl (fun ls hl => ?_)
            refine lv_goto (tgt := 75) hx hb dX7_leaks_144 (by decide) ?_
            exact ih _ _ _ _ _ _  hf hP hD hS (lv_sub hl [3, 4, 5, 6, 7, 8, 1, 0] rfl) hk
  unfold fX7_leaks at hf
  refine lv_aload_n hx hb dX7_leaks_0 rfl (lv_at hl 0 rfl) ?_
  refine lv_iload_n hx hb dX7_leaks_1 rfl (lv_at hl 2 rfl) ?_
  refine lv_iload_n hx hb dX7_leaks_2 rfl (lv_at hl 3 rfl) ?_
  refine lv_iload hx hb dX7_leaks_3 (lv_at hl 4 rfl) ?_
  refine lv_iconst (v := (1 : Int32)) hx hb dX7_leaks_5 (by decide) ?_
  refine lv_bipush (v := (20 : Int32)) hx hb dX7_leaks_6 (by decide) ?_
  obtain ⟨x101, hg, hf⟩ := o1_s hf
  refine Ct.callV0 (ws' := wM g m0 m1 m2 m3 m4 m5 m6 m7 m8 m9 m10 m11 m12 now kept aside ik found carried T S) (As := [.int a2, .int a3, .int a4, .int (1 : Int32), .int (20 : Int32)]) (rest := []) (st1 := [.int x101]) (c_X7_refuses l g m0 m1 m2 m3 m4 m5 m6 m7 m8 m9 m10 m11 m12 now kept aside ik found carried T S a2 a3 a4 (1 : Int32) (20 : Int32) hg) (cwV 5 hts gX7_leaks_X7_refuses rfl rfl rfl q_X7_refuses ⟨Nat.le_of_ble_eq_true rfl, Nat.le_of_ble_eq_true rfl⟩) ⟨hx, hb, hml, hown, hts⟩ hE hP hD hS hA 7 0 rfl rfl rfl rfl hl.1 rfl rfl (Nat.le_of_ble_eq_true rfl) dX7_leaks_8 (fun H locs hP hD hS => ?_)
  refine lv_istore (lv' := [(6, .int x101), (0, .ref m0), (1, .int a1), (2, .int a2), (3, .int a3), (4, .int a4), (5, .int a5)]) hx hb dX7_leaks_11 hl (by decide) rfl (fun ls hl => ?_)
  refine lv_aload_n hx hb dX7_leaks_13 rfl (lv_at hl 1 rfl) ?_
  refine lv_iload_n hx hb dX7_leaks_14 rfl (lv_at hl 2 rfl) ?_
  obtain ⟨x102, hg, hf⟩ := o1_s hf
  refine Ct.callV0 (ws' := wM g m0 m1 m2 m3 m4 m5 m6 m7 m8 m9 m10 m11 m12 now kept aside ik found carried T S) (As := [.int a1]) (rest := []) (st1 := [.int x102]) (c_X7_isCistern l g m0 m1 m2 m3 m4 m5 m6 m7 m8 m9 m10 m11 m12 now kept aside ik found carried T S a1 hg) (cwV 1 hts gX7_leaks_X7_isCistern rfl rfl rfl q_X7_isCistern ⟨Nat.le_of_ble_eq_true rfl, Nat.le_of_ble_eq_true rfl⟩) ⟨hx, hb, hml, hown, hts⟩ hE hP hD hS hA 7 0 rfl rfl rfl rfl hl.1 rfl rfl (Nat.le_of_ble_eq_true rfl) dX7_leaks_15 (fun H locs hP hD hS => ?_)
  refine lv_if_eq (tgt := 39) hx hb dX7_leaks_18 (by decide) (fun hc => ?_) (fun hc => ?_)
  · have hf := if_t hf hc
    refine lv_aload_n hx hb dX7_leaks_39 rfl (lv_at hl 1 rfl) ?_
    refine lv_ldc hx hb hown w1 dX7_leaks_40 ?_
    obtain ⟨x103, found104, hg, hf⟩ := o2_s hf
    refine Ct.callV0 (ws' := wM g m0 m1 m2 m3 m4 m5 m6 m7 m8 m9 m10 m11 m12 now kept aside ik found104 carried T S) (As := [.int (-1000001 : Int32)]) (rest := []) (st1 := [.int x103]) (c_X7_finding l g m0 m1 m2 m3 m4 m5 m6 m7 m8 m9 m10 m11 m12 now kept aside ik found carried T S (-1000001 : Int32) hg) (cwV 1 hts gX7_leaks_X7_finding rfl rfl rfl q_X7_finding ⟨Nat.le_of_ble_eq_true rfl, Nat.le_of_ble_eq_true rfl⟩) ⟨hx, hb, hml, hown, hts⟩ hE hP hD hS hA 7 0 rfl rfl rfl rfl hl.1 rfl rfl (Nat.le_of_ble_eq_true rfl) dX7_leaks_42 (fun H locs hP hD hS => ?_)
    obtain ⟨rfl, rfl, rfl, rfl⟩ := some_p4 hf
    rw [hQ]; exact Ct.iret hx hb hr hlocks hAe hP hD hS dX7_leaks_45
  · have hf := if_f hf hc
    refine lv_iload hx hb dX7_leaks_21 (lv_at hl 0 rfl) ?_
    refine lv_ldc hx hb hown w1 dX7_leaks_23 ?_
    refine lv_icmp_eq (tgt := 39) hx hb dX7_leaks_25 (by decide) (fun hc => ?_) (fun hc => ?_)
    · have hf := if_t hf hc
      refine lv_aload_n hx hb dX7_leaks_39 rfl (lv_at hl 1 rfl) ?_
      refine lv_ldc hx hb hown w1 dX7_leaks_40 ?_
      obtain ⟨x105, found106, hg, hf⟩ := o2_s hf
      refine Ct.callV0 (ws' := wM g m0 m1 m2 m3 m4 m5 m6 m7 m8 m9 m10 m11 m12 now kept aside ik found106 carried T S) (As := [.int (-1000001 : Int32)]) (rest := []) (st1 := [.int x105]) (c_X7_finding l g m0 m1 m2 m3 m4 m5 m6 m7 m8 m9 m10 m11 m12 now kept aside ik found carried T S (-1000001 : Int32) hg) (cwV 1 hts gX7_leaks_X7_finding rfl rfl rfl q_X7_finding ⟨Nat.le_of_ble_eq_true rfl, Nat.le_of_ble_eq_true rfl⟩) ⟨hx, hb, hml, hown, hts⟩ hE hP hD hS hA 7 0 rfl rfl rfl rfl hl.1 rfl rfl (Nat.le_of_ble_eq_true rfl) dX7_leaks_42 (fun H locs hP hD hS => ?_)
      obtain ⟨rfl, rfl, rfl, rfl⟩ := some_p4 hf
      rw [hQ]; exact Ct.iret hx hb hr hlocks hAe hP hD hS dX7_leaks_45
    · have hf := if_f hf hc
      refine lv_iload hx hb dX7_leaks_28 (lv_at hl 6 rfl) ?_
      refine lv_iconst (v := (0 : Int32)) hx hb dX7_leaks_30 (by decide) ?_
      refine lv_bipush (v := (40 : Int32)) hx hb dX7_leaks_31 (by decide) ?_
      obtain ⟨x107, hg, hf⟩ := o1_s hf
      refine Ct.callS (ws' := wM g m0 m1 m2 m3 m4 m5 m6 m7 m8 m9 m10 m11 m12 now kept aside ik found carried T S) (As := [.int a5, .int (0 : Int32), .int (40 : Int32)]) (rest := []) (st1 := [.int x107]) (c_X7_within l g a5 (0 : Int32) (40 : Int32) hg) (va_cwS 3 hts gX7_leaks_X7_within rfl rfl rfl q_X7_within.2 ⟨Nat.le_of_ble_eq_true rfl, Nat.le_of_ble_eq_true rfl⟩) ⟨hx, hb, hml, hown, hts⟩ hE hP hD hS hA [] rfl rfl rfl rfl rfl hl.1 rfl rfl (Nat.le_of_ble_eq_true rfl) dX7_leaks_33 (fun H locs hP hD hS => ?_)
      refine lv_if_ne (tgt := 46) hx hb dX7_leaks_36 (by decide) (fun hc => ?_) (fun hc => ?_)
      · have hf := if_f hf hc
        refine lv_iload hx hb dX7_leaks_46 (lv_at hl 0 rfl) ?_
        refine lv_if_eq (tgt := 58) hx hb dX7_leaks_48 (by decide) (fun hc => ?_) (fun hc => ?_)
        · have hf := if_t hf hc
          refine lv_aload_n hx hb dX7_leaks_58 rfl (lv_at hl 1 rfl) ?_
          refine va_get (D := g.1) (ci := 7) (v := .ref m1) (C := RX7) (T := TX7) (N := 22) hx hb hts i_X7_leaks_X7 hown hE.1 hP 0 rfl rfl 0 (by decide) w2 (fun _ h9 => h9) rfl dX7_leaks_59 ?_
          refine lv_aload_n hx hb dX7_leaks_62 rfl (lv_at hl 1 rfl) ?_
          refine va_get (D := g.1) (ci := 7) (v := .ref m3) (C := RX7) (T := TX7) (N := 22) hx hb hts i_X7_leaks_X7 hown hE.1 hP 0 rfl rfl 2 (by decide) w3 (fun _ h9 => h9) rfl dX7_leaks_63 ?_
          obtain ⟨f2108, hg, hf⟩ := o1_s hf
          refine Ct.callS (ws' := wM g m0 m1 m2 m3 m4 m5 m6 m7 m8 m9 m10 m11 m12 now kept f2108 ik found carried T S) (As := [.ref m1, .ref m3]) (rest := []) (st1 := []) (c_X7_copyRow l g m1 m3 120 now aside hg) (va_cwS 2 hts gX7_leaks_X7_copyRow rfl rfl rfl q_X7_copyRow.2 ⟨Nat.le_of_ble_eq_true rfl, Nat.le_of_ble_eq_true rfl⟩) ⟨hx, hb, hml, hown, hts⟩ hE hP hD hS hA [1, 3] rfl rfl rfl rfl rfl hl.1 rfl rfl (Nat.le_of_ble_eq_true rfl) dX7_leaks_66 (fun H locs hP hD hS => ?_)
          refine lv_iconst (v := (0 : Int32)) hx hb dX7_leaks_69 (by decide) ?_
          refine lv_istore (lv' := [(7, .int (0 : Int32)), (6, .int x101), (0, .ref m0), (1, .int a1), (2, .int a2), (3, .int a3), (4, .int a4), (5, .int a5)]) hx hb dX7_leaks_70 hl (by decide) rfl (fun ls hl => ?_)
          refine lv_iconst (v := (0 : Int32)) hx hb dX7_leaks_72 (by decide) ?_
          refine lv_istore (lv' := [(8, .int (0 : Int32)), (7, .int (0 : Int32)), (6, .int x101), (0, .ref m0), (1, .int a1), (2, .int a2), (3, .int a3), (4, .int a4), (5, .int a5)]) hx hb dX7_leaks_73 hl (by decide) rfl (fun ls hl => ?_)
          refine L75 _ _ _ _ _ _ _ _ _ _ _ _ _ _ _  hf hP hD hS (lv_sub hl [3, 4, 5, 6, 7, 8, 1, 0] rfl) (fun now127 x128 H locs ls hf hP hD hS hl => ?_)
          refine lv_iload hx hb dX7_leaks_147 (lv_at hl 0 rfl) ?_
          obtain ⟨rfl, rfl, rfl, rfl⟩ := some_p4 hf
          rw [hQ]; exact Ct.iret hx hb hr hlocks hAe hP hD hS dX7_leaks_149
        · have hf := if_f hf hc
          refine lv_aload_n hx hb dX7_leaks_51 rfl (lv_at hl 1 rfl) ?_
          refine lv_iload hx hb dX7_leaks_52 (lv_at hl 0 rfl) ?_
          obtain ⟨x129, found130, hg, hf⟩ := o2_s hf
          refine Ct.callV0 (ws' := wM g m0 m1 m2 m3 m4 m5 m6 m7 m8 m9 m10 m11 m12 now kept aside ik found130 carried T S) (As := [.int x101]) (rest := []) (st1 := [.int x129]) (c_X7_finding l g m0 m1 m2 m3 m4 m5 m6 m7 m8 m9 m10 m11 m12 now kept aside ik found carried T S x101 hg) (cwV 1 hts gX7_leaks_X7_finding rfl rfl rfl q_X7_finding ⟨Nat.le_of_ble_eq_true rfl, Nat.le_of_ble_eq_true rfl⟩) ⟨hx, hb, hml, hown, hts⟩ hE hP hD hS hA 7 0 rfl rfl rfl rfl hl.1 rfl rfl (Nat.le_of_ble_eq_true rfl) dX7_leaks_54 (fun H locs hP hD hS => ?_)
          obtain ⟨rfl, rfl, rfl, rfl⟩ := some_p4 hf
          rw [hQ]; exact Ct.iret hx hb hr hlocks hAe hP hD hS dX7_leaks_57
      · have hf := if_t hf hc
        refine lv_aload_n hx hb dX7_leaks_39 rfl (lv_at hl 1 rfl) ?_
        refine lv_ldc hx hb hown w1 dX7_leaks_40 ?_
        obtain ⟨x131, found132, hg, hf⟩ := o2_s hf
        refine Ct.callV0 (ws' := wM g m0 m1 m2 m3 m4 m5 m6 m7 m8 m9 m10 m11 m12 now kept aside ik found132 carried T S) (As := [.int (-1000001 : Int32)]) (rest := []) (st1 := [.int x131]) (c_X7_finding l g m0 m1 m2 m3 m4 m5 m6 m7 m8 m9 m10 m11 m12 now kept aside ik found carried T S (-1000001 : Int32) hg) (cwV 1 hts gX7_leaks_X7_finding rfl rfl rfl q_X7_finding ⟨Nat.le_of_ble_eq_true rfl, Nat.le_of_ble_eq_true rfl⟩) ⟨hx, hb, hml, hown, hts⟩ hE hP hD hS hA 7 0 rfl rfl rfl rfl hl.1 rfl rfl (Nat.le_of_ble_eq_true rfl) dX7_leaks_42 (fun H locs hP hD hS => ?_)
        obtain ⟨rfl, rfl, rfl, rfl⟩ := some_p4 hf
        rw [hQ]; exact Ct.iret hx hb hr hlocks hAe hP hD hS dX7_leaks_45
def fX7_sides_L38 (aside : Nat → Int32) (x1 : Int32) (x2 : Int32) (kx : (Nat → Int32) → Int32 → Option (Int32 × (Nat → Int32) × (Nat → Int32) × (Nat → Int32))) : Nat → (Nat → Int32) → Int32 → Int32 → Option (Int32 × (Nat → Int32) × (Nat → Int32) × (Nat → Int32))
  | 0, _, _, _ => none
  | k + 1, now, x4, x5 => if (4 : Int32) ≤ x5 then (kx now x4) else (o2 (fX7_leavesOpen now aside x5 x1 x2) (fun x105 now106 => if x105 = 0 then (fX7_sides_L38 aside x1 x2 kx k now106 (x4 ||| (0 : Int32)) (x5 + (1 : Int32))) else (fX7_sides_L38 aside x1 x2 kx k now106 (x4 ||| ((1 : Int32) <<< (x5 &&& 31))) (x5 + (1 : Int32)))))
def fX7_sides (now : Nat → Int32) (aside : Nat → Int32) (found : Nat → Int32) (a1 : Int32) (a2 : Int32) : Option (Int32 × (Nat → Int32) × (Nat → Int32) × (Nat → Int32)) := o1 (fX7_refuses now (0 : Int32) a1 a2 (1 : Int32) (20 : Int32)) (fun x101 => if x101 = 0 then (o1 (fX7_copyRow 120 now) (fun f2102 => fX7_sides_L38 f2102 a1 a2 (fun now107 x108 => some (x108, now107, f2102, found)) fu now (0 : Int32) (0 : Int32))) else (o2 (fX7_finding found x101) (fun x109 found110 => some (x109, now, aside, found110))))
theorem q_X7_sides : yX7_sides.cls = RX7 ∧ yX7_sides.cls ≠ "java/lang/invoke/MethodHandle" ∧ yX7_sides.cls ≠ "java/lang/invoke/VarHandle" ∧ (parseMethodDescriptor yX7_sides.desc).map (fun d => d.parameters.length) = some 2 := by decide +kernel
theorem i_X7_sides_X7 : ∀ w ∈ u_ws RX7 TX7 22, w ∈ wsX7_sides := fun _ h => List.mem_cons_of_mem _ (List.mem_append_right _ (h))
set_option maxHeartbeats 4000000 in
set_option maxRecDepth 100000 in
theorem c_X7_sides (l : Launch) (g : gG) (m0 m1 m2 m3 m4 m5 m6 m7 m8 m9 m10 m11 m12 : Nat) (now : Nat → Int32) (kept : Nat → Int32) (aside : Nat → Int32) (ik : Int32) (found : Nat → Int32) (carried : Nat → Int32) (T : Mt) (S : Ms) (a1 : Int32) (a2 : Int32) {r : Int32} {now' : Nat → Int32} {aside' : Nat → Int32} {found' : Nat → Int32} (hf : fX7_sides now aside found a1 a2 = some (r, now', aside', found')) : Ct l yX7_sides wsX7_sides (rmm 10 226) g (wM g m0 m1 m2 m3 m4 m5 m6 m7 m8 m9 m10 m11 m12 now kept aside ik found carried T S) (wM g m0 m1 m2 m3 m4 m5 m6 m7 m8 m9 m10 m11 m12 (now') kept (aside') ik (found') carried T S) [.ref m0, .int a1, .int a2] (some (.int r)) := by
  refine Ct.mk (by decide) rfl (Nat.le_of_ble_eq_true rfl) ?_
  intro p e s m args below meth c A ls hx hb hr hml hts hown hlocks hA hE hP hD hS hl hAe
  obtain ⟨Qx, hQ⟩ : ∃ Qx : State → Prop, Qx = MQ below (QcG g (wM g m0 m1 m2 m3 m4 m5 m6 m7 m8 m9 m10 m11 m12 now kept aside ik found carried T S) (wM g m0 m1 m2 m3 m4 m5 m6 m7 m8 m9 m10 m11 m12 (now') kept (aside') ik (found') carried T S) (some (.int r)) s.heap.size) args s 0 0 A := ⟨_, rfl⟩
  rw [← hQ]
  have hown : s.vm.findClass RX7 = some m.cls := hown
  have hl : lv_has ls 6 [(0, .ref m0), (1, .int a1), (2, .int a2)] := hl
  have w1 := hts (.fieldLink RX7 9 "RainVaultModel" "now" "[I") (List.mem_of_getElem? (i := 1) rfl)
  have w2 := hts (.fieldLink RX7 16 "RainVaultModel" "aside" "[I") (List.mem_of_getElem? (i := 2) rfl)
  have L38 : ∀ (aside : Nat → Int32) (found : Nat → Int32) (x1 : Int32) (x2 : Int32) (kx : (Nat → Int32) → Int32 → Option (Int32 × (Nat → Int32) × (Nat → Int32) × (Nat → Int32))) (k : Nat) (now : Nat → Int32) (x4 : Int32) (x5 : Int32) (H : Heap) (locs : List Loc) (ls : Array Slot), fX7_sides_L38 aside x1 x2 kx k now x4 x5 = some (r, now', aside', found') → va_P g.1 vwK (wM g m0 m1 m2 m3 m4 m5 m6 m7 m8 m9 m10 m11 m12 now kept aside ik found carried T S) H → va_D A (wM g m0 m1 m2 m3 m4 m5 m6 m7 m8 m9 m10 m11 m12 now kept aside ik found carried T S) → va_S A s.heap H locs → lv_has ls 6 [(0, .ref m0), (1, .int x1), (2, .int x2), (4, .int x4), (5, .int x5)] → (∀ (now : Nat → Int32) (x4 : Int32) (H : Heap) (locs : List Loc) (ls : Array Slot), kx now x4 = some (r, now', aside', found') → va_P g.1 vwK (wM g m0 m1 m2 m3 m4 m5 m6 m7 m8 m9 m10 m11 m12 now kept aside ik found carried T S) H → va_D A (wM g m0 m1 m2 m3 m4 m5 m6 m7 m8 m9 m10 m11 m12 now kept aside ik found carried T S) → va_S A s.heap H locs → lv_has ls 6 [(4, .int x4)] → W p l e (rmm 10 226) s m args below meth c H locs 0 0 Qx (F0 m 74 ls [])) → W p l e (rmm 10 226) s m args below meth c H locs 0 0 Qx (F0 m 38 ls []) := by
    intro aside found x1 x2 kx k
    induction k with
    | zero => intro now x4 x5 H locs ls hf; exact nomatch (show (none : Option (Int32 × (Nat → Int32) × (Nat → Int32) × (Nat → Int32))) = some _ from hf)
    | succ k ih =>
      intro now x4 x5 H locs ls hf hP hD hS hl hk
      rw [fX7_sides_L38] at hf
      refine lv_iload hx hb dX7_sides_38 (lv_at hl 4 rfl) ?_
      refine lv_iconst (v := (4 : Int32)) hx hb dX7_sides_40 (by decide) ?_
      refine lv_icmp_ge (tgt := 74) hx hb dX7_sides_41 (by decide) (fun hc => ?_) (fun hc => ?_)
      · have hf := if_t hf hc
        exact hk _ _ _ _ _  hf hP hD hS (lv_sub hl [3] rfl)
      · have hf := if_f hf hc
        refine lv_iload hx hb dX7_sides_44 (lv_at hl 3 rfl) ?_
        refine lv_aload_n hx hb dX7_sides_46 rfl (lv_at hl 0 rfl) ?_
        refine lv_iload hx hb dX7_sides_47 (lv_at hl 4 rfl) ?_
        refine lv_iload_n hx hb dX7_sides_49 rfl (lv_at hl 1 rfl) ?_
        refine lv_iload_n hx hb dX7_sides_50 rfl (lv_at hl 2 rfl) ?_
        obtain ⟨x105, now106, hg, hf⟩ := o2_s hf
        refine Ct.callV0 (ws' := wM g m0 m1 m2 m3 m4 m5 m6 m7 m8 m9 m10 m11 m12 now106 kept aside ik found carried T S) (As := [.int x5, .int x1, .int x2]) (rest := [.int x4]) (st1 := [.int x105, .int x4]) (c_X7_leavesOpen l g m0 m1 m2 m3 m4 m5 m6 m7 m8 m9 m10 m11 m12 now kept aside ik found carried T S x5 x1 x2 hg) (cwV 3 hts gX7_sides_X7_leavesOpen rfl rfl rfl q_X7_leavesOpen ⟨Nat.le_of_ble_eq_true rfl, Nat.le_of_ble_eq_true rfl⟩) ⟨hx, hb, hml, hown, hts⟩ hE hP hD hS hA 7 0 rfl rfl rfl rfl hl.1 rfl rfl (Nat.le_of_ble_eq_true rfl) dX7_sides_51 (fun H locs hP hD hS => ?_)
        refine lv_if_eq (tgt := 64) hx hb dX7_sides_54 (by decide) (fun hc => ?_) (fun hc => ?_)
        · have hf := if_t hf hc
          refine lv_iconst (v := (0 : Int32)) hx hb dX7_sides_64 (by decide) ?_
          refine lv_ior hx hb dX7_sides_65 ?_
          refine lv_istore (lv' := [(4, .int (x4 ||| (0 : Int32))), (0, .ref m0), (1, .int x1), (2, .int x2), (5, .int x5)]) hx hb dX7_sides_66 hl (by decide) rfl (fun ls hl => ?_)
          refine lv_iinc (v := (x5 + (1 : Int32))) (lv' := [(5, .int (x5 + (1 : Int32))), (4, .int (x4 ||| (0 : Int32))), (0, .ref m0), (1, .int x1), (2, .int x2)]) hx hb dX7_sides_68 hl (k := 4) rfl rfl (by decide) rfl (fun ls hl => ?_)
          refine lv_goto (tgt := 38) hx hb dX7_sides_71 (by decide) ?_
          exact ih _ _ _ _ _ _  hf hP hD hS (lv_sub hl [2, 3, 4, 1, 0] rfl) hk
        · have hf := if_f hf hc
          refine lv_iconst (v := (1 : Int32)) hx hb dX7_sides_57 (by decide) ?_
          refine lv_iload hx hb dX7_sides_58 (lv_at hl 4 rfl) ?_
          refine lv_ishl hx hb dX7_sides_60 ?_
          refine lv_goto (tgt := 65) hx hb dX7_sides_61 (by decide) ?_
          refine lv_ior hx hb dX7_sides_65 ?_
          refine lv_istore (lv' := [(4, .int (x4 ||| ((1 : Int32) <<< (x5 &&& 31)))), (0, .ref m0), (1, .int x1), (2, .int x2), (5, .int x5)]) hx hb dX7_sides_66 hl (by decide) rfl (fun ls hl => ?_)
          refine lv_iinc (v := (x5 + (1 : Int32))) (lv' := [(5, .int (x5 + (1 : Int32))), (4, .int (x4 ||| ((1 : Int32) <<< (x5 &&& 31)))), (0, .ref m0), (1, .int x1), (2, .int x2)]) hx hb dX7_sides_68 hl (k := 4) rfl rfl (by decide) rfl (fun ls hl => ?_)
          refine lv_goto (tgt := 38) hx hb dX7_sides_71 (by decide) ?_
          exact ih _ _ _ _ _ _  hf hP hD hS (lv_sub hl [2, 3, 4, 1, 0] rfl) hk
  unfold fX7_sides at hf
  refine lv_aload_n hx hb dX7_sides_0 rfl (lv_at hl 0 rfl) ?_
  refine lv_iconst (v := (0 : Int32)) hx hb dX7_sides_1 (by decide) ?_
  refine lv_iload_n hx hb dX7_sides_2 rfl (lv_at hl 1 rfl) ?_
  refine lv_iload_n hx hb dX7_sides_3 rfl (lv_at hl 2 rfl) ?_
  refine lv_iconst (v := (1 : Int32)) hx hb dX7_sides_4 (by decide) ?_
  refine lv_bipush (v := (20 : Int32)) hx hb dX7_sides_5 (by decide) ?_
  obtain ⟨x101, hg, hf⟩ := o1_s hf
  refine Ct.callV0 (ws' := wM g m0 m1 m2 m3 m4 m5 m6 m7 m8 m9 m10 m11 m12 now kept aside ik found carried T S) (As := [.int (0 : Int32), .int a1, .int a2, .int (1 : Int32), .int (20 : Int32)]) (rest := []) (st1 := [.int x101]) (c_X7_refuses l g m0 m1 m2 m3 m4 m5 m6 m7 m8 m9 m10 m11 m12 now kept aside ik found carried T S (0 : Int32) a1 a2 (1 : Int32) (20 : Int32) hg) (cwV 5 hts gX7_sides_X7_refuses rfl rfl rfl q_X7_refuses ⟨Nat.le_of_ble_eq_true rfl, Nat.le_of_ble_eq_true rfl⟩) ⟨hx, hb, hml, hown, hts⟩ hE hP hD hS hA 7 0 rfl rfl rfl rfl hl.1 rfl rfl (Nat.le_of_ble_eq_true rfl) dX7_sides_7 (fun H locs hP hD hS => ?_)
  refine lv_istore_n (lv' := [(3, .int x101), (0, .ref m0), (1, .int a1), (2, .int a2)]) hx hb dX7_sides_10 rfl hl (by decide) rfl (fun ls hl => ?_)
  refine lv_iload_n hx hb dX7_sides_11 rfl (lv_at hl 0 rfl) ?_
  refine lv_if_eq (tgt := 21) hx hb dX7_sides_12 (by decide) (fun hc => ?_) (fun hc => ?_)
  · have hf := if_t hf hc
    refine lv_aload_n hx hb dX7_sides_21 rfl (lv_at hl 1 rfl) ?_
    refine va_get (D := g.1) (ci := 7) (v := .ref m1) (C := RX7) (T := TX7) (N := 22) hx hb hts i_X7_sides_X7 hown hE.1 hP 0 rfl rfl 0 (by decide) w1 (fun _ h9 => h9) rfl dX7_sides_22 ?_
    refine lv_aload_n hx hb dX7_sides_25 rfl (lv_at hl 1 rfl) ?_
    refine va_get (D := g.1) (ci := 7) (v := .ref m3) (C := RX7) (T := TX7) (N := 22) hx hb hts i_X7_sides_X7 hown hE.1 hP 0 rfl rfl 2 (by decide) w2 (fun _ h9 => h9) rfl dX7_sides_26 ?_
    obtain ⟨f2102, hg, hf⟩ := o1_s hf
    refine Ct.callS (ws' := wM g m0 m1 m2 m3 m4 m5 m6 m7 m8 m9 m10 m11 m12 now kept f2102 ik found carried T S) (As := [.ref m1, .ref m3]) (rest := []) (st1 := []) (c_X7_copyRow l g m1 m3 120 now aside hg) (va_cwS 2 hts gX7_sides_X7_copyRow rfl rfl rfl q_X7_copyRow.2 ⟨Nat.le_of_ble_eq_true rfl, Nat.le_of_ble_eq_true rfl⟩) ⟨hx, hb, hml, hown, hts⟩ hE hP hD hS hA [1, 3] rfl rfl rfl rfl rfl hl.1 rfl rfl (Nat.le_of_ble_eq_true rfl) dX7_sides_29 (fun H locs hP hD hS => ?_)
    refine lv_iconst (v := (0 : Int32)) hx hb dX7_sides_32 (by decide) ?_
    refine lv_istore (lv' := [(4, .int (0 : Int32)), (3, .int x101), (0, .ref m0), (1, .int a1), (2, .int a2)]) hx hb dX7_sides_33 hl (by decide) rfl (fun ls hl => ?_)
    refine lv_iconst (v := (0 : Int32)) hx hb dX7_sides_35 (by decide) ?_
    refine lv_istore (lv' := [(5, .int (0 : Int32)), (4, .int (0 : Int32)), (3, .int x101), (0, .ref m0), (1, .int a1), (2, .int a2)]) hx hb dX7_sides_36 hl (by decide) rfl (fun ls hl => ?_)
    refine L38 _ _ _ _ _ _ _ _ _ _ _ _  hf hP hD hS (lv_sub hl [3, 4, 5, 1, 0] rfl) (fun now107 x108 H locs ls hf hP hD hS hl => ?_)
    refine lv_iload hx hb dX7_sides_74 (lv_at hl 0 rfl) ?_
    obtain ⟨rfl, rfl, rfl, rfl⟩ := some_p4 hf
    rw [hQ]; exact Ct.iret hx hb hr hlocks hAe hP hD hS dX7_sides_76
  · have hf := if_f hf hc
    refine lv_aload_n hx hb dX7_sides_15 rfl (lv_at hl 1 rfl) ?_
    refine lv_iload_n hx hb dX7_sides_16 rfl (lv_at hl 0 rfl) ?_
    obtain ⟨x109, found110, hg, hf⟩ := o2_s hf
    refine Ct.callV0 (ws' := wM g m0 m1 m2 m3 m4 m5 m6 m7 m8 m9 m10 m11 m12 now kept aside ik found110 carried T S) (As := [.int x101]) (rest := []) (st1 := [.int x109]) (c_X7_finding l g m0 m1 m2 m3 m4 m5 m6 m7 m8 m9 m10 m11 m12 now kept aside ik found carried T S x101 hg) (cwV 1 hts gX7_sides_X7_finding rfl rfl rfl q_X7_finding ⟨Nat.le_of_ble_eq_true rfl, Nat.le_of_ble_eq_true rfl⟩) ⟨hx, hb, hml, hown, hts⟩ hE hP hD hS hA 7 0 rfl rfl rfl rfl hl.1 rfl rfl (Nat.le_of_ble_eq_true rfl) dX7_sides_17 (fun H locs hP hD hS => ?_)
    obtain ⟨rfl, rfl, rfl, rfl⟩ := some_p4 hf
    rw [hQ]; exact Ct.iret hx hb hr hlocks hAe hP hD hS dX7_sides_20
def fX7_cat (now : Nat → Int32) (found : Nat → Int32) : Option (Int32 × (Nat → Int32) × (Nat → Int32)) := rd now 120 (2 : Int32) (fun x101 => if x101 = 0 then (o2 (fX7_finding found (-1000005 : Int32)) (fun x111 found112 => some (x111, now, found112))) else (rd now 120 (2 : Int32) (fun x102 => o2 (fX7_drawn now x102) (fun x103 now104 => o1 (fX7_at x103 (4 : Int32)) (fun x105 => rd now104 120 (2 : Int32) (fun x106 => o2 (fX7_drawn now104 x106) (fun x107 now108 => wr now108 120 x105 x107 (fun f109 => o1 (fX7_cisternIs f109 x103 (4 : Int32)) (fun x110 => some (x110, f109, found))))))))))
theorem q_X7_cat : yX7_cat.cls = RX7 ∧ yX7_cat.cls ≠ "java/lang/invoke/MethodHandle" ∧ yX7_cat.cls ≠ "java/lang/invoke/VarHandle" ∧ (parseMethodDescriptor yX7_cat.desc).map (fun d => d.parameters.length) = some 0 := by decide +kernel
theorem i_X7_cat_X7 : ∀ w ∈ u_ws RX7 TX7 22, w ∈ wsX7_cat := fun _ h => List.mem_cons_of_mem _ (List.mem_append_right _ (h))
set_option maxHeartbeats 4000000 in
set_option maxRecDepth 100000 in
theorem c_X7_cat (l : Launch) (g : gG) (m0 m1 m2 m3 m4 m5 m6 m7 m8 m9 m10 m11 m12 : Nat) (now : Nat → Int32) (kept : Nat → Int32) (aside : Nat → Int32) (ik : Int32) (found : Nat → Int32) (carried : Nat → Int32) (T : Mt) (S : Ms) {r : Int32} {now' : Nat → Int32} {found' : Nat → Int32} (hf : fX7_cat now found = some (r, now', found')) : Ct l yX7_cat wsX7_cat (rmm 2 43) g (wM g m0 m1 m2 m3 m4 m5 m6 m7 m8 m9 m10 m11 m12 now kept aside ik found carried T S) (wM g m0 m1 m2 m3 m4 m5 m6 m7 m8 m9 m10 m11 m12 (now') kept aside ik (found') carried T S) [.ref m0] (some (.int r)) := by
  refine Ct.mk (by decide) rfl (Nat.le_of_ble_eq_true rfl) ?_
  intro p e s m args below meth c A ls hx hb hr hml hts hown hlocks hA hE hP hD hS hl hAe
  obtain ⟨Qx, hQ⟩ : ∃ Qx : State → Prop, Qx = MQ below (QcG g (wM g m0 m1 m2 m3 m4 m5 m6 m7 m8 m9 m10 m11 m12 now kept aside ik found carried T S) (wM g m0 m1 m2 m3 m4 m5 m6 m7 m8 m9 m10 m11 m12 (now') kept aside ik (found') carried T S) (some (.int r)) s.heap.size) args s 0 0 A := ⟨_, rfl⟩
  rw [← hQ]
  have hown : s.vm.findClass RX7 = some m.cls := hown
  have hl : lv_has ls 2 [(0, .ref m0)] := hl
  have w1 := hts (.fieldLink RX7 9 "RainVaultModel" "now" "[I") (List.mem_of_getElem? (i := 1) rfl)
  have w2 := hts (.constant RX7 173 (-1000005)) (List.mem_of_getElem? (i := 2) rfl)
  unfold fX7_cat at hf
  refine lv_aload_n hx hb dX7_cat_0 rfl (lv_at hl 0 rfl) ?_
  refine va_get (D := g.1) (ci := 7) (v := .ref m1) (C := RX7) (T := TX7) (N := 22) hx hb hts i_X7_cat_X7 hown hE.1 hP 0 rfl rfl 0 (by decide) w1 (fun _ h9 => h9) rfl dX7_cat_1 ?_
  refine lv_iconst (v := (2 : Int32)) hx hb dX7_cat_4 (by decide) ?_
  obtain ⟨x101, ex, hin, hf⟩ := rd_s hf
  refine st_iald (f := now) hx hb hE.1 hP 1 0 rfl rfl hin ex dX7_cat_5 ?_
  refine lv_if_ne (tgt := 16) hx hb dX7_cat_6 (by decide) (fun hc => ?_) (fun hc => ?_)
  · have hf := if_f hf hc
    refine lv_aload_n hx hb dX7_cat_16 rfl (lv_at hl 0 rfl) ?_
    refine lv_aload_n hx hb dX7_cat_17 rfl (lv_at hl 0 rfl) ?_
    refine va_get (D := g.1) (ci := 7) (v := .ref m1) (C := RX7) (T := TX7) (N := 22) hx hb hts i_X7_cat_X7 hown hE.1 hP 0 rfl rfl 0 (by decide) w1 (fun _ h9 => h9) rfl dX7_cat_18 ?_
    refine lv_iconst (v := (2 : Int32)) hx hb dX7_cat_21 (by decide) ?_
    obtain ⟨x102, ex, hin, hf⟩ := rd_s hf
    refine st_iald (f := now) hx hb hE.1 hP 1 0 rfl rfl hin ex dX7_cat_22 ?_
    obtain ⟨x103, now104, hg, hf⟩ := o2_s hf
    refine Ct.callV0 (ws' := wM g m0 m1 m2 m3 m4 m5 m6 m7 m8 m9 m10 m11 m12 now104 kept aside ik found carried T S) (As := [.int x102]) (rest := []) (st1 := [.int x103]) (c_X7_drawn l g m0 m1 m2 m3 m4 m5 m6 m7 m8 m9 m10 m11 m12 now kept aside ik found carried T S x102 hg) (cwV 1 hts gX7_cat_X7_drawn rfl rfl rfl q_X7_drawn ⟨Nat.le_of_ble_eq_true rfl, Nat.le_of_ble_eq_true rfl⟩) ⟨hx, hb, hml, hown, hts⟩ hE hP hD hS hA 7 0 rfl rfl rfl rfl hl.1 rfl rfl (Nat.le_of_ble_eq_true rfl) dX7_cat_23 (fun H locs hP hD hS => ?_)
    refine lv_istore_n (lv' := [(1, .int x103), (0, .ref m0)]) hx hb dX7_cat_26 rfl hl (by decide) rfl (fun ls hl => ?_)
    refine lv_aload_n hx hb dX7_cat_27 rfl (lv_at hl 1 rfl) ?_
    refine va_get (D := g.1) (ci := 7) (v := .ref m1) (C := RX7) (T := TX7) (N := 22) hx hb hts i_X7_cat_X7 hown hE.1 hP 0 rfl rfl 0 (by decide) w1 (fun _ h9 => h9) rfl dX7_cat_28 ?_
    refine lv_iload_n hx hb dX7_cat_31 rfl (lv_at hl 0 rfl) ?_
    refine lv_iconst (v := (4 : Int32)) hx hb dX7_cat_32 (by decide) ?_
    obtain ⟨x105, hg, hf⟩ := o1_s hf
    refine Ct.callS (ws' := wM g m0 m1 m2 m3 m4 m5 m6 m7 m8 m9 m10 m11 m12 now104 kept aside ik found carried T S) (As := [.int x103, .int (4 : Int32)]) (rest := [.ref m1]) (st1 := [.int x105, .ref m1]) (c_X7_at l g x103 (4 : Int32) hg) (va_cwS 2 hts gX7_cat_X7_at rfl rfl rfl q_X7_at.2 ⟨Nat.le_of_ble_eq_true rfl, Nat.le_of_ble_eq_true rfl⟩) ⟨hx, hb, hml, hown, hts⟩ hE hP hD hS hA [] rfl rfl rfl rfl rfl hl.1 rfl rfl (Nat.le_of_ble_eq_true rfl) dX7_cat_33 (fun H locs hP hD hS => ?_)
    refine lv_aload_n hx hb dX7_cat_36 rfl (lv_at hl 1 rfl) ?_
    refine lv_aload_n hx hb dX7_cat_37 rfl (lv_at hl 1 rfl) ?_
    refine va_get (D := g.1) (ci := 7) (v := .ref m1) (C := RX7) (T := TX7) (N := 22) hx hb hts i_X7_cat_X7 hown hE.1 hP 0 rfl rfl 0 (by decide) w1 (fun _ h9 => h9) rfl dX7_cat_38 ?_
    refine lv_iconst (v := (2 : Int32)) hx hb dX7_cat_41 (by decide) ?_
    obtain ⟨x106, ex, hin, hf⟩ := rd_s hf
    refine st_iald (f := now104) hx hb hE.1 hP 1 0 rfl rfl hin ex dX7_cat_42 ?_
    obtain ⟨x107, now108, hg, hf⟩ := o2_s hf
    refine Ct.callV0 (ws' := wM g m0 m1 m2 m3 m4 m5 m6 m7 m8 m9 m10 m11 m12 now108 kept aside ik found carried T S) (As := [.int x106]) (rest := [.int x105, .ref m1]) (st1 := [.int x107, .int x105, .ref m1]) (c_X7_drawn l g m0 m1 m2 m3 m4 m5 m6 m7 m8 m9 m10 m11 m12 now104 kept aside ik found carried T S x106 hg) (cwV 1 hts gX7_cat_X7_drawn rfl rfl rfl q_X7_drawn ⟨Nat.le_of_ble_eq_true rfl, Nat.le_of_ble_eq_true rfl⟩) ⟨hx, hb, hml, hown, hts⟩ hE hP hD hS hA 7 0 rfl rfl rfl rfl hl.1 rfl rfl (Nat.le_of_ble_eq_true rfl) dX7_cat_43 (fun H locs hP hD hS => ?_)
    obtain ⟨f109, ef, hin, hf⟩ := wr_s hf
    refine st_iast (ws' := wM g m0 m1 m2 m3 m4 m5 m6 m7 m8 m9 m10 m11 m12 f109 kept aside ik found carried T S) (f := now108) (f2 := f109) hx hb hE.1 hP hD hS 1 0 rfl rfl hin ef rfl dX7_cat_46 (fun H locs hP hD hS => ?_)
    refine lv_aload_n hx hb dX7_cat_47 rfl (lv_at hl 1 rfl) ?_
    refine lv_iload_n hx hb dX7_cat_48 rfl (lv_at hl 0 rfl) ?_
    refine lv_iconst (v := (4 : Int32)) hx hb dX7_cat_49 (by decide) ?_
    obtain ⟨x110, hg, hf⟩ := o1_s hf
    refine Ct.callV0 (ws' := wM g m0 m1 m2 m3 m4 m5 m6 m7 m8 m9 m10 m11 m12 f109 kept aside ik found carried T S) (As := [.int x103, .int (4 : Int32)]) (rest := []) (st1 := [.int x110]) (c_X7_cisternIs l g m0 m1 m2 m3 m4 m5 m6 m7 m8 m9 m10 m11 m12 f109 kept aside ik found carried T S x103 (4 : Int32) hg) (cwV 2 hts gX7_cat_X7_cisternIs rfl rfl rfl q_X7_cisternIs ⟨Nat.le_of_ble_eq_true rfl, Nat.le_of_ble_eq_true rfl⟩) ⟨hx, hb, hml, hown, hts⟩ hE hP hD hS hA 7 0 rfl rfl rfl rfl hl.1 rfl rfl (Nat.le_of_ble_eq_true rfl) dX7_cat_50 (fun H locs hP hD hS => ?_)
    obtain ⟨rfl, rfl, rfl⟩ := some_p3 hf
    rw [hQ]; exact Ct.iret hx hb hr hlocks hAe hP hD hS dX7_cat_53
  · have hf := if_t hf hc
    refine lv_aload_n hx hb dX7_cat_9 rfl (lv_at hl 0 rfl) ?_
    refine lv_ldc hx hb hown w2 dX7_cat_10 ?_
    obtain ⟨x111, found112, hg, hf⟩ := o2_s hf
    refine Ct.callV0 (ws' := wM g m0 m1 m2 m3 m4 m5 m6 m7 m8 m9 m10 m11 m12 now kept aside ik found112 carried T S) (As := [.int (-1000005 : Int32)]) (rest := []) (st1 := [.int x111]) (c_X7_finding l g m0 m1 m2 m3 m4 m5 m6 m7 m8 m9 m10 m11 m12 now kept aside ik found carried T S (-1000005 : Int32) hg) (cwV 1 hts gX7_cat_X7_finding rfl rfl rfl q_X7_finding ⟨Nat.le_of_ble_eq_true rfl, Nat.le_of_ble_eq_true rfl⟩) ⟨hx, hb, hml, hown, hts⟩ hE hP hD hS hA 7 0 rfl rfl rfl rfl hl.1 rfl rfl (Nat.le_of_ble_eq_true rfl) dX7_cat_12 (fun H locs hP hD hS => ?_)
    obtain ⟨rfl, rfl, rfl⟩ := some_p3 hf
    rw [hQ]; exact Ct.iret hx hb hr hlocks hAe hP hD hS dX7_cat_15
def fX7_seed (now : Nat → Int32) (a1 : Int32) : Option (Int32 × (Nat → Int32)) := o2 (fX7_become now (5 : Int32) a1) (fun x101 now102 => some (x101, now102))
theorem q_X7_seed : yX7_seed.cls = RX7 ∧ yX7_seed.cls ≠ "java/lang/invoke/MethodHandle" ∧ yX7_seed.cls ≠ "java/lang/invoke/VarHandle" ∧ (parseMethodDescriptor yX7_seed.desc).map (fun d => d.parameters.length) = some 1 := by decide +kernel
set_option maxHeartbeats 4000000 in
set_option maxRecDepth 100000 in
theorem c_X7_seed (l : Launch) (g : gG) (m0 m1 m2 m3 m4 m5 m6 m7 m8 m9 m10 m11 m12 : Nat) (now : Nat → Int32) (kept : Nat → Int32) (aside : Nat → Int32) (ik : Int32) (found : Nat → Int32) (carried : Nat → Int32) (T : Mt) (S : Ms) (a1 : Int32) {r : Int32} {now' : Nat → Int32} (hf : fX7_seed now a1 = some (r, now')) : Ct l yX7_seed wsX7_seed (rmm 1 23) g (wM g m0 m1 m2 m3 m4 m5 m6 m7 m8 m9 m10 m11 m12 now kept aside ik found carried T S) (wM g m0 m1 m2 m3 m4 m5 m6 m7 m8 m9 m10 m11 m12 (now') kept aside ik found carried T S) [.ref m0, .int a1] (some (.int r)) := by
  refine Ct.mk (by decide) rfl (Nat.le_of_ble_eq_true rfl) ?_
  intro p e s m args below meth c A ls hx hb hr hml hts hown hlocks hA hE hP hD hS hl hAe
  obtain ⟨Qx, hQ⟩ : ∃ Qx : State → Prop, Qx = MQ below (QcG g (wM g m0 m1 m2 m3 m4 m5 m6 m7 m8 m9 m10 m11 m12 now kept aside ik found carried T S) (wM g m0 m1 m2 m3 m4 m5 m6 m7 m8 m9 m10 m11 m12 (now') kept aside ik found carried T S) (some (.int r)) s.heap.size) args s 0 0 A := ⟨_, rfl⟩
  rw [← hQ]
  have hown : s.vm.findClass RX7 = some m.cls := hown
  have hl : lv_has ls 2 [(0, .ref m0), (1, .int a1)] := hl
  unfold fX7_seed at hf
  refine lv_aload_n hx hb dX7_seed_0 rfl (lv_at hl 0 rfl) ?_
  refine lv_iconst (v := (5 : Int32)) hx hb dX7_seed_1 (by decide) ?_
  refine lv_iload_n hx hb dX7_seed_2 rfl (lv_at hl 1 rfl) ?_
  obtain ⟨x101, now102, hg, hf⟩ := o2_s hf
  refine Ct.callV0 (ws' := wM g m0 m1 m2 m3 m4 m5 m6 m7 m8 m9 m10 m11 m12 now102 kept aside ik found carried T S) (As := [.int (5 : Int32), .int a1]) (rest := []) (st1 := [.int x101]) (c_X7_become l g m0 m1 m2 m3 m4 m5 m6 m7 m8 m9 m10 m11 m12 now kept aside ik found carried T S (5 : Int32) a1 hg) (cwV 2 hts gX7_seed_X7_become rfl rfl rfl q_X7_become ⟨Nat.le_of_ble_eq_true rfl, Nat.le_of_ble_eq_true rfl⟩) ⟨hx, hb, hml, hown, hts⟩ hE hP hD hS hA 7 0 rfl rfl rfl rfl hl.1 rfl rfl (Nat.le_of_ble_eq_true rfl) dX7_seed_3 (fun H locs hP hD hS => ?_)
  obtain ⟨rfl, rfl⟩ := some_p2 hf
  rw [hQ]; exact Ct.iret hx hb hr hlocks hAe hP hD hS dX7_seed_6
def fX7_feed_L38 (x1 : Int32) (kx : Mt → Option (Int32 × (Nat → Int32) × Mt)) : Nat → Mt → Int32 → Option (Int32 × (Nat → Int32) × Mt)
  | 0, _, _ => none
  | k + 1, T, x3 => if x3 < 0 then (kx T) else (wr T.1 120 T.2.2.1 ((x1 >>> (((8 : Int32) * x3) &&& 31)) &&& (255 : Int32)) (fun f103 => fX7_feed_L38 x1 kx k (f103, T.2.1, (T.2.2.1 + (1 : Int32)), T.2.2.2.1, T.2.2.2.2.1, T.2.2.2.2.2.1, T.2.2.2.2.2.2.1, T.2.2.2.2.2.2.2.1, T.2.2.2.2.2.2.2.2.1, T.2.2.2.2.2.2.2.2.2.1, T.2.2.2.2.2.2.2.2.2.2) (x3 + (-1 : Int32))))
def fX7_feed (found : Nat → Int32) (T : Mt) (a1 : Int32) (a2 : Int32) : Option (Int32 × (Nat → Int32) × Mt) := o1 (fX7_within a2 (1 : Int32) (4 : Int32)) (fun x101 => if x101 = 0 then (o2 (fX7_finding found (-1000001 : Int32)) (fun x107 found108 => some (x107, found108, T))) else (if (T.2.2.1 + a2) ≤ (120 : Int32) then (fX7_feed_L38 a1 (fun T104 => some (T104.2.2.1, found, T104)) fu T (a2 - (1 : Int32))) else (o2 (fX7_finding found (-1000002 : Int32)) (fun x105 found106 => some (x105, found106, T)))))
theorem q_X7_feed : yX7_feed.cls = RX7 ∧ yX7_feed.cls ≠ "java/lang/invoke/MethodHandle" ∧ yX7_feed.cls ≠ "java/lang/invoke/VarHandle" ∧ (parseMethodDescriptor yX7_feed.desc).map (fun d => d.parameters.length) = some 2 := by decide +kernel
theorem i_X7_feed_X7 : ∀ w ∈ u_ws RX7 TX7 22, w ∈ wsX7_feed := fun _ h => List.mem_cons_of_mem _ (List.mem_append_right _ (h))
set_option maxHeartbeats 4000000 in
set_option maxRecDepth 100000 in
theorem c_X7_feed (l : Launch) (g : gG) (m0 m1 m2 m3 m4 m5 m6 m7 m8 m9 m10 m11 m12 : Nat) (now : Nat → Int32) (kept : Nat → Int32) (aside : Nat → Int32) (ik : Int32) (found : Nat → Int32) (carried : Nat → Int32) (T : Mt) (S : Ms) (a1 : Int32) (a2 : Int32) {r : Int32} {found' : Nat → Int32} {T' : Mt} (hf : fX7_feed found T a1 a2 = some (r, found', T')) : Ct l yX7_feed wsX7_feed (rmm 1 22) g (wM g m0 m1 m2 m3 m4 m5 m6 m7 m8 m9 m10 m11 m12 now kept aside ik found carried T S) (wM g m0 m1 m2 m3 m4 m5 m6 m7 m8 m9 m10 m11 m12 now kept aside ik (found') carried (T') S) [.ref m0, .int a1, .int a2] (some (.int r)) := by
  refine Ct.mk (by decide) rfl (Nat.le_of_ble_eq_true rfl) ?_
  intro p e s m args below meth c A ls hx hb hr hml hts hown hlocks hA hE hP hD hS hl hAe
  obtain ⟨Qx, hQ⟩ : ∃ Qx : State → Prop, Qx = MQ below (QcG g (wM g m0 m1 m2 m3 m4 m5 m6 m7 m8 m9 m10 m11 m12 now kept aside ik found carried T S) (wM g m0 m1 m2 m3 m4 m5 m6 m7 m8 m9 m10 m11 m12 now kept aside ik (found') carried (T') S) (some (.int r)) s.heap.size) args s 0 0 A := ⟨_, rfl⟩
  rw [← hQ]
  have hown : s.vm.findClass RX7 = some m.cls := hown
  have hl : lv_has ls 4 [(0, .ref m0), (1, .int a1), (2, .int a2)] := hl
  have w1 := hts (.fieldLink RX7 225 "RainVaultModel" "taped" "I") (List.mem_of_getElem? (i := 2) rfl)
  have w2 := hts (.fieldLink RX7 25 "RainVaultModel" "tape" "[I") (List.mem_of_getElem? (i := 4) rfl)
  have w3 := hts (.constant RX7 84 (-1000002)) (List.mem_of_getElem? (i := 3) rfl)
  have w4 := hts (.constant RX7 63 (-1000001)) (List.mem_of_getElem? (i := 1) rfl)
  have L38 : ∀ (found : Nat → Int32) (x1 : Int32) (kx : Mt → Option (Int32 × (Nat → Int32) × Mt)) (k : Nat) (T : Mt) (x3 : Int32) (H : Heap) (locs : List Loc) (ls : Array Slot), fX7_feed_L38 x1 kx k T x3 = some (r, found', T') → va_P g.1 vwK (wM g m0 m1 m2 m3 m4 m5 m6 m7 m8 m9 m10 m11 m12 now kept aside ik found carried T S) H → va_D A (wM g m0 m1 m2 m3 m4 m5 m6 m7 m8 m9 m10 m11 m12 now kept aside ik found carried T S) → va_S A s.heap H locs → lv_has ls 4 [(0, .ref m0), (1, .int x1), (3, .int x3)] → (∀ (T : Mt) (H : Heap) (locs : List Loc) (ls : Array Slot), kx T = some (r, found', T') → va_P g.1 vwK (wM g m0 m1 m2 m3 m4 m5 m6 m7 m8 m9 m10 m11 m12 now kept aside ik found carried T S) H → va_D A (wM g m0 m1 m2 m3 m4 m5 m6 m7 m8 m9 m10 m11 m12 now kept aside ik found carried T S) → va_S A s.heap H locs → lv_has ls 4 [(0, .ref m0)] → W p l e (rmm 1 22) s m args below meth c H locs 0 0 Qx (F0 m 77 ls [])) → W p l e (rmm 1 22) s m args below meth c H locs 0 0 Qx (F0 m 38 ls []) := by
    intro found x1 kx k
    induction k with
    | zero => intro T x3 H locs ls hf; exact nomatch (show (none : Option (Int32 × (Nat → Int32) × Mt)) = some _ from hf)
    | succ k ih =>
      intro T x3 H locs ls hf hP hD hS hl hk
      rw [fX7_feed_L38] at hf
      refine lv_iload_n hx hb dX7_feed_38 rfl (lv_at hl 2 rfl) ?_
      refine lv_if_lt (tgt := 77) hx hb dX7_feed_39 (by decide) (fun hc => ?_) (fun hc => ?_)
      · have hf := if_t hf hc
        exact hk _ _ _ _  hf hP hD hS (lv_sub hl [0] rfl)
      · have hf := if_f hf hc
        refine lv_aload_n hx hb dX7_feed_42 rfl (lv_at hl 0 rfl) ?_
        refine va_get (D := g.1) (ci := 7) (v := .ref m6) (C := RX7) (T := TX7) (N := 22) hx hb hts i_X7_feed_X7 hown hE.1 hP 0 rfl rfl 6 (by decide) w2 (fun _ h9 => h9) rfl dX7_feed_43 ?_
        refine lv_aload_n hx hb dX7_feed_46 rfl (lv_at hl 0 rfl) ?_
        refine va_get (D := g.1) (ci := 7) (v := .int T.2.2.1) (C := RX7) (T := TX7) (N := 22) hx hb hts i_X7_feed_X7 hown hE.1 hP 0 rfl rfl 7 (by decide) w1 (fun _ h9 => h9) rfl dX7_feed_47 ?_
        refine lv_iload_n hx hb dX7_feed_50 rfl (lv_at hl 1 rfl) ?_
        refine lv_bipush (v := (8 : Int32)) hx hb dX7_feed_51 (by decide) ?_
        refine lv_iload_n hx hb dX7_feed_53 rfl (lv_at hl 2 rfl) ?_
        refine lv_imul hx hb dX7_feed_54 ?_
        refine lv_ishr hx hb dX7_feed_55 ?_
        refine lv_sipush (v := (255 : Int32)) hx hb dX7_feed_56 (by decide) ?_
        refine lv_iand hx hb dX7_feed_59 ?_
        obtain ⟨f103, ef, hin, hf⟩ := wr_s hf
        refine st_iast (ws' := wM g m0 m1 m2 m3 m4 m5 m6 m7 m8 m9 m10 m11 m12 now kept aside ik found carried (f103, T.2.1, T.2.2.1, T.2.2.2.1, T.2.2.2.2.1, T.2.2.2.2.2.1, T.2.2.2.2.2.2.1, T.2.2.2.2.2.2.2.1, T.2.2.2.2.2.2.2.2.1, T.2.2.2.2.2.2.2.2.2.1, T.2.2.2.2.2.2.2.2.2.2) S) (f := T.1) (f2 := f103) hx hb hE.1 hP hD hS 6 0 rfl rfl hin ef rfl dX7_feed_60 (fun H locs hP hD hS => ?_)
        refine lv_aload_n hx hb dX7_feed_61 rfl (lv_at hl 0 rfl) ?_
        refine lv_dup hx hb dX7_feed_62 rfl ?_
        refine va_get (D := g.1) (ci := 7) (v := .int T.2.2.1) (C := RX7) (T := TX7) (N := 22) hx hb hts i_X7_feed_X7 hown hE.1 hP 0 rfl rfl 7 (by decide) w1 (fun _ h9 => h9) rfl dX7_feed_63 ?_
        refine lv_iconst (v := (1 : Int32)) hx hb dX7_feed_66 (by decide) ?_
        refine lv_iadd hx hb dX7_feed_67 ?_
        refine va_put (D := g.1) (ci := 7) (v := .int (T.2.2.1 + (1 : Int32))) (ty := .int) (C := RX7) (T := TX7) (N := 22) hx hb hts i_X7_feed_X7 tyX7 tyX7_ok nmX7 hown hE.1 hP hD hS 0 rfl rfl 7 (by decide) w1 (fun _ h9 => h9) rfl (by decide +kernel) rfl rfl (Nat.le_of_ble_eq_true rfl) dX7_feed_68 (fun H locs hP hD hS => ?_)
        have hP : va_P g.1 vwK (wM g m0 m1 m2 m3 m4 m5 m6 m7 m8 m9 m10 m11 m12 now kept aside ik found carried (f103, T.2.1, (T.2.2.1 + (1 : Int32)), T.2.2.2.1, T.2.2.2.2.1, T.2.2.2.2.2.1, T.2.2.2.2.2.2.1, T.2.2.2.2.2.2.2.1, T.2.2.2.2.2.2.2.2.1, T.2.2.2.2.2.2.2.2.2.1, T.2.2.2.2.2.2.2.2.2.2) S) H := hP
        have hD : va_D A (wM g m0 m1 m2 m3 m4 m5 m6 m7 m8 m9 m10 m11 m12 now kept aside ik found carried (f103, T.2.1, (T.2.2.1 + (1 : Int32)), T.2.2.2.1, T.2.2.2.2.1, T.2.2.2.2.2.1, T.2.2.2.2.2.2.1, T.2.2.2.2.2.2.2.1, T.2.2.2.2.2.2.2.2.1, T.2.2.2.2.2.2.2.2.2.1, T.2.2.2.2.2.2.2.2.2.2) S) := hD
        refine lv_iinc (v := (x3 + (-1 : Int32))) (lv' := [(3, .int (x3 + (-1 : Int32))), (0, .ref m0), (1, .int x1)]) hx hb dX7_feed_71 hl (k := 2) rfl rfl (by decide) rfl (fun ls hl => ?_)
        refine lv_goto (tgt := 38) hx hb dX7_feed_74 (by decide) ?_
        exact ih _ _ _ _ _  hf hP hD hS (lv_sub hl [1, 2, 0] rfl) hk
  unfold fX7_feed at hf
  refine lv_iload_n hx hb dX7_feed_0 rfl (lv_at hl 2 rfl) ?_
  refine lv_iconst (v := (1 : Int32)) hx hb dX7_feed_1 (by decide) ?_
  refine lv_iconst (v := (4 : Int32)) hx hb dX7_feed_2 (by decide) ?_
  obtain ⟨x101, hg, hf⟩ := o1_s hf
  refine Ct.callS (ws' := wM g m0 m1 m2 m3 m4 m5 m6 m7 m8 m9 m10 m11 m12 now kept aside ik found carried T S) (As := [.int a2, .int (1 : Int32), .int (4 : Int32)]) (rest := []) (st1 := [.int x101]) (c_X7_within l g a2 (1 : Int32) (4 : Int32) hg) (va_cwS 3 hts gX7_feed_X7_within rfl rfl rfl q_X7_within.2 ⟨Nat.le_of_ble_eq_true rfl, Nat.le_of_ble_eq_true rfl⟩) ⟨hx, hb, hml, hown, hts⟩ hE hP hD hS hA [] rfl rfl rfl rfl rfl hl.1 rfl rfl (Nat.le_of_ble_eq_true rfl) dX7_feed_3 (fun H locs hP hD hS => ?_)
  refine lv_if_ne (tgt := 16) hx hb dX7_feed_6 (by decide) (fun hc => ?_) (fun hc => ?_)
  · have hf := if_f hf hc
    refine lv_aload_n hx hb dX7_feed_16 rfl (lv_at hl 0 rfl) ?_
    refine va_get (D := g.1) (ci := 7) (v := .int T.2.2.1) (C := RX7) (T := TX7) (N := 22) hx hb hts i_X7_feed_X7 hown hE.1 hP 0 rfl rfl 7 (by decide) w1 (fun _ h9 => h9) rfl dX7_feed_17 ?_
    refine lv_iload_n hx hb dX7_feed_20 rfl (lv_at hl 2 rfl) ?_
    refine lv_iadd hx hb dX7_feed_21 ?_
    refine lv_bipush (v := (120 : Int32)) hx hb dX7_feed_22 (by decide) ?_
    refine lv_icmp_le (tgt := 34) hx hb dX7_feed_24 (by decide) (fun hc => ?_) (fun hc => ?_)
    · have hf := if_t hf hc
      refine lv_iload_n hx hb dX7_feed_34 rfl (lv_at hl 2 rfl) ?_
      refine lv_iconst (v := (1 : Int32)) hx hb dX7_feed_35 (by decide) ?_
      refine lv_isub hx hb dX7_feed_36 ?_
      refine lv_istore_n (lv' := [(3, .int (a2 - (1 : Int32))), (0, .ref m0), (1, .int a1), (2, .int a2)]) hx hb dX7_feed_37 rfl hl (by decide) rfl (fun ls hl => ?_)
      refine L38 _ _ _ _ _ _ _ _ _  hf hP hD hS (lv_sub hl [1, 2, 0] rfl) (fun T104 H locs ls hf hP hD hS hl => ?_)
      refine lv_aload_n hx hb dX7_feed_77 rfl (lv_at hl 0 rfl) ?_
      refine va_get (D := g.1) (ci := 7) (v := .int T104.2.2.1) (C := RX7) (T := TX7) (N := 22) hx hb hts i_X7_feed_X7 hown hE.1 hP 0 rfl rfl 7 (by decide) w1 (fun _ h9 => h9) rfl dX7_feed_78 ?_
      obtain ⟨rfl, rfl, rfl⟩ := some_p3 hf
      rw [hQ]; exact Ct.iret hx hb hr hlocks hAe hP hD hS dX7_feed_81
    · have hf := if_f hf hc
      refine lv_aload_n hx hb dX7_feed_27 rfl (lv_at hl 0 rfl) ?_
      refine lv_ldc hx hb hown w3 dX7_feed_28 ?_
      obtain ⟨x105, found106, hg, hf⟩ := o2_s hf
      refine Ct.callV0 (ws' := wM g m0 m1 m2 m3 m4 m5 m6 m7 m8 m9 m10 m11 m12 now kept aside ik found106 carried T S) (As := [.int (-1000002 : Int32)]) (rest := []) (st1 := [.int x105]) (c_X7_finding l g m0 m1 m2 m3 m4 m5 m6 m7 m8 m9 m10 m11 m12 now kept aside ik found carried T S (-1000002 : Int32) hg) (cwV 1 hts gX7_feed_X7_finding rfl rfl rfl q_X7_finding ⟨Nat.le_of_ble_eq_true rfl, Nat.le_of_ble_eq_true rfl⟩) ⟨hx, hb, hml, hown, hts⟩ hE hP hD hS hA 7 0 rfl rfl rfl rfl hl.1 rfl rfl (Nat.le_of_ble_eq_true rfl) dX7_feed_30 (fun H locs hP hD hS => ?_)
      obtain ⟨rfl, rfl, rfl⟩ := some_p3 hf
      rw [hQ]; exact Ct.iret hx hb hr hlocks hAe hP hD hS dX7_feed_33
  · have hf := if_t hf hc
    refine lv_aload_n hx hb dX7_feed_9 rfl (lv_at hl 0 rfl) ?_
    refine lv_ldc hx hb hown w4 dX7_feed_10 ?_
    obtain ⟨x107, found108, hg, hf⟩ := o2_s hf
    refine Ct.callV0 (ws' := wM g m0 m1 m2 m3 m4 m5 m6 m7 m8 m9 m10 m11 m12 now kept aside ik found108 carried T S) (As := [.int (-1000001 : Int32)]) (rest := []) (st1 := [.int x107]) (c_X7_finding l g m0 m1 m2 m3 m4 m5 m6 m7 m8 m9 m10 m11 m12 now kept aside ik found carried T S (-1000001 : Int32) hg) (cwV 1 hts gX7_feed_X7_finding rfl rfl rfl q_X7_finding ⟨Nat.le_of_ble_eq_true rfl, Nat.le_of_ble_eq_true rfl⟩) ⟨hx, hb, hml, hown, hts⟩ hE hP hD hS hA 7 0 rfl rfl rfl rfl hl.1 rfl rfl (Nat.le_of_ble_eq_true rfl) dX7_feed_12 (fun H locs hP hD hS => ?_)
    obtain ⟨rfl, rfl, rfl⟩ := some_p3 hf
    rw [hQ]; exact Ct.iret hx hb hr hlocks hAe hP hD hS dX7_feed_15
def fX7_wipe (T : Mt) : Option (Int32 × Mt) := some (T.2.2.1, (T.1, T.2.1, (0 : Int32), T.2.2.2.1, T.2.2.2.2.1, T.2.2.2.2.2.1, T.2.2.2.2.2.2.1, T.2.2.2.2.2.2.2.1, T.2.2.2.2.2.2.2.2.1, T.2.2.2.2.2.2.2.2.2.1, T.2.2.2.2.2.2.2.2.2.2))
theorem q_X7_wipe : yX7_wipe.cls = RX7 ∧ yX7_wipe.cls ≠ "java/lang/invoke/MethodHandle" ∧ yX7_wipe.cls ≠ "java/lang/invoke/VarHandle" ∧ (parseMethodDescriptor yX7_wipe.desc).map (fun d => d.parameters.length) = some 0 := by decide +kernel
theorem i_X7_wipe_X7 : ∀ w ∈ u_ws RX7 TX7 22, w ∈ wsX7_wipe := fun _ h => List.mem_cons_of_mem _ (List.mem_append_right _ (h))
set_option maxHeartbeats 4000000 in
set_option maxRecDepth 100000 in
theorem c_X7_wipe (l : Launch) (g : gG) (m0 m1 m2 m3 m4 m5 m6 m7 m8 m9 m10 m11 m12 : Nat) (now : Nat → Int32) (kept : Nat → Int32) (aside : Nat → Int32) (ik : Int32) (found : Nat → Int32) (carried : Nat → Int32) (T : Mt) (S : Ms) {r : Int32} {T' : Mt} (hf : fX7_wipe T = some (r, T')) : Ct l yX7_wipe wsX7_wipe (rmm 0 0) g (wM g m0 m1 m2 m3 m4 m5 m6 m7 m8 m9 m10 m11 m12 now kept aside ik found carried T S) (wM g m0 m1 m2 m3 m4 m5 m6 m7 m8 m9 m10 m11 m12 now kept aside ik found carried (T') S) [.ref m0] (some (.int r)) := by
  refine Ct.mk (by decide) rfl (Nat.le_of_ble_eq_true rfl) ?_
  intro p e s m args below meth c A ls hx hb hr hml hts hown hlocks hA hE hP hD hS hl hAe
  obtain ⟨Qx, hQ⟩ : ∃ Qx : State → Prop, Qx = MQ below (QcG g (wM g m0 m1 m2 m3 m4 m5 m6 m7 m8 m9 m10 m11 m12 now kept aside ik found carried T S) (wM g m0 m1 m2 m3 m4 m5 m6 m7 m8 m9 m10 m11 m12 now kept aside ik found carried (T') S) (some (.int r)) s.heap.size) args s 0 0 A := ⟨_, rfl⟩
  rw [← hQ]
  have hown : s.vm.findClass RX7 = some m.cls := hown
  have hl : lv_has ls 2 [(0, .ref m0)] := hl
  have w1 := hts (.fieldLink RX7 225 "RainVaultModel" "taped" "I") (List.mem_of_getElem? (i := 1) rfl)
  unfold fX7_wipe at hf
  refine lv_aload_n hx hb dX7_wipe_0 rfl (lv_at hl 0 rfl) ?_
  refine va_get (D := g.1) (ci := 7) (v := .int T.2.2.1) (C := RX7) (T := TX7) (N := 22) hx hb hts i_X7_wipe_X7 hown hE.1 hP 0 rfl rfl 7 (by decide) w1 (fun _ h9 => h9) rfl dX7_wipe_1 ?_
  refine lv_istore_n (lv' := [(1, .int T.2.2.1), (0, .ref m0)]) hx hb dX7_wipe_4 rfl hl (by decide) rfl (fun ls hl => ?_)
  refine lv_aload_n hx hb dX7_wipe_5 rfl (lv_at hl 1 rfl) ?_
  refine lv_iconst (v := (0 : Int32)) hx hb dX7_wipe_6 (by decide) ?_
  refine va_put (D := g.1) (ci := 7) (v := .int (0 : Int32)) (ty := .int) (C := RX7) (T := TX7) (N := 22) hx hb hts i_X7_wipe_X7 tyX7 tyX7_ok nmX7 hown hE.1 hP hD hS 0 rfl rfl 7 (by decide) w1 (fun _ h9 => h9) rfl (by decide +kernel) rfl rfl (Nat.le_of_ble_eq_true rfl) dX7_wipe_7 (fun H locs hP hD hS => ?_)
  have hP : va_P g.1 vwK (wM g m0 m1 m2 m3 m4 m5 m6 m7 m8 m9 m10 m11 m12 now kept aside ik found carried (T.1, T.2.1, (0 : Int32), T.2.2.2.1, T.2.2.2.2.1, T.2.2.2.2.2.1, T.2.2.2.2.2.2.1, T.2.2.2.2.2.2.2.1, T.2.2.2.2.2.2.2.2.1, T.2.2.2.2.2.2.2.2.2.1, T.2.2.2.2.2.2.2.2.2.2) S) H := hP
  have hD : va_D A (wM g m0 m1 m2 m3 m4 m5 m6 m7 m8 m9 m10 m11 m12 now kept aside ik found carried (T.1, T.2.1, (0 : Int32), T.2.2.2.1, T.2.2.2.2.1, T.2.2.2.2.2.1, T.2.2.2.2.2.2.1, T.2.2.2.2.2.2.2.1, T.2.2.2.2.2.2.2.2.1, T.2.2.2.2.2.2.2.2.2.1, T.2.2.2.2.2.2.2.2.2.2) S) := hD
  refine lv_iload_n hx hb dX7_wipe_10 rfl (lv_at hl 0 rfl) ?_
  obtain ⟨rfl, rfl⟩ := some_p2 hf
  rw [hQ]; exact Ct.iret hx hb hr hlocks hAe hP hD hS dX7_wipe_11
def fX7_byteAt (T : Mt) (a1 : Int32) : Option (Int32) := if T.2.2.1 ≤ a1 then (some (-1 : Int32)) else (rd T.1 120 a1 (fun x101 => some x101))
theorem q_X7_byteAt : yX7_byteAt.cls = RX7 ∧ yX7_byteAt.cls ≠ "java/lang/invoke/MethodHandle" ∧ yX7_byteAt.cls ≠ "java/lang/invoke/VarHandle" ∧ (parseMethodDescriptor yX7_byteAt.desc).map (fun d => d.parameters.length) = some 1 := by decide +kernel
theorem i_X7_byteAt_X7 : ∀ w ∈ u_ws RX7 TX7 22, w ∈ wsX7_byteAt := fun _ h => List.mem_cons_of_mem _ (List.mem_append_right _ (h))
set_option maxHeartbeats 4000000 in
set_option maxRecDepth 100000 in
theorem c_X7_byteAt (l : Launch) (g : gG) (m0 m1 m2 m3 m4 m5 m6 m7 m8 m9 m10 m11 m12 : Nat) (now : Nat → Int32) (kept : Nat → Int32) (aside : Nat → Int32) (ik : Int32) (found : Nat → Int32) (carried : Nat → Int32) (T : Mt) (S : Ms) (a1 : Int32) {r : Int32} (hf : fX7_byteAt T a1 = some r) : Ct l yX7_byteAt wsX7_byteAt (rmm 0 0) g (wM g m0 m1 m2 m3 m4 m5 m6 m7 m8 m9 m10 m11 m12 now kept aside ik found carried T S) (wM g m0 m1 m2 m3 m4 m5 m6 m7 m8 m9 m10 m11 m12 now kept aside ik found carried T S) [.ref m0, .int a1] (some (.int r)) := by
  refine Ct.mk (by decide) rfl (Nat.le_of_ble_eq_true rfl) ?_
  intro p e s m args below meth c A ls hx hb hr hml hts hown hlocks hA hE hP hD hS hl hAe
  obtain ⟨Qx, hQ⟩ : ∃ Qx : State → Prop, Qx = MQ below (QcG g (wM g m0 m1 m2 m3 m4 m5 m6 m7 m8 m9 m10 m11 m12 now kept aside ik found carried T S) (wM g m0 m1 m2 m3 m4 m5 m6 m7 m8 m9 m10 m11 m12 now kept aside ik found carried T S) (some (.int r)) s.heap.size) args s 0 0 A := ⟨_, rfl⟩
  rw [← hQ]
  have hown : s.vm.findClass RX7 = some m.cls := hown
  have hl : lv_has ls 2 [(0, .ref m0), (1, .int a1)] := hl
  have w1 := hts (.fieldLink RX7 225 "RainVaultModel" "taped" "I") (List.mem_of_getElem? (i := 1) rfl)
  have w2 := hts (.fieldLink RX7 25 "RainVaultModel" "tape" "[I") (List.mem_of_getElem? (i := 2) rfl)
  unfold fX7_byteAt at hf
  refine lv_iload_n hx hb dX7_byteAt_0 rfl (lv_at hl 1 rfl) ?_
  refine lv_aload_n hx hb dX7_byteAt_1 rfl (lv_at hl 0 rfl) ?_
  refine va_get (D := g.1) (ci := 7) (v := .int T.2.2.1) (C := RX7) (T := TX7) (N := 22) hx hb hts i_X7_byteAt_X7 hown hE.1 hP 0 rfl rfl 7 (by decide) w1 (fun _ h9 => h9) rfl dX7_byteAt_2 ?_
  refine lv_icmp_ge (tgt := 17) hx hb dX7_byteAt_5 (by decide) (fun hc => ?_) (fun hc => ?_)
  · have hf := if_t hf hc
    refine lv_iconst (v := (-1 : Int32)) hx hb dX7_byteAt_17 (by decide) ?_
    obtain rfl := Option.some.inj hf
    rw [hQ]; exact Ct.iret hx hb hr hlocks hAe hP hD hS dX7_byteAt_18
  · have hf := if_f hf hc
    refine lv_aload_n hx hb dX7_byteAt_8 rfl (lv_at hl 0 rfl) ?_
    refine va_get (D := g.1) (ci := 7) (v := .ref m6) (C := RX7) (T := TX7) (N := 22) hx hb hts i_X7_byteAt_X7 hown hE.1 hP 0 rfl rfl 6 (by decide) w2 (fun _ h9 => h9) rfl dX7_byteAt_9 ?_
    refine lv_iload_n hx hb dX7_byteAt_12 rfl (lv_at hl 1 rfl) ?_
    obtain ⟨x101, ex, hin, hf⟩ := rd_s hf
    refine st_iald (f := T.1) hx hb hE.1 hP 6 0 rfl rfl hin ex dX7_byteAt_13 ?_
    refine lv_goto (tgt := 18) hx hb dX7_byteAt_14 (by decide) ?_
    obtain rfl := Option.some.inj hf
    rw [hQ]; exact Ct.iret hx hb hr hlocks hAe hP hD hS dX7_byteAt_18
def fX7_next_L8 (kx : Mt → Option (Mt)) : Nat → Mt → Option (Mt)
  | 0, _ => none
  | k + 1, T => o1 (fX7_byteAt T T.2.2.2.1) (fun x102 => if x102 = (32 : Int32) then (fX7_next_L8 kx k (T.1, T.2.1, T.2.2.1, (T.2.2.2.1 + (1 : Int32)), T.2.2.2.2.1, T.2.2.2.2.2.1, T.2.2.2.2.2.2.1, T.2.2.2.2.2.2.2.1, T.2.2.2.2.2.2.2.2.1, T.2.2.2.2.2.2.2.2.2.1, T.2.2.2.2.2.2.2.2.2.2)) else (kx T))
def fX7_next_L131 (kx : Mt → Option (Mt)) : Nat → Mt → Option (Mt)
  | 0, _ => none
  | k + 1, T => o1 (fX7_byteAt T T.2.2.2.2.1) (fun x110 => o1 (fX7_within x110 (48 : Int32) (57 : Int32)) (fun x111 => if x111 = 0 then (kx T) else (o1 (fX7_byteAt T T.2.2.2.2.1) (fun x112 => fX7_next_L131 kx k (T.1, T.2.1, T.2.2.1, T.2.2.2.1, (T.2.2.2.2.1 + (1 : Int32)), T.2.2.2.2.2.1, (if ((((10 : Int32) * T.2.2.2.2.2.2.1) + x112) - (48 : Int32)) < (1000 : Int32) then ((((10 : Int32) * T.2.2.2.2.2.2.1) + x112) - (48 : Int32)) else (1000 : Int32)), T.2.2.2.2.2.2.2.1, T.2.2.2.2.2.2.2.2.1, T.2.2.2.2.2.2.2.2.2.1, T.2.2.2.2.2.2.2.2.2.2)))))
def fX7_next_L84 (kx : Mt → Option (Mt)) : Nat → Mt → Option (Mt)
  | 0, _ => none
  | k + 1, T => o1 (fX7_byteAt T T.2.2.2.2.1) (fun x116 => o1 (fX7_within x116 (97 : Int32) (122 : Int32)) (fun x117 => if x117 = 0 then (kx T) else (fX7_next_L84 kx k (T.1, T.2.1, T.2.2.1, T.2.2.2.1, (T.2.2.2.2.1 + (1 : Int32)), T.2.2.2.2.2.1, T.2.2.2.2.2.2.1, T.2.2.2.2.2.2.2.1, T.2.2.2.2.2.2.2.2.1, T.2.2.2.2.2.2.2.2.2.1, T.2.2.2.2.2.2.2.2.2.2))))
def fX7_next (T : Mt) : Option (Mt) := fX7_next_L8 (fun T103 => o1 (fX7_byteAt T103 T103.2.2.2.1) (fun x104 => if 0 ≤ x104 then (o1 (fX7_within x104 (97 : Int32) (122 : Int32)) (fun x105 => if x105 = 0 then (o1 (fX7_within x104 (48 : Int32) (57 : Int32)) (fun x106 => if x106 = 0 then (some (T103.1, T103.2.1, T103.2.2.1, T103.2.2.2.1, (T103.2.2.2.1 + (1 : Int32)), (3 : Int32), (0 : Int32), T103.2.2.2.2.2.2.2.1, T103.2.2.2.2.2.2.2.2.1, T103.2.2.2.2.2.2.2.2.2.1, T103.2.2.2.2.2.2.2.2.2.2)) else (fX7_next_L131 (fun T113 => some T113) fu (T103.1, T103.2.1, T103.2.2.1, T103.2.2.2.1, T103.2.2.2.1, (2 : Int32), (0 : Int32), T103.2.2.2.2.2.2.2.1, T103.2.2.2.2.2.2.2.2.1, T103.2.2.2.2.2.2.2.2.2.1, T103.2.2.2.2.2.2.2.2.2.2)))) else (fX7_next_L84 (fun T118 => some T118) fu (T103.1, T103.2.1, T103.2.2.1, T103.2.2.2.1, T103.2.2.2.1, (1 : Int32), (0 : Int32), T103.2.2.2.2.2.2.2.1, T103.2.2.2.2.2.2.2.2.1, T103.2.2.2.2.2.2.2.2.2.1, T103.2.2.2.2.2.2.2.2.2.2)))) else (some (T103.1, T103.2.1, T103.2.2.1, T103.2.2.2.1, T103.2.2.2.1, (0 : Int32), (0 : Int32), T103.2.2.2.2.2.2.2.1, T103.2.2.2.2.2.2.2.2.1, T103.2.2.2.2.2.2.2.2.2.1, T103.2.2.2.2.2.2.2.2.2.2)))) fu (T.1, T.2.1, T.2.2.1, T.2.2.2.2.1, T.2.2.2.2.1, T.2.2.2.2.2.1, T.2.2.2.2.2.2.1, T.2.2.2.2.2.2.2.1, T.2.2.2.2.2.2.2.2.1, T.2.2.2.2.2.2.2.2.2.1, T.2.2.2.2.2.2.2.2.2.2)
theorem q_X7_next : yX7_next.cls = RX7 ∧ yX7_next.cls ≠ "java/lang/invoke/MethodHandle" ∧ yX7_next.cls ≠ "java/lang/invoke/VarHandle" ∧ (parseMethodDescriptor yX7_next.desc).map (fun d => d.parameters.length) = some 0 := by decide +kernel
theorem i_X7_next_X7 : ∀ w ∈ u_ws RX7 TX7 22, w ∈ wsX7_next := fun _ h => List.mem_cons_of_mem _ (List.mem_append_right _ (h))
set_option maxHeartbeats 4000000 in
set_option maxRecDepth 100000 in
theorem c_X7_next (l : Launch) (g : gG) (m0 m1 m2 m3 m4 m5 m6 m7 m8 m9 m10 m11 m12 : Nat) (now : Nat → Int32) (kept : Nat → Int32) (aside : Nat → Int32) (ik : Int32) (found : Nat → Int32) (carried : Nat → Int32) (T : Mt) (S : Ms) {T' : Mt} (hf : fX7_next T = some T') : Ct l yX7_next wsX7_next (rmm 1 40) g (wM g m0 m1 m2 m3 m4 m5 m6 m7 m8 m9 m10 m11 m12 now kept aside ik found carried T S) (wM g m0 m1 m2 m3 m4 m5 m6 m7 m8 m9 m10 m11 m12 now kept aside ik found carried (T') S) [.ref m0] none := by
  refine Ct.mk (by decide) rfl (Nat.le_of_ble_eq_true rfl) ?_
  intro p e s m args below meth c A ls hx hb hr hml hts hown hlocks hA hE hP hD hS hl hAe
  obtain ⟨Qx, hQ⟩ : ∃ Qx : State → Prop, Qx = MQ below (QcG g (wM g m0 m1 m2 m3 m4 m5 m6 m7 m8 m9 m10 m11 m12 now kept aside ik found carried T S) (wM g m0 m1 m2 m3 m4 m5 m6 m7 m8 m9 m10 m11 m12 now kept aside ik found carried (T') S) none s.heap.size) args s 0 0 A := ⟨_, rfl⟩
  rw [← hQ]
  have hown : s.vm.findClass RX7 = some m.cls := hown
  have hl : lv_has ls 2 [(0, .ref m0)] := hl
  have w1 := hts (.fieldLink RX7 229 "RainVaultModel" "ends" "I") (List.mem_of_getElem? (i := 1) rfl)
  have w2 := hts (.fieldLink RX7 232 "RainVaultModel" "begins" "I") (List.mem_of_getElem? (i := 2) rfl)
  have w3 := hts (.fieldLink RX7 238 "RainVaultModel" "value" "I") (List.mem_of_getElem? (i := 3) rfl)
  have w4 := hts (.fieldLink RX7 241 "RainVaultModel" "sort" "I") (List.mem_of_getElem? (i := 4) rfl)
  have w5 := hts (.methodLink RX7 104 Lib.Math.min.name) (List.mem_of_getElem? (i := 5) rfl)
  have w6 := hts (.static Lib.Math.min.name) (List.mem_of_getElem? (i := 6) rfl)
  have w7 := hts (.initialized "java/lang/Math") (List.mem_of_getElem? (i := 7) rfl)
  have w8 := hts (.code Lib.Math.min.name Lib.Math.min.code 2 (some .int)) (List.mem_of_getElem? (i := 8) rfl)
  have L8 : ∀ (kx : Mt → Option (Mt)) (k : Nat) (T : Mt) (H : Heap) (locs : List Loc) (ls : Array Slot), fX7_next_L8 kx k T = some T' → va_P g.1 vwK (wM g m0 m1 m2 m3 m4 m5 m6 m7 m8 m9 m10 m11 m12 now kept aside ik found carried T S) H → va_D A (wM g m0 m1 m2 m3 m4 m5 m6 m7 m8 m9 m10 m11 m12 now kept aside ik found carried T S) → va_S A s.heap H locs → lv_has ls 2 [(0, .ref m0)] → (∀ (T : Mt) (H : Heap) (locs : List Loc) (ls : Array Slot), kx T = some T' → va_P g.1 vwK (wM g m0 m1 m2 m3 m4 m5 m6 m7 m8 m9 m10 m11 m12 now kept aside ik found carried T S) H → va_D A (wM g m0 m1 m2 m3 m4 m5 m6 m7 m8 m9 m10 m11 m12 now kept aside ik found carried T S) → va_S A s.heap H locs → lv_has ls 2 [(0, .ref m0)] → W p l e (rmm 1 40) s m args below meth c H locs 0 0 Qx (F0 m 34 ls [])) → W p l e (rmm 1 40) s m args below meth c H locs 0 0 Qx (F0 m 8 ls []) := by
    intro kx k
    induction k with
    | zero => intro T H locs ls hf; exact nomatch (show (none : Option (Mt)) = some _ from hf)
    | succ k ih =>
      intro T H locs ls hf hP hD hS hl hk
      rw [fX7_next_L8] at hf
      refine lv_aload_n hx hb dX7_next_8 rfl (lv_at hl 0 rfl) ?_
      refine lv_aload_n hx hb dX7_next_9 rfl (lv_at hl 0 rfl) ?_
      refine va_get (D := g.1) (ci := 7) (v := .int T.2.2.2.1) (C := RX7) (T := TX7) (N := 22) hx hb hts i_X7_next_X7 hown hE.1 hP 0 rfl rfl 8 (by decide) w2 (fun _ h9 => h9) rfl dX7_next_10 ?_
      obtain ⟨x102, hg, hf⟩ := o1_s hf
      refine Ct.callV0 (ws' := wM g m0 m1 m2 m3 m4 m5 m6 m7 m8 m9 m10 m11 m12 now kept aside ik found carried T S) (As := [.int T.2.2.2.1]) (rest := []) (st1 := [.int x102]) (c_X7_byteAt l g m0 m1 m2 m3 m4 m5 m6 m7 m8 m9 m10 m11 m12 now kept aside ik found carried T S T.2.2.2.1 hg) (cwV 1 hts gX7_next_X7_byteAt rfl rfl rfl q_X7_byteAt ⟨Nat.le_of_ble_eq_true rfl, Nat.le_of_ble_eq_true rfl⟩) ⟨hx, hb, hml, hown, hts⟩ hE hP hD hS hA 7 0 rfl rfl rfl rfl hl.1 rfl rfl (Nat.le_of_ble_eq_true rfl) dX7_next_13 (fun H locs hP hD hS => ?_)
      refine lv_bipush (v := (32 : Int32)) hx hb dX7_next_16 (by decide) ?_
      refine lv_icmp_ne (tgt := 34) hx hb dX7_next_18 (by decide) (fun hc => ?_) (fun hc => ?_)
      · have hf := if_f hf hc
        exact hk _ _ _ _  hf hP hD hS (lv_sub hl [0] rfl)
      · have hf := if_t hf hc
        refine lv_aload_n hx hb dX7_next_21 rfl (lv_at hl 0 rfl) ?_
        refine lv_dup hx hb dX7_next_22 rfl ?_
        refine va_get (D := g.1) (ci := 7) (v := .int T.2.2.2.1) (C := RX7) (T := TX7) (N := 22) hx hb hts i_X7_next_X7 hown hE.1 hP 0 rfl rfl 8 (by decide) w2 (fun _ h9 => h9) rfl dX7_next_23 ?_
        refine lv_iconst (v := (1 : Int32)) hx hb dX7_next_26 (by decide) ?_
        refine lv_iadd hx hb dX7_next_27 ?_
        refine va_put (D := g.1) (ci := 7) (v := .int (T.2.2.2.1 + (1 : Int32))) (ty := .int) (C := RX7) (T := TX7) (N := 22) hx hb hts i_X7_next_X7 tyX7 tyX7_ok nmX7 hown hE.1 hP hD hS 0 rfl rfl 8 (by decide) w2 (fun _ h9 => h9) rfl (by decide +kernel) rfl rfl (Nat.le_of_ble_eq_true rfl) dX7_next_28 (fun H locs hP hD hS => ?_)
        have hP : va_P g.1 vwK (wM g m0 m1 m2 m3 m4 m5 m6 m7 m8 m9 m10 m11 m12 now kept aside ik found carried (T.1, T.2.1, T.2.2.1, (T.2.2.2.1 + (1 : Int32)), T.2.2.2.2.1, T.2.2.2.2.2.1, T.2.2.2.2.2.2.1, T.2.2.2.2.2.2.2.1, T.2.2.2.2.2.2.2.2.1, T.2.2.2.2.2.2.2.2.2.1, T.2.2.2.2.2.2.2.2.2.2) S) H := hP
        have hD : va_D A (wM g m0 m1 m2 m3 m4 m5 m6 m7 m8 m9 m10 m11 m12 now kept aside ik found carried (T.1, T.2.1, T.2.2.1, (T.2.2.2.1 + (1 : Int32)), T.2.2.2.2.1, T.2.2.2.2.2.1, T.2.2.2.2.2.2.1, T.2.2.2.2.2.2.2.1, T.2.2.2.2.2.2.2.2.1, T.2.2.2.2.2.2.2.2.2.1, T.2.2.2.2.2.2.2.2.2.2) S) := hD
        refine lv_goto (tgt := 8) hx hb dX7_next_31 (by decide) ?_
        exact ih _ _ _ _  hf hP hD hS (lv_sub hl [0] rfl) hk
  have L131 : ∀ (kx : Mt → Option (Mt)) (k : Nat) (T : Mt) (H : Heap) (locs : List Loc) (ls : Array Slot), fX7_next_L131 kx k T = some T' → va_P g.1 vwK (wM g m0 m1 m2 m3 m4 m5 m6 m7 m8 m9 m10 m11 m12 now kept aside ik found carried T S) H → va_D A (wM g m0 m1 m2 m3 m4 m5 m6 m7 m8 m9 m10 m11 m12 now kept aside ik found carried T S) → va_S A s.heap H locs → lv_has ls 2 [(0, .ref m0)] → (∀ (T : Mt) (H : Heap) (locs : List Loc) (ls : Array Slot), kx T = some T' → va_P g.1 vwK (wM g m0 m1 m2 m3 m4 m5 m6 m7 m8 m9 m10 m11 m12 now kept aside ik found carried T S) H → va_D A (wM g m0 m1 m2 m3 m4 m5 m6 m7 m8 m9 m10 m11 m12 now kept aside ik found carried T S) → va_S A s.heap H locs → lv_has ls 2 [] → W p l e (rmm 1 40) s m args below meth c H locs 0 0 Qx (F0 m 206 ls [])) → W p l e (rmm 1 40) s m args below meth c H locs 0 0 Qx (F0 m 131 ls []) := by
    intro kx k
    induction k with
    | zero => intro T H locs ls hf; exact nomatch (show (none : Option (Mt)) = some _ from hf)
    | succ k ih =>
      intro T H locs ls hf hP hD hS hl hk
      rw [fX7_next_L131] at hf
      refine lv_aload_n hx hb dX7_next_131 rfl (lv_at hl 0 rfl) ?_
      refine lv_aload_n hx hb dX7_next_132 rfl (lv_at hl 0 rfl) ?_
      refine va_get (D := g.1) (ci := 7) (v := .int T.2.2.2.2.1) (C := RX7) (T := TX7) (N := 22) hx hb hts i_X7_next_X7 hown hE.1 hP 0 rfl rfl 9 (by decide) w1 (fun _ h9 => h9) rfl dX7_next_133 ?_
      obtain ⟨x110, hg, hf⟩ := o1_s hf
      refine Ct.callV0 (ws' := wM g m0 m1 m2 m3 m4 m5 m6 m7 m8 m9 m10 m11 m12 now kept aside ik found carried T S) (As := [.int T.2.2.2.2.1]) (rest := []) (st1 := [.int x110]) (c_X7_byteAt l g m0 m1 m2 m3 m4 m5 m6 m7 m8 m9 m10 m11 m12 now kept aside ik found carried T S T.2.2.2.2.1 hg) (cwV 1 hts gX7_next_X7_byteAt rfl rfl rfl q_X7_byteAt ⟨Nat.le_of_ble_eq_true rfl, Nat.le_of_ble_eq_true rfl⟩) ⟨hx, hb, hml, hown, hts⟩ hE hP hD hS hA 7 0 rfl rfl rfl rfl hl.1 rfl rfl (Nat.le_of_ble_eq_true rfl) dX7_next_136 (fun H locs hP hD hS => ?_)
      refine lv_bipush (v := (48 : Int32)) hx hb dX7_next_139 (by decide) ?_
      refine lv_bipush (v := (57 : Int32)) hx hb dX7_next_141 (by decide) ?_
      obtain ⟨x111, hg, hf⟩ := o1_s hf
      refine Ct.callS (ws' := wM g m0 m1 m2 m3 m4 m5 m6 m7 m8 m9 m10 m11 m12 now kept aside ik found carried T S) (As := [.int x110, .int (48 : Int32), .int (57 : Int32)]) (rest := []) (st1 := [.int x111]) (c_X7_within l g x110 (48 : Int32) (57 : Int32) hg) (va_cwS 3 hts gX7_next_X7_within rfl rfl rfl q_X7_within.2 ⟨Nat.le_of_ble_eq_true rfl, Nat.le_of_ble_eq_true rfl⟩) ⟨hx, hb, hml, hown, hts⟩ hE hP hD hS hA [] rfl rfl rfl rfl rfl hl.1 rfl rfl (Nat.le_of_ble_eq_true rfl) dX7_next_143 (fun H locs hP hD hS => ?_)
      refine lv_if_eq (tgt := 206) hx hb dX7_next_146 (by decide) (fun hc => ?_) (fun hc => ?_)
      · have hf := if_t hf hc
        exact hk _ _ _ _  hf hP hD hS (lv_sub hl [] rfl)
      · have hf := if_f hf hc
        refine lv_aload_n hx hb dX7_next_149 rfl (lv_at hl 0 rfl) ?_
        refine lv_sipush (v := (1000 : Int32)) hx hb dX7_next_150 (by decide) ?_
        refine lv_bipush (v := (10 : Int32)) hx hb dX7_next_153 (by decide) ?_
        refine lv_aload_n hx hb dX7_next_155 rfl (lv_at hl 0 rfl) ?_
        refine va_get (D := g.1) (ci := 7) (v := .int T.2.2.2.2.2.2.1) (C := RX7) (T := TX7) (N := 22) hx hb hts i_X7_next_X7 hown hE.1 hP 0 rfl rfl 11 (by decide) w3 (fun _ h9 => h9) rfl dX7_next_156 ?_
        refine lv_imul hx hb dX7_next_159 ?_
        refine lv_aload_n hx hb dX7_next_160 rfl (lv_at hl 0 rfl) ?_
        refine lv_aload_n hx hb dX7_next_161 rfl (lv_at hl 0 rfl) ?_
        refine va_get (D := g.1) (ci := 7) (v := .int T.2.2.2.2.1) (C := RX7) (T := TX7) (N := 22) hx hb hts i_X7_next_X7 hown hE.1 hP 0 rfl rfl 9 (by decide) w1 (fun _ h9 => h9) rfl dX7_next_162 ?_
        obtain ⟨x112, hg, hf⟩ := o1_s hf
        refine Ct.callV0 (ws' := wM g m0 m1 m2 m3 m4 m5 m6 m7 m8 m9 m10 m11 m12 now kept aside ik found carried T S) (As := [.int T.2.2.2.2.1]) (rest := [.int ((10 : Int32) * T.2.2.2.2.2.2.1), .int (1000 : Int32), .ref m0]) (st1 := [.int x112, .int ((10 : Int32) * T.2.2.2.2.2.2.1), .int (1000 : Int32), .ref m0]) (c_X7_byteAt l g m0 m1 m2 m3 m4 m5 m6 m7 m8 m9 m10 m11 m12 now kept aside ik found carried T S T.2.2.2.2.1 hg) (cwV 1 hts gX7_next_X7_byteAt rfl rfl rfl q_X7_byteAt ⟨Nat.le_of_ble_eq_true rfl, Nat.le_of_ble_eq_true rfl⟩) ⟨hx, hb, hml, hown, hts⟩ hE hP hD hS hA 7 0 rfl rfl rfl rfl hl.1 rfl rfl (Nat.le_of_ble_eq_true rfl) dX7_next_165 (fun H locs hP hD hS => ?_)
        refine lv_iadd hx hb dX7_next_168 ?_
        refine lv_bipush (v := (48 : Int32)) hx hb dX7_next_169 (by decide) ?_
        refine lv_isub hx hb dX7_next_171 ?_
        refine va_mmin hx hb (hml.trans hl.1.symm) hown w5 w6 w7 w8 (Nat.le_of_ble_eq_true rfl) (Nat.le_of_ble_eq_true rfl) (Nat.zero_le _) (Nat.zero_le _) dX7_next_172 ?_
        refine va_put (D := g.1) (ci := 7) (v := .int (if ((((10 : Int32) * T.2.2.2.2.2.2.1) + x112) - (48 : Int32)) < (1000 : Int32) then ((((10 : Int32) * T.2.2.2.2.2.2.1) + x112) - (48 : Int32)) else (1000 : Int32))) (ty := .int) (C := RX7) (T := TX7) (N := 22) hx hb hts i_X7_next_X7 tyX7 tyX7_ok nmX7 hown hE.1 hP hD hS 0 rfl rfl 11 (by decide) w3 (fun _ h9 => h9) rfl (by decide +kernel) rfl rfl (Nat.le_of_ble_eq_true rfl) dX7_next_175 (fun H locs hP hD hS => ?_)
        have hP : va_P g.1 vwK (wM g m0 m1 m2 m3 m4 m5 m6 m7 m8 m9 m10 m11 m12 now kept aside ik found carried (T.1, T.2.1, T.2.2.1, T.2.2.2.1, T.2.2.2.2.1, T.2.2.2.2.2.1, (if ((((10 : Int32) * T.2.2.2.2.2.2.1) + x112) - (48 : Int32)) < (1000 : Int32) then ((((10 : Int32) * T.2.2.2.2.2.2.1) + x112) - (48 : Int32)) else (1000 : Int32)), T.2.2.2.2.2.2.2.1, T.2.2.2.2.2.2.2.2.1, T.2.2.2.2.2.2.2.2.2.1, T.2.2.2.2.2.2.2.2.2.2) S) H := hP
        have hD : va_D A (wM g m0 m1 m2 m3 m4 m5 m6 m7 m8 m9 m10 m11 m12 now kept aside ik found carried (T.1, T.2.1, T.2.2.1, T.2.2.2.1, T.2.2.2.2.1, T.2.2.2.2.2.1, (if ((((10 : Int32) * T.2.2.2.2.2.2.1) + x112) - (48 : Int32)) < (1000 : Int32) then ((((10 : Int32) * T.2.2.2.2.2.2.1) + x112) - (48 : Int32)) else (1000 : Int32)), T.2.2.2.2.2.2.2.1, T.2.2.2.2.2.2.2.2.1, T.2.2.2.2.2.2.2.2.2.1, T.2.2.2.2.2.2.2.2.2.2) S) := hD
        refine lv_aload_n hx hb dX7_next_178 rfl (lv_at hl 0 rfl) ?_
        refine lv_dup hx hb dX7_next_179 rfl ?_
        refine va_get (D := g.1) (ci := 7) (v := .int T.2.2.2.2.1) (C := RX7) (T := TX7) (N := 22) hx hb hts i_X7_next_X7 hown hE.1 hP 0 rfl rfl 9 (by decide) w1 (fun _ h9 => h9) rfl dX7_next_180 ?_
        refine lv_iconst (v := (1 : Int32)) hx hb dX7_next_183 (by decide) ?_
        refine lv_iadd hx hb dX7_next_184 ?_
        refine va_put (D := g.1) (ci := 7) (v := .int (T.2.2.2.2.1 + (1 : Int32))) (ty := .int) (C := RX7) (T := TX7) (N := 22) hx hb hts i_X7_next_X7 tyX7 tyX7_ok nmX7 hown hE.1 hP hD hS 0 rfl rfl 9 (by decide) w1 (fun _ h9 => h9) rfl (by decide +kernel) rfl rfl (Nat.le_of_ble_eq_true rfl) dX7_next_185 (fun H locs hP hD hS => ?_)
        have hP : va_P g.1 vwK (wM g m0 m1 m2 m3 m4 m5 m6 m7 m8 m9 m10 m11 m12 now kept aside ik found carried (T.1, T.2.1, T.2.2.1, T.2.2.2.1, (T.2.2.2.2.1 + (1 : Int32)), T.2.2.2.2.2.1, (if ((((10 : Int32) * T.2.2.2.2.2.2.1) + x112) - (48 : Int32)) < (1000 : Int32) then ((((10 : Int32) * T.2.2.2.2.2.2.1) + x112) - (48 : Int32)) else (1000 : Int32)), T.2.2.2.2.2.2.2.1, T.2.2.2.2.2.2.2.2.1, T.2.2.2.2.2.2.2.2.2.1, T.2.2.2.2.2.2.2.2.2.2) S) H := hP
        have hD : va_D A (wM g m0 m1 m2 m3 m4 m5 m6 m7 m8 m9 m10 m11 m12 now kept aside ik found carried (T.1, T.2.1, T.2.2.1, T.2.2.2.1, (T.2.2.2.2.1 + (1 : Int32)), T.2.2.2.2.2.1, (if ((((10 : Int32) * T.2.2.2.2.2.2.1) + x112) - (48 : Int32)) < (1000 : Int32) then ((((10 : Int32) * T.2.2.2.2.2.2.1) + x112) - (48 : Int32)) else (1000 : Int32)), T.2.2.2.2.2.2.2.1, T.2.2.2.2.2.2.2.2.1, T.2.2.2.2.2.2.2.2.2.1, T.2.2.2.2.2.2.2.2.2.2) S) := hD
        refine lv_goto (tgt := 131) hx hb dX7_next_188 (by decide) ?_
        exact ih _ _ _ _  hf hP hD hS (lv_sub hl [0] rfl) hk
  have L84 : ∀ (kx : Mt → Option (Mt)) (k : Nat) (T : Mt) (H : Heap) (locs : List Loc) (ls : Array Slot), fX7_next_L84 kx k T = some T' → va_P g.1 vwK (wM g m0 m1 m2 m3 m4 m5 m6 m7 m8 m9 m10 m11 m12 now kept aside ik found carried T S) H → va_D A (wM g m0 m1 m2 m3 m4 m5 m6 m7 m8 m9 m10 m11 m12 now kept aside ik found carried T S) → va_S A s.heap H locs → lv_has ls 2 [(0, .ref m0)] → (∀ (T : Mt) (H : Heap) (locs : List Loc) (ls : Array Slot), kx T = some T' → va_P g.1 vwK (wM g m0 m1 m2 m3 m4 m5 m6 m7 m8 m9 m10 m11 m12 now kept aside ik found carried T S) H → va_D A (wM g m0 m1 m2 m3 m4 m5 m6 m7 m8 m9 m10 m11 m12 now kept aside ik found carried T S) → va_S A s.heap H locs → lv_has ls 2 [] → W p l e (rmm 1 40) s m args below meth c H locs 0 0 Qx (F0 m 206 ls [])) → W p l e (rmm 1 40) s m args below meth c H locs 0 0 Qx (F0 m 84 ls []) := by
    intro kx k
    induction k with
    | zero => intro T H locs ls hf; exact nomatch (show (none : Option (Mt)) = some _ from hf)
    | succ k ih =>
      intro T H locs ls hf hP hD hS hl hk
      rw [fX7_next_L84] at hf
      refine lv_aload_n hx hb dX7_next_84 rfl (lv_at hl 0 rfl) ?_
      refine lv_aload_n hx hb dX7_next_85 rfl (lv_at hl 0 rfl) ?_
      refine va_get (D := g.1) (ci := 7) (v := .int T.2.2.2.2.1) (C := RX7) (T := TX7) (N := 22) hx hb hts i_X7_next_X7 hown hE.1 hP 0 rfl rfl 9 (by decide) w1 (fun _ h9 => h9) rfl dX7_next_86 ?_
      obtain ⟨x116, hg, hf⟩ := o1_s hf
      refine Ct.callV0 (ws' := wM g m0 m1 m2 m3 m4 m5 m6 m7 m8 m9 m10 m11 m12 now kept aside ik found carried T S) (As := [.int T.2.2.2.2.1]) (rest := []) (st1 := [.int x116]) (c_X7_byteAt l g m0 m1 m2 m3 m4 m5 m6 m7 m8 m9 m10 m11 m12 now kept aside ik found carried T S T.2.2.2.2.1 hg) (cwV 1 hts gX7_next_X7_byteAt rfl rfl rfl q_X7_byteAt ⟨Nat.le_of_ble_eq_true rfl, Nat.le_of_ble_eq_true rfl⟩) ⟨hx, hb, hml, hown, hts⟩ hE hP hD hS hA 7 0 rfl rfl rfl rfl hl.1 rfl rfl (Nat.le_of_ble_eq_true rfl) dX7_next_89 (fun H locs hP hD hS => ?_)
      refine lv_bipush (v := (97 : Int32)) hx hb dX7_next_92 (by decide) ?_
      refine lv_bipush (v := (122 : Int32)) hx hb dX7_next_94 (by decide) ?_
      obtain ⟨x117, hg, hf⟩ := o1_s hf
      refine Ct.callS (ws' := wM g m0 m1 m2 m3 m4 m5 m6 m7 m8 m9 m10 m11 m12 now kept aside ik found carried T S) (As := [.int x116, .int (97 : Int32), .int (122 : Int32)]) (rest := []) (st1 := [.int x117]) (c_X7_within l g x116 (97 : Int32) (122 : Int32) hg) (va_cwS 3 hts gX7_next_X7_within rfl rfl rfl q_X7_within.2 ⟨Nat.le_of_ble_eq_true rfl, Nat.le_of_ble_eq_true rfl⟩) ⟨hx, hb, hml, hown, hts⟩ hE hP hD hS hA [] rfl rfl rfl rfl rfl hl.1 rfl rfl (Nat.le_of_ble_eq_true rfl) dX7_next_96 (fun H locs hP hD hS => ?_)
      refine lv_if_eq (tgt := 206) hx hb dX7_next_99 (by decide) (fun hc => ?_) (fun hc => ?_)
      · have hf := if_t hf hc
        exact hk _ _ _ _  hf hP hD hS (lv_sub hl [] rfl)
      · have hf := if_f hf hc
        refine lv_aload_n hx hb dX7_next_102 rfl (lv_at hl 0 rfl) ?_
        refine lv_dup hx hb dX7_next_103 rfl ?_
        refine va_get (D := g.1) (ci := 7) (v := .int T.2.2.2.2.1) (C := RX7) (T := TX7) (N := 22) hx hb hts i_X7_next_X7 hown hE.1 hP 0 rfl rfl 9 (by decide) w1 (fun _ h9 => h9) rfl dX7_next_104 ?_
        refine lv_iconst (v := (1 : Int32)) hx hb dX7_next_107 (by decide) ?_
        refine lv_iadd hx hb dX7_next_108 ?_
        refine va_put (D := g.1) (ci := 7) (v := .int (T.2.2.2.2.1 + (1 : Int32))) (ty := .int) (C := RX7) (T := TX7) (N := 22) hx hb hts i_X7_next_X7 tyX7 tyX7_ok nmX7 hown hE.1 hP hD hS 0 rfl rfl 9 (by decide) w1 (fun _ h9 => h9) rfl (by decide +kernel) rfl rfl (Nat.le_of_ble_eq_true rfl) dX7_next_109 (fun H locs hP hD hS => ?_)
        have hP : va_P g.1 vwK (wM g m0 m1 m2 m3 m4 m5 m6 m7 m8 m9 m10 m11 m12 now kept aside ik found carried (T.1, T.2.1, T.2.2.1, T.2.2.2.1, (T.2.2.2.2.1 + (1 : Int32)), T.2.2.2.2.2.1, T.2.2.2.2.2.2.1, T.2.2.2.2.2.2.2.1, T.2.2.2.2.2.2.2.2.1, T.2.2.2.2.2.2.2.2.2.1, T.2.2.2.2.2.2.2.2.2.2) S) H := hP
        have hD : va_D A (wM g m0 m1 m2 m3 m4 m5 m6 m7 m8 m9 m10 m11 m12 now kept aside ik found carried (T.1, T.2.1, T.2.2.1, T.2.2.2.1, (T.2.2.2.2.1 + (1 : Int32)), T.2.2.2.2.2.1, T.2.2.2.2.2.2.1, T.2.2.2.2.2.2.2.1, T.2.2.2.2.2.2.2.2.1, T.2.2.2.2.2.2.2.2.2.1, T.2.2.2.2.2.2.2.2.2.2) S) := hD
        refine lv_goto (tgt := 84) hx hb dX7_next_112 (by decide) ?_
        exact ih _ _ _ _  hf hP hD hS (lv_sub hl [0] rfl) hk
  unfold fX7_next at hf
  refine lv_aload_n hx hb dX7_next_0 rfl (lv_at hl 0 rfl) ?_
  refine lv_aload_n hx hb dX7_next_1 rfl (lv_at hl 0 rfl) ?_
  refine va_get (D := g.1) (ci := 7) (v := .int T.2.2.2.2.1) (C := RX7) (T := TX7) (N := 22) hx hb hts i_X7_next_X7 hown hE.1 hP 0 rfl rfl 9 (by decide) w1 (fun _ h9 => h9) rfl dX7_next_2 ?_
  refine va_put (D := g.1) (ci := 7) (v := .int T.2.2.2.2.1) (ty := .int) (C := RX7) (T := TX7) (N := 22) hx hb hts i_X7_next_X7 tyX7 tyX7_ok nmX7 hown hE.1 hP hD hS 0 rfl rfl 8 (by decide) w2 (fun _ h9 => h9) rfl (by decide +kernel) rfl rfl (Nat.le_of_ble_eq_true rfl) dX7_next_5 (fun H locs hP hD hS => ?_)
  have hP : va_P g.1 vwK (wM g m0 m1 m2 m3 m4 m5 m6 m7 m8 m9 m10 m11 m12 now kept aside ik found carried (T.1, T.2.1, T.2.2.1, T.2.2.2.2.1, T.2.2.2.2.1, T.2.2.2.2.2.1, T.2.2.2.2.2.2.1, T.2.2.2.2.2.2.2.1, T.2.2.2.2.2.2.2.2.1, T.2.2.2.2.2.2.2.2.2.1, T.2.2.2.2.2.2.2.2.2.2) S) H := hP
  have hD : va_D A (wM g m0 m1 m2 m3 m4 m5 m6 m7 m8 m9 m10 m11 m12 now kept aside ik found carried (T.1, T.2.1, T.2.2.1, T.2.2.2.2.1, T.2.2.2.2.1, T.2.2.2.2.2.1, T.2.2.2.2.2.2.1, T.2.2.2.2.2.2.2.1, T.2.2.2.2.2.2.2.2.1, T.2.2.2.2.2.2.2.2.2.1, T.2.2.2.2.2.2.2.2.2.2) S) := hD
  refine L8 _ _ _ _ _ _  hf hP hD hS (lv_sub hl [0] rfl) (fun T103 H locs ls hf hP hD hS hl => ?_)
  refine lv_aload_n hx hb dX7_next_34 rfl (lv_at hl 0 rfl) ?_
  refine lv_aload_n hx hb dX7_next_35 rfl (lv_at hl 0 rfl) ?_
  refine va_get (D := g.1) (ci := 7) (v := .int T103.2.2.2.1) (C := RX7) (T := TX7) (N := 22) hx hb hts i_X7_next_X7 hown hE.1 hP 0 rfl rfl 8 (by decide) w2 (fun _ h9 => h9) rfl dX7_next_36 ?_
  obtain ⟨x104, hg, hf⟩ := o1_s hf
  refine Ct.callV0 (ws' := wM g m0 m1 m2 m3 m4 m5 m6 m7 m8 m9 m10 m11 m12 now kept aside ik found carried T103 S) (As := [.int T103.2.2.2.1]) (rest := []) (st1 := [.int x104]) (c_X7_byteAt l g m0 m1 m2 m3 m4 m5 m6 m7 m8 m9 m10 m11 m12 now kept aside ik found carried T103 S T103.2.2.2.1 hg) (cwV 1 hts gX7_next_X7_byteAt rfl rfl rfl q_X7_byteAt ⟨Nat.le_of_ble_eq_true rfl, Nat.le_of_ble_eq_true rfl⟩) ⟨hx, hb, hml, hown, hts⟩ hE hP hD hS hA 7 0 rfl rfl rfl rfl hl.1 rfl rfl (Nat.le_of_ble_eq_true rfl) dX7_next_39 (fun H locs hP hD hS => ?_)
  refine lv_istore_n (lv' := [(1, .int x104), (0, .ref m0)]) hx hb dX7_next_42 rfl hl (by decide) rfl (fun ls hl => ?_)
  refine lv_aload_n hx hb dX7_next_43 rfl (lv_at hl 1 rfl) ?_
  refine lv_aload_n hx hb dX7_next_44 rfl (lv_at hl 1 rfl) ?_
  refine va_get (D := g.1) (ci := 7) (v := .int T103.2.2.2.1) (C := RX7) (T := TX7) (N := 22) hx hb hts i_X7_next_X7 hown hE.1 hP 0 rfl rfl 8 (by decide) w2 (fun _ h9 => h9) rfl dX7_next_45 ?_
  refine va_put (D := g.1) (ci := 7) (v := .int T103.2.2.2.1) (ty := .int) (C := RX7) (T := TX7) (N := 22) hx hb hts i_X7_next_X7 tyX7 tyX7_ok nmX7 hown hE.1 hP hD hS 0 rfl rfl 9 (by decide) w1 (fun _ h9 => h9) rfl (by decide +kernel) rfl rfl (Nat.le_of_ble_eq_true rfl) dX7_next_48 (fun H locs hP hD hS => ?_)
  have hP : va_P g.1 vwK (wM g m0 m1 m2 m3 m4 m5 m6 m7 m8 m9 m10 m11 m12 now kept aside ik found carried (T103.1, T103.2.1, T103.2.2.1, T103.2.2.2.1, T103.2.2.2.1, T103.2.2.2.2.2.1, T103.2.2.2.2.2.2.1, T103.2.2.2.2.2.2.2.1, T103.2.2.2.2.2.2.2.2.1, T103.2.2.2.2.2.2.2.2.2.1, T103.2.2.2.2.2.2.2.2.2.2) S) H := hP
  have hD : va_D A (wM g m0 m1 m2 m3 m4 m5 m6 m7 m8 m9 m10 m11 m12 now kept aside ik found carried (T103.1, T103.2.1, T103.2.2.1, T103.2.2.2.1, T103.2.2.2.1, T103.2.2.2.2.2.1, T103.2.2.2.2.2.2.1, T103.2.2.2.2.2.2.2.1, T103.2.2.2.2.2.2.2.2.1, T103.2.2.2.2.2.2.2.2.2.1, T103.2.2.2.2.2.2.2.2.2.2) S) := hD
  refine lv_aload_n hx hb dX7_next_51 rfl (lv_at hl 1 rfl) ?_
  refine lv_iconst (v := (0 : Int32)) hx hb dX7_next_52 (by decide) ?_
  refine va_put (D := g.1) (ci := 7) (v := .int (0 : Int32)) (ty := .int) (C := RX7) (T := TX7) (N := 22) hx hb hts i_X7_next_X7 tyX7 tyX7_ok nmX7 hown hE.1 hP hD hS 0 rfl rfl 11 (by decide) w3 (fun _ h9 => h9) rfl (by decide +kernel) rfl rfl (Nat.le_of_ble_eq_true rfl) dX7_next_53 (fun H locs hP hD hS => ?_)
  have hP : va_P g.1 vwK (wM g m0 m1 m2 m3 m4 m5 m6 m7 m8 m9 m10 m11 m12 now kept aside ik found carried (T103.1, T103.2.1, T103.2.2.1, T103.2.2.2.1, T103.2.2.2.1, T103.2.2.2.2.2.1, (0 : Int32), T103.2.2.2.2.2.2.2.1, T103.2.2.2.2.2.2.2.2.1, T103.2.2.2.2.2.2.2.2.2.1, T103.2.2.2.2.2.2.2.2.2.2) S) H := hP
  have hD : va_D A (wM g m0 m1 m2 m3 m4 m5 m6 m7 m8 m9 m10 m11 m12 now kept aside ik found carried (T103.1, T103.2.1, T103.2.2.1, T103.2.2.2.1, T103.2.2.2.1, T103.2.2.2.2.2.1, (0 : Int32), T103.2.2.2.2.2.2.2.1, T103.2.2.2.2.2.2.2.2.1, T103.2.2.2.2.2.2.2.2.2.1, T103.2.2.2.2.2.2.2.2.2.2) S) := hD
  refine lv_iload_n hx hb dX7_next_56 rfl (lv_at hl 0 rfl) ?_
  refine lv_if_ge (tgt := 68) hx hb dX7_next_57 (by decide) (fun hc => ?_) (fun hc => ?_)
  · have hf := if_t hf hc
    refine lv_iload_n hx hb dX7_next_68 rfl (lv_at hl 0 rfl) ?_
    refine lv_bipush (v := (97 : Int32)) hx hb dX7_next_69 (by decide) ?_
    refine lv_bipush (v := (122 : Int32)) hx hb dX7_next_71 (by decide) ?_
    obtain ⟨x105, hg, hf⟩ := o1_s hf
    refine Ct.callS (ws' := wM g m0 m1 m2 m3 m4 m5 m6 m7 m8 m9 m10 m11 m12 now kept aside ik found carried (T103.1, T103.2.1, T103.2.2.1, T103.2.2.2.1, T103.2.2.2.1, T103.2.2.2.2.2.1, (0 : Int32), T103.2.2.2.2.2.2.2.1, T103.2.2.2.2.2.2.2.2.1, T103.2.2.2.2.2.2.2.2.2.1, T103.2.2.2.2.2.2.2.2.2.2) S) (As := [.int x104, .int (97 : Int32), .int (122 : Int32)]) (rest := []) (st1 := [.int x105]) (c_X7_within l g x104 (97 : Int32) (122 : Int32) hg) (va_cwS 3 hts gX7_next_X7_within rfl rfl rfl q_X7_within.2 ⟨Nat.le_of_ble_eq_true rfl, Nat.le_of_ble_eq_true rfl⟩) ⟨hx, hb, hml, hown, hts⟩ hE hP hD hS hA [] rfl rfl rfl rfl rfl hl.1 rfl rfl (Nat.le_of_ble_eq_true rfl) dX7_next_73 (fun H locs hP hD hS => ?_)
    refine lv_if_eq (tgt := 115) hx hb dX7_next_76 (by decide) (fun hc => ?_) (fun hc => ?_)
    · have hf := if_t hf hc
      refine lv_iload_n hx hb dX7_next_115 rfl (lv_at hl 0 rfl) ?_
      refine lv_bipush (v := (48 : Int32)) hx hb dX7_next_116 (by decide) ?_
      refine lv_bipush (v := (57 : Int32)) hx hb dX7_next_118 (by decide) ?_
      obtain ⟨x106, hg, hf⟩ := o1_s hf
      refine Ct.callS (ws' := wM g m0 m1 m2 m3 m4 m5 m6 m7 m8 m9 m10 m11 m12 now kept aside ik found carried (T103.1, T103.2.1, T103.2.2.1, T103.2.2.2.1, T103.2.2.2.1, T103.2.2.2.2.2.1, (0 : Int32), T103.2.2.2.2.2.2.2.1, T103.2.2.2.2.2.2.2.2.1, T103.2.2.2.2.2.2.2.2.2.1, T103.2.2.2.2.2.2.2.2.2.2) S) (As := [.int x104, .int (48 : Int32), .int (57 : Int32)]) (rest := []) (st1 := [.int x106]) (c_X7_within l g x104 (48 : Int32) (57 : Int32) hg) (va_cwS 3 hts gX7_next_X7_within rfl rfl rfl q_X7_within.2 ⟨Nat.le_of_ble_eq_true rfl, Nat.le_of_ble_eq_true rfl⟩) ⟨hx, hb, hml, hown, hts⟩ hE hP hD hS hA [] rfl rfl rfl rfl rfl hl.1 rfl rfl (Nat.le_of_ble_eq_true rfl) dX7_next_120 (fun H locs hP hD hS => ?_)
      refine lv_if_eq (tgt := 191) hx hb dX7_next_123 (by decide) (fun hc => ?_) (fun hc => ?_)
      · have hf := if_t hf hc
        refine lv_aload_n hx hb dX7_next_191 rfl (lv_at hl 1 rfl) ?_
        refine lv_iconst (v := (3 : Int32)) hx hb dX7_next_192 (by decide) ?_
        refine va_put (D := g.1) (ci := 7) (v := .int (3 : Int32)) (ty := .int) (C := RX7) (T := TX7) (N := 22) hx hb hts i_X7_next_X7 tyX7 tyX7_ok nmX7 hown hE.1 hP hD hS 0 rfl rfl 10 (by decide) w4 (fun _ h9 => h9) rfl (by decide +kernel) rfl rfl (Nat.le_of_ble_eq_true rfl) dX7_next_193 (fun H locs hP hD hS => ?_)
        have hP : va_P g.1 vwK (wM g m0 m1 m2 m3 m4 m5 m6 m7 m8 m9 m10 m11 m12 now kept aside ik found carried (T103.1, T103.2.1, T103.2.2.1, T103.2.2.2.1, T103.2.2.2.1, (3 : Int32), (0 : Int32), T103.2.2.2.2.2.2.2.1, T103.2.2.2.2.2.2.2.2.1, T103.2.2.2.2.2.2.2.2.2.1, T103.2.2.2.2.2.2.2.2.2.2) S) H := hP
        have hD : va_D A (wM g m0 m1 m2 m3 m4 m5 m6 m7 m8 m9 m10 m11 m12 now kept aside ik found carried (T103.1, T103.2.1, T103.2.2.1, T103.2.2.2.1, T103.2.2.2.1, (3 : Int32), (0 : Int32), T103.2.2.2.2.2.2.2.1, T103.2.2.2.2.2.2.2.2.1, T103.2.2.2.2.2.2.2.2.2.1, T103.2.2.2.2.2.2.2.2.2.2) S) := hD
        refine lv_aload_n hx hb dX7_next_196 rfl (lv_at hl 1 rfl) ?_
        refine lv_dup hx hb dX7_next_197 rfl ?_
        refine va_get (D := g.1) (ci := 7) (v := .int T103.2.2.2.1) (C := RX7) (T := TX7) (N := 22) hx hb hts i_X7_next_X7 hown hE.1 hP 0 rfl rfl 9 (by decide) w1 (fun _ h9 => h9) rfl dX7_next_198 ?_
        refine lv_iconst (v := (1 : Int32)) hx hb dX7_next_201 (by decide) ?_
        refine lv_iadd hx hb dX7_next_202 ?_
        refine va_put (D := g.1) (ci := 7) (v := .int (T103.2.2.2.1 + (1 : Int32))) (ty := .int) (C := RX7) (T := TX7) (N := 22) hx hb hts i_X7_next_X7 tyX7 tyX7_ok nmX7 hown hE.1 hP hD hS 0 rfl rfl 9 (by decide) w1 (fun _ h9 => h9) rfl (by decide +kernel) rfl rfl (Nat.le_of_ble_eq_true rfl) dX7_next_203 (fun H locs hP hD hS => ?_)
        have hP : va_P g.1 vwK (wM g m0 m1 m2 m3 m4 m5 m6 m7 m8 m9 m10 m11 m12 now kept aside ik found carried (T103.1, T103.2.1, T103.2.2.1, T103.2.2.2.1, (T103.2.2.2.1 + (1 : Int32)), (3 : Int32), (0 : Int32), T103.2.2.2.2.2.2.2.1, T103.2.2.2.2.2.2.2.2.1, T103.2.2.2.2.2.2.2.2.2.1, T103.2.2.2.2.2.2.2.2.2.2) S) H := hP
        have hD : va_D A (wM g m0 m1 m2 m3 m4 m5 m6 m7 m8 m9 m10 m11 m12 now kept aside ik found carried (T103.1, T103.2.1, T103.2.2.1, T103.2.2.2.1, (T103.2.2.2.1 + (1 : Int32)), (3 : Int32), (0 : Int32), T103.2.2.2.2.2.2.2.1, T103.2.2.2.2.2.2.2.2.1, T103.2.2.2.2.2.2.2.2.2.1, T103.2.2.2.2.2.2.2.2.2.2) S) := hD
        obtain rfl := Option.some.inj hf
        rw [hQ]; exact Ct.vret hx hb hr hlocks hAe hP hD hS dX7_next_206
      · have hf := if_f hf hc
        refine lv_aload_n hx hb dX7_next_126 rfl (lv_at hl 1 rfl) ?_
        refine lv_iconst (v := (2 : Int32)) hx hb dX7_next_127 (by decide) ?_
        refine va_put (D := g.1) (ci := 7) (v := .int (2 : Int32)) (ty := .int) (C := RX7) (T := TX7) (N := 22) hx hb hts i_X7_next_X7 tyX7 tyX7_ok nmX7 hown hE.1 hP hD hS 0 rfl rfl 10 (by decide) w4 (fun _ h9 => h9) rfl (by decide +kernel) rfl rfl (Nat.le_of_ble_eq_true rfl) dX7_next_128 (fun H locs hP hD hS => ?_)
        have hP : va_P g.1 vwK (wM g m0 m1 m2 m3 m4 m5 m6 m7 m8 m9 m10 m11 m12 now kept aside ik found carried (T103.1, T103.2.1, T103.2.2.1, T103.2.2.2.1, T103.2.2.2.1, (2 : Int32), (0 : Int32), T103.2.2.2.2.2.2.2.1, T103.2.2.2.2.2.2.2.2.1, T103.2.2.2.2.2.2.2.2.2.1, T103.2.2.2.2.2.2.2.2.2.2) S) H := hP
        have hD : va_D A (wM g m0 m1 m2 m3 m4 m5 m6 m7 m8 m9 m10 m11 m12 now kept aside ik found carried (T103.1, T103.2.1, T103.2.2.1, T103.2.2.2.1, T103.2.2.2.1, (2 : Int32), (0 : Int32), T103.2.2.2.2.2.2.2.1, T103.2.2.2.2.2.2.2.2.1, T103.2.2.2.2.2.2.2.2.2.1, T103.2.2.2.2.2.2.2.2.2.2) S) := hD
        refine L131 _ _ _ _ _ _  hf hP hD hS (lv_sub hl [1] rfl) (fun T113 H locs ls hf hP hD hS hl => ?_)
        obtain rfl := Option.some.inj hf
        rw [hQ]; exact Ct.vret hx hb hr hlocks hAe hP hD hS dX7_next_206
    · have hf := if_f hf hc
      refine lv_aload_n hx hb dX7_next_79 rfl (lv_at hl 1 rfl) ?_
      refine lv_iconst (v := (1 : Int32)) hx hb dX7_next_80 (by decide) ?_
      refine va_put (D := g.1) (ci := 7) (v := .int (1 : Int32)) (ty := .int) (C := RX7) (T := TX7) (N := 22) hx hb hts i_X7_next_X7 tyX7 tyX7_ok nmX7 hown hE.1 hP hD hS 0 rfl rfl 10 (by decide) w4 (fun _ h9 => h9) rfl (by decide +kernel) rfl rfl (Nat.le_of_ble_eq_true rfl) dX7_next_81 (fun H locs hP hD hS => ?_)
      have hP : va_P g.1 vwK (wM g m0 m1 m2 m3 m4 m5 m6 m7 m8 m9 m10 m11 m12 now kept aside ik found carried (T103.1, T103.2.1, T103.2.2.1, T103.2.2.2.1, T103.2.2.2.1, (1 : Int32), (0 : Int32), T103.2.2.2.2.2.2.2.1, T103.2.2.2.2.2.2.2.2.1, T103.2.2.2.2.2.2.2.2.2.1, T103.2.2.2.2.2.2.2.2.2.2) S) H := hP
      have hD : va_D A (wM g m0 m1 m2 m3 m4 m5 m6 m7 m8 m9 m10 m11 m12 now kept aside ik found carried (T103.1, T103.2.1, T103.2.2.1, T103.2.2.2.1, T103.2.2.2.1, (1 : Int32), (0 : Int32), T103.2.2.2.2.2.2.2.1, T103.2.2.2.2.2.2.2.2.1, T103.2.2.2.2.2.2.2.2.2.1, T103.2.2.2.2.2.2.2.2.2.2) S) := hD
      refine L84 _ _ _ _ _ _  hf hP hD hS (lv_sub hl [1] rfl) (fun T118 H locs ls hf hP hD hS hl => ?_)
      obtain rfl := Option.some.inj hf
      rw [hQ]; exact Ct.vret hx hb hr hlocks hAe hP hD hS dX7_next_206
  · have hf := if_f hf hc
    refine lv_aload_n hx hb dX7_next_60 rfl (lv_at hl 1 rfl) ?_
    refine lv_iconst (v := (0 : Int32)) hx hb dX7_next_61 (by decide) ?_
    refine va_put (D := g.1) (ci := 7) (v := .int (0 : Int32)) (ty := .int) (C := RX7) (T := TX7) (N := 22) hx hb hts i_X7_next_X7 tyX7 tyX7_ok nmX7 hown hE.1 hP hD hS 0 rfl rfl 10 (by decide) w4 (fun _ h9 => h9) rfl (by decide +kernel) rfl rfl (Nat.le_of_ble_eq_true rfl) dX7_next_62 (fun H locs hP hD hS => ?_)
    have hP : va_P g.1 vwK (wM g m0 m1 m2 m3 m4 m5 m6 m7 m8 m9 m10 m11 m12 now kept aside ik found carried (T103.1, T103.2.1, T103.2.2.1, T103.2.2.2.1, T103.2.2.2.1, (0 : Int32), (0 : Int32), T103.2.2.2.2.2.2.2.1, T103.2.2.2.2.2.2.2.2.1, T103.2.2.2.2.2.2.2.2.2.1, T103.2.2.2.2.2.2.2.2.2.2) S) H := hP
    have hD : va_D A (wM g m0 m1 m2 m3 m4 m5 m6 m7 m8 m9 m10 m11 m12 now kept aside ik found carried (T103.1, T103.2.1, T103.2.2.1, T103.2.2.2.1, T103.2.2.2.1, (0 : Int32), (0 : Int32), T103.2.2.2.2.2.2.2.1, T103.2.2.2.2.2.2.2.2.1, T103.2.2.2.2.2.2.2.2.2.1, T103.2.2.2.2.2.2.2.2.2.2) S) := hD
    refine lv_goto (tgt := 206) hx hb dX7_next_65 (by decide) ?_
    obtain rfl := Option.some.inj hf
    rw [hQ]; exact Ct.vret hx hb hr hlocks hAe hP hD hS dX7_next_206
def fX7_isWord_L32 (j : Nat) (T : Mt) (kx : Int32 → Option (Int32)) : Nat → Int32 → Int32 → Option (Int32)
  | 0, _, _ => none
  | k + 1, x2, x3 => o1 (fJ0_length_8abf5 j) (fun x104 => if x104 ≤ x3 then (kx x2) else (if x2 = 0 then (kx x2) else (rd T.1 120 (T.2.2.2.1 + x3) (fun x105 => o1 (fJ0_charAt_5068e j x3) (fun x106 => if x105 = x106 then (fX7_isWord_L32 j T kx k (1 : Int32) (x3 + (1 : Int32))) else (fX7_isWord_L32 j T kx k (0 : Int32) (x3 + (1 : Int32))))))))
def fX7_isWord (T : Mt) (j : Nat) : Option (Int32) := if T.2.2.2.2.2.1 = (1 : Int32) then (o1 (fJ0_length_8abf5 j) (fun x108 => if (T.2.2.2.2.1 - T.2.2.2.1) = x108 then (fX7_isWord_L32 j T (fun x110 => nb x110 (some x110)) fu (1 : Int32) (0 : Int32)) else (fX7_isWord_L32 j T (fun x109 => nb x109 (some x109)) fu (0 : Int32) (0 : Int32)))) else (fX7_isWord_L32 j T (fun x107 => nb x107 (some x107)) fu (0 : Int32) (0 : Int32))
theorem q_X7_isWord : yX7_isWord.cls = RX7 ∧ yX7_isWord.cls ≠ "java/lang/invoke/MethodHandle" ∧ yX7_isWord.cls ≠ "java/lang/invoke/VarHandle" ∧ (parseMethodDescriptor yX7_isWord.desc).map (fun d => d.parameters.length) = some 1 := by decide +kernel
theorem i_X7_isWord_X7 : ∀ w ∈ u_ws RX7 TX7 22, w ∈ wsX7_isWord := fun _ h => List.mem_cons_of_mem _ (List.mem_append_right _ (h))
set_option maxHeartbeats 4000000 in
set_option maxRecDepth 100000 in
theorem c_X7_isWord (l : Launch) (g : gG) (m0 m1 m2 m3 m4 m5 m6 m7 m8 m9 m10 m11 m12 : Nat) (now : Nat → Int32) (kept : Nat → Int32) (aside : Nat → Int32) (ik : Int32) (found : Nat → Int32) (carried : Nat → Int32) (T : Mt) (S : Ms) (j : Nat) {r : Int32} (hf : fX7_isWord T j = some r) : Ct l yX7_isWord wsX7_isWord (rmm 6 221) g (wM g m0 m1 m2 m3 m4 m5 m6 m7 m8 m9 m10 m11 m12 now kept aside ik found carried T S) (wM g m0 m1 m2 m3 m4 m5 m6 m7 m8 m9 m10 m11 m12 now kept aside ik found carried T S) [.ref m0, .ref (g.2.2 (10 + j))] (some (.int r)) := by
  refine Ct.mk (by decide) rfl (Nat.le_of_ble_eq_true rfl) ?_
  intro p e s m args below meth c A ls hx hb hr hml hts hown hlocks hA hE hP hD hS hl hAe
  obtain ⟨Qx, hQ⟩ : ∃ Qx : State → Prop, Qx = MQ below (QcG g (wM g m0 m1 m2 m3 m4 m5 m6 m7 m8 m9 m10 m11 m12 now kept aside ik found carried T S) (wM g m0 m1 m2 m3 m4 m5 m6 m7 m8 m9 m10 m11 m12 now kept aside ik found carried T S) (some (.int r)) s.heap.size) args s 0 0 A := ⟨_, rfl⟩
  rw [← hQ]
  have hown : s.vm.findClass RX7 = some m.cls := hown
  have hl : lv_has ls 4 [(0, .ref m0), (1, .ref (g.2.2 (10 + j)))] := hl
  have w1 := hts (.fieldLink RX7 241 "RainVaultModel" "sort" "I") (List.mem_of_getElem? (i := 1) rfl)
  have w2 := hts (.fieldLink RX7 25 "RainVaultModel" "tape" "[I") (List.mem_of_getElem? (i := 4) rfl)
  have w3 := hts (.fieldLink RX7 232 "RainVaultModel" "begins" "I") (List.mem_of_getElem? (i := 3) rfl)
  have w4 := hts (.fieldLink RX7 229 "RainVaultModel" "ends" "I") (List.mem_of_getElem? (i := 2) rfl)
  have L32 : ∀ (kx : Int32 → Option (Int32)) (k : Nat) (x2 : Int32) (x3 : Int32) (H : Heap) (locs : List Loc) (ls : Array Slot), fX7_isWord_L32 j T kx k x2 x3 = some r → va_P g.1 vwK (wM g m0 m1 m2 m3 m4 m5 m6 m7 m8 m9 m10 m11 m12 now kept aside ik found carried T S) H → va_D A (wM g m0 m1 m2 m3 m4 m5 m6 m7 m8 m9 m10 m11 m12 now kept aside ik found carried T S) → va_S A s.heap H locs → lv_has ls 4 [(0, .ref m0), (1, .ref (g.2.2 (10 + j))), (2, .int x2), (3, .int x3)] → (∀ (x2 : Int32) (H : Heap) (locs : List Loc) (ls : Array Slot), kx x2 = some r → va_P g.1 vwK (wM g m0 m1 m2 m3 m4 m5 m6 m7 m8 m9 m10 m11 m12 now kept aside ik found carried T S) H → va_D A (wM g m0 m1 m2 m3 m4 m5 m6 m7 m8 m9 m10 m11 m12 now kept aside ik found carried T S) → va_S A s.heap H locs → lv_has ls 4 [(2, .int x2)] → W p l e (rmm 6 221) s m args below meth c H locs 0 0 Qx (F0 m 75 ls [])) → W p l e (rmm 6 221) s m args below meth c H locs 0 0 Qx (F0 m 32 ls []) := by
    intro kx k
    induction k with
    | zero => intro x2 x3 H locs ls hf; exact nomatch (show (none : Option (Int32)) = some _ from hf)
    | succ k ih =>
      intro x2 x3 H locs ls hf hP hD hS hl hk
      rw [fX7_isWord_L32] at hf
      refine lv_iload_n hx hb dX7_isWord_32 rfl (lv_at hl 3 rfl) ?_
      refine lv_aload_n hx hb dX7_isWord_33 rfl (lv_at hl 1 rfl) ?_
      obtain ⟨x104, hg, hf⟩ := o1_s hf
      refine Ct.callR (ws' := wM g m0 m1 m2 m3 m4 m5 m6 m7 m8 m9 m10 m11 m12 now kept aside ik found carried T S) (As := []) (rest := [.int x3]) (st1 := [.int x104, .int x3]) (c_J0_length_8abf5 l g j hg) (cwV 0 hts gX7_isWord_J0_length_8abf5 rfl rfl rfl q_J0_length_8abf5 ⟨Nat.le_of_ble_eq_true rfl, Nat.le_of_ble_eq_true rfl⟩) ⟨hx, hb, hml, hown, hts⟩ hE hP hD hS hA [] rfl rfl rfl rfl (hE.recv (jl_len hg) hS) rfl hl.1 rfl rfl (Nat.le_of_ble_eq_true rfl) dX7_isWord_34 (fun H locs hP hD hS => ?_)
      refine lv_icmp_ge (tgt := 75) hx hb dX7_isWord_37 (by decide) (fun hc => ?_) (fun hc => ?_)
      · have hf := if_t hf hc
        exact hk _ _ _ _  hf hP hD hS (lv_sub hl [2] rfl)
      · have hf := if_f hf hc
        refine lv_iload_n hx hb dX7_isWord_40 rfl (lv_at hl 2 rfl) ?_
        refine lv_if_eq (tgt := 75) hx hb dX7_isWord_41 (by decide) (fun hc => ?_) (fun hc => ?_)
        · have hf := if_t hf hc
          exact hk _ _ _ _  hf hP hD hS (lv_sub hl [2] rfl)
        · have hf := if_f hf hc
          refine lv_aload_n hx hb dX7_isWord_44 rfl (lv_at hl 0 rfl) ?_
          refine va_get (D := g.1) (ci := 7) (v := .ref m6) (C := RX7) (T := TX7) (N := 22) hx hb hts i_X7_isWord_X7 hown hE.1 hP 0 rfl rfl 6 (by decide) w2 (fun _ h9 => h9) rfl dX7_isWord_45 ?_
          refine lv_aload_n hx hb dX7_isWord_48 rfl (lv_at hl 0 rfl) ?_
          refine va_get (D := g.1) (ci := 7) (v := .int T.2.2.2.1) (C := RX7) (T := TX7) (N := 22) hx hb hts i_X7_isWord_X7 hown hE.1 hP 0 rfl rfl 8 (by decide) w3 (fun _ h9 => h9) rfl dX7_isWord_49 ?_
          refine lv_iload_n hx hb dX7_isWord_52 rfl (lv_at hl 3 rfl) ?_
          refine lv_iadd hx hb dX7_isWord_53 ?_
          obtain ⟨x105, ex, hin, hf⟩ := rd_s hf
          refine st_iald (f := T.1) hx hb hE.1 hP 6 0 rfl rfl hin ex dX7_isWord_54 ?_
          refine lv_aload_n hx hb dX7_isWord_55 rfl (lv_at hl 1 rfl) ?_
          refine lv_iload_n hx hb dX7_isWord_56 rfl (lv_at hl 3 rfl) ?_
          obtain ⟨x106, hg, hf⟩ := o1_s hf
          refine Ct.callR (ws' := wM g m0 m1 m2 m3 m4 m5 m6 m7 m8 m9 m10 m11 m12 now kept aside ik found carried T S) (As := [.int x3]) (rest := [.int x105]) (st1 := [.int x106, .int x105]) (c_J0_charAt_5068e l g j x3 hg) (cwV 1 hts gX7_isWord_J0_charAt_5068e rfl rfl rfl q_J0_charAt_5068e ⟨Nat.le_of_ble_eq_true rfl, Nat.le_of_ble_eq_true rfl⟩) ⟨hx, hb, hml, hown, hts⟩ hE hP hD hS hA [] rfl rfl rfl rfl (hE.recv (jl_char hg) hS) rfl hl.1 rfl rfl (Nat.le_of_ble_eq_true rfl) dX7_isWord_57 (fun H locs hP hD hS => ?_)
          refine lv_icmp_ne (tgt := 67) hx hb dX7_isWord_60 (by decide) (fun hc => ?_) (fun hc => ?_)
          · have hf := if_f hf hc
            refine lv_iconst (v := (0 : Int32)) hx hb dX7_isWord_67 (by decide) ?_
            refine lv_istore_n (lv' := [(2, .int (0 : Int32)), (0, .ref m0), (1, .ref (g.2.2 (10 + j))), (3, .int x3)]) hx hb dX7_isWord_68 rfl hl (by decide) rfl (fun ls hl => ?_)
            refine lv_iinc (v := (x3 + (1 : Int32))) (lv' := [(3, .int (x3 + (1 : Int32))), (2, .int (0 : Int32)), (0, .ref m0), (1, .ref (g.2.2 (10 + j)))]) hx hb dX7_isWord_69 hl (k := 3) rfl rfl (by decide) rfl (fun ls hl => ?_)
            refine lv_goto (tgt := 32) hx hb dX7_isWord_72 (by decide) ?_
            exact ih _ _ _ _ _  hf hP hD hS (lv_sub hl [2, 3, 1, 0] rfl) hk
          · have hf := if_t hf hc
            refine lv_iconst (v := (1 : Int32)) hx hb dX7_isWord_63 (by decide) ?_
            refine lv_goto (tgt := 68) hx hb dX7_isWord_64 (by decide) ?_
            refine lv_istore_n (lv' := [(2, .int (1 : Int32)), (0, .ref m0), (1, .ref (g.2.2 (10 + j))), (3, .int x3)]) hx hb dX7_isWord_68 rfl hl (by decide) rfl (fun ls hl => ?_)
            refine lv_iinc (v := (x3 + (1 : Int32))) (lv' := [(3, .int (x3 + (1 : Int32))), (2, .int (1 : Int32)), (0, .ref m0), (1, .ref (g.2.2 (10 + j)))]) hx hb dX7_isWord_69 hl (k := 3) rfl rfl (by decide) rfl (fun ls hl => ?_)
            refine lv_goto (tgt := 32) hx hb dX7_isWord_72 (by decide) ?_
            exact ih _ _ _ _ _  hf hP hD hS (lv_sub hl [2, 3, 1, 0] rfl) hk
  unfold fX7_isWord at hf
  refine lv_aload_n hx hb dX7_isWord_0 rfl (lv_at hl 0 rfl) ?_
  refine va_get (D := g.1) (ci := 7) (v := .int T.2.2.2.2.2.1) (C := RX7) (T := TX7) (N := 22) hx hb hts i_X7_isWord_X7 hown hE.1 hP 0 rfl rfl 10 (by decide) w1 (fun _ h9 => h9) rfl dX7_isWord_1 ?_
  refine lv_iconst (v := (1 : Int32)) hx hb dX7_isWord_4 (by decide) ?_
  refine lv_icmp_ne (tgt := 28) hx hb dX7_isWord_5 (by decide) (fun hc => ?_) (fun hc => ?_)
  · have hf := if_f hf hc
    refine lv_iconst (v := (0 : Int32)) hx hb dX7_isWord_28 (by decide) ?_
    refine lv_istore_n (lv' := [(2, .int (0 : Int32)), (0, .ref m0), (1, .ref (g.2.2 (10 + j)))]) hx hb dX7_isWord_29 rfl hl (by decide) rfl (fun ls hl => ?_)
    refine lv_iconst (v := (0 : Int32)) hx hb dX7_isWord_30 (by decide) ?_
    refine lv_istore_n (lv' := [(3, .int (0 : Int32)), (2, .int (0 : Int32)), (0, .ref m0), (1, .ref (g.2.2 (10 + j)))]) hx hb dX7_isWord_31 rfl hl (by decide) rfl (fun ls hl => ?_)
    refine L32 _ _ _ _ _ _ _  hf hP hD hS (lv_sub hl [2, 3, 1, 0] rfl) (fun x107 H locs ls hf hP hD hS hl => ?_)
    refine lv_iload_n hx hb dX7_isWord_75 rfl (lv_at hl 0 rfl) ?_
    obtain ⟨hn, hf⟩ := nb_s hf
    obtain rfl := Option.some.inj hf
    rw [hQ]; exact Ct.zret hx hb hr hn hlocks hAe hP hD hS dX7_isWord_76
  · have hf := if_t hf hc
    refine lv_aload_n hx hb dX7_isWord_8 rfl (lv_at hl 0 rfl) ?_
    refine va_get (D := g.1) (ci := 7) (v := .int T.2.2.2.2.1) (C := RX7) (T := TX7) (N := 22) hx hb hts i_X7_isWord_X7 hown hE.1 hP 0 rfl rfl 9 (by decide) w4 (fun _ h9 => h9) rfl dX7_isWord_9 ?_
    refine lv_aload_n hx hb dX7_isWord_12 rfl (lv_at hl 0 rfl) ?_
    refine va_get (D := g.1) (ci := 7) (v := .int T.2.2.2.1) (C := RX7) (T := TX7) (N := 22) hx hb hts i_X7_isWord_X7 hown hE.1 hP 0 rfl rfl 8 (by decide) w3 (fun _ h9 => h9) rfl dX7_isWord_13 ?_
    refine lv_isub hx hb dX7_isWord_16 ?_
    refine lv_aload_n hx hb dX7_isWord_17 rfl (lv_at hl 1 rfl) ?_
    obtain ⟨x108, hg, hf⟩ := o1_s hf
    refine Ct.callR (ws' := wM g m0 m1 m2 m3 m4 m5 m6 m7 m8 m9 m10 m11 m12 now kept aside ik found carried T S) (As := []) (rest := [.int (T.2.2.2.2.1 - T.2.2.2.1)]) (st1 := [.int x108, .int (T.2.2.2.2.1 - T.2.2.2.1)]) (c_J0_length_8abf5 l g j hg) (cwV 0 hts gX7_isWord_J0_length_8abf5 rfl rfl rfl q_J0_length_8abf5 ⟨Nat.le_of_ble_eq_true rfl, Nat.le_of_ble_eq_true rfl⟩) ⟨hx, hb, hml, hown, hts⟩ hE hP hD hS hA [] rfl rfl rfl rfl (hE.recv (jl_len hg) hS) rfl hl.1 rfl rfl (Nat.le_of_ble_eq_true rfl) dX7_isWord_18 (fun H locs hP hD hS => ?_)
    refine lv_icmp_ne (tgt := 28) hx hb dX7_isWord_21 (by decide) (fun hc => ?_) (fun hc => ?_)
    · have hf := if_f hf hc
      refine lv_iconst (v := (0 : Int32)) hx hb dX7_isWord_28 (by decide) ?_
      refine lv_istore_n (lv' := [(2, .int (0 : Int32)), (0, .ref m0), (1, .ref (g.2.2 (10 + j)))]) hx hb dX7_isWord_29 rfl hl (by decide) rfl (fun ls hl => ?_)
      refine lv_iconst (v := (0 : Int32)) hx hb dX7_isWord_30 (by decide) ?_
      refine lv_istore_n (lv' := [(3, .int (0 : Int32)), (2, .int (0 : Int32)), (0, .ref m0), (1, .ref (g.2.2 (10 + j)))]) hx hb dX7_isWord_31 rfl hl (by decide) rfl (fun ls hl => ?_)
      refine L32 _ _ _ _ _ _ _  hf hP hD hS (lv_sub hl [2, 3, 1, 0] rfl) (fun x109 H locs ls hf hP hD hS hl => ?_)
      refine lv_iload_n hx hb dX7_isWord_75 rfl (lv_at hl 0 rfl) ?_
      obtain ⟨hn, hf⟩ := nb_s hf
      obtain rfl := Option.some.inj hf
      rw [hQ]; exact Ct.zret hx hb hr hn hlocks hAe hP hD hS dX7_isWord_76
    · have hf := if_t hf hc
      refine lv_iconst (v := (1 : Int32)) hx hb dX7_isWord_24 (by decide) ?_
      refine lv_goto (tgt := 29) hx hb dX7_isWord_25 (by decide) ?_
      refine lv_istore_n (lv' := [(2, .int (1 : Int32)), (0, .ref m0), (1, .ref (g.2.2 (10 + j)))]) hx hb dX7_isWord_29 rfl hl (by decide) rfl (fun ls hl => ?_)
      refine lv_iconst (v := (0 : Int32)) hx hb dX7_isWord_30 (by decide) ?_
      refine lv_istore_n (lv' := [(3, .int (0 : Int32)), (2, .int (1 : Int32)), (0, .ref m0), (1, .ref (g.2.2 (10 + j)))]) hx hb dX7_isWord_31 rfl hl (by decide) rfl (fun ls hl => ?_)
      refine L32 _ _ _ _ _ _ _  hf hP hD hS (lv_sub hl [2, 3, 1, 0] rfl) (fun x110 H locs ls hf hP hD hS hl => ?_)
      refine lv_iload_n hx hb dX7_isWord_75 rfl (lv_at hl 0 rfl) ?_
      obtain ⟨hn, hf⟩ := nb_s hf
      obtain rfl := Option.some.inj hf
      rw [hQ]; exact Ct.zret hx hb hr hn hlocks hAe hP hD hS dX7_isWord_76
def fX7_must (T : Mt) (a1 : Int32) : Option (Mt) := if T.2.2.2.2.2.2.2.1 = 0 then (if a1 = 0 then (if (1 : Int32) = 0 then (o1 (fX7_next (T.1, T.2.1, T.2.2.1, T.2.2.2.1, T.2.2.2.2.1, T.2.2.2.2.2.1, T.2.2.2.2.2.2.1, (1 : Int32), T.2.2.2.2.2.2.2.2.1, T.2.2.2.2.2.2.2.2.2.1, T.2.2.2.2.2.2.2.2.2.2)) (fun T103 => some T103)) else (some (T.1, T.2.1, T.2.2.1, T.2.2.2.1, T.2.2.2.2.1, T.2.2.2.2.2.1, T.2.2.2.2.2.2.1, (1 : Int32), T.2.2.2.2.2.2.2.2.1, T.2.2.2.2.2.2.2.2.2.1, T.2.2.2.2.2.2.2.2.2.2))) else (if (0 : Int32) = 0 then (o1 (fX7_next (T.1, T.2.1, T.2.2.1, T.2.2.2.1, T.2.2.2.2.1, T.2.2.2.2.2.1, T.2.2.2.2.2.2.1, (0 : Int32), T.2.2.2.2.2.2.2.2.1, T.2.2.2.2.2.2.2.2.2.1, T.2.2.2.2.2.2.2.2.2.2)) (fun T102 => some T102)) else (some (T.1, T.2.1, T.2.2.1, T.2.2.2.1, T.2.2.2.2.1, T.2.2.2.2.2.1, T.2.2.2.2.2.2.1, (0 : Int32), T.2.2.2.2.2.2.2.2.1, T.2.2.2.2.2.2.2.2.2.1, T.2.2.2.2.2.2.2.2.2.2)))) else (if (1 : Int32) = 0 then (o1 (fX7_next (T.1, T.2.1, T.2.2.1, T.2.2.2.1, T.2.2.2.2.1, T.2.2.2.2.2.1, T.2.2.2.2.2.2.1, (1 : Int32), T.2.2.2.2.2.2.2.2.1, T.2.2.2.2.2.2.2.2.2.1, T.2.2.2.2.2.2.2.2.2.2)) (fun T101 => some T101)) else (some (T.1, T.2.1, T.2.2.1, T.2.2.2.1, T.2.2.2.2.1, T.2.2.2.2.2.1, T.2.2.2.2.2.2.1, (1 : Int32), T.2.2.2.2.2.2.2.2.1, T.2.2.2.2.2.2.2.2.2.1, T.2.2.2.2.2.2.2.2.2.2)))
theorem q_X7_must : yX7_must.cls = RX7 ∧ yX7_must.cls ≠ "java/lang/invoke/MethodHandle" ∧ yX7_must.cls ≠ "java/lang/invoke/VarHandle" ∧ (parseMethodDescriptor yX7_must.desc).map (fun d => d.parameters.length) = some 1 := by decide +kernel
theorem i_X7_must_X7 : ∀ w ∈ u_ws RX7 TX7 22, w ∈ wsX7_must := fun _ h => List.mem_cons_of_mem _ (List.mem_append_right _ (h))
set_option maxHeartbeats 4000000 in
set_option maxRecDepth 100000 in
theorem c_X7_must (l : Launch) (g : gG) (m0 m1 m2 m3 m4 m5 m6 m7 m8 m9 m10 m11 m12 : Nat) (now : Nat → Int32) (kept : Nat → Int32) (aside : Nat → Int32) (ik : Int32) (found : Nat → Int32) (carried : Nat → Int32) (T : Mt) (S : Ms) (a1 : Int32) {T' : Mt} (hf : fX7_must T a1 = some T') : Ct l yX7_must wsX7_must (rmm 2 61) g (wM g m0 m1 m2 m3 m4 m5 m6 m7 m8 m9 m10 m11 m12 now kept aside ik found carried T S) (wM g m0 m1 m2 m3 m4 m5 m6 m7 m8 m9 m10 m11 m12 now kept aside ik found carried (T') S) [.ref m0, .int a1] none := by
  refine Ct.mk (by decide) rfl (Nat.le_of_ble_eq_true rfl) ?_
  intro p e s m args below meth c A ls hx hb hr hml hts hown hlocks hA hE hP hD hS hl hAe
  obtain ⟨Qx, hQ⟩ : ∃ Qx : State → Prop, Qx = MQ below (QcG g (wM g m0 m1 m2 m3 m4 m5 m6 m7 m8 m9 m10 m11 m12 now kept aside ik found carried T S) (wM g m0 m1 m2 m3 m4 m5 m6 m7 m8 m9 m10 m11 m12 now kept aside ik found carried (T') S) none s.heap.size) args s 0 0 A := ⟨_, rfl⟩
  rw [← hQ]
  have hown : s.vm.findClass RX7 = some m.cls := hown
  have hl : lv_has ls 2 [(0, .ref m0), (1, .int a1)] := hl
  have w1 := hts (.fieldLink RX7 251 "RainVaultModel" "isWrong" "Z") (List.mem_of_getElem? (i := 1) rfl)
  unfold fX7_must at hf
  refine lv_aload_n hx hb dX7_must_0 rfl (lv_at hl 0 rfl) ?_
  refine lv_aload_n hx hb dX7_must_1 rfl (lv_at hl 0 rfl) ?_
  refine va_get (D := g.1) (ci := 7) (v := .int T.2.2.2.2.2.2.2.1) (C := RX7) (T := TX7) (N := 22) hx hb hts i_X7_must_X7 hown hE.1 hP 0 rfl rfl 12 (by decide) w1 (fun _ h9 => h9) rfl dX7_must_2 ?_
  refine lv_if_ne (tgt := 12) hx hb dX7_must_5 (by decide) (fun hc => ?_) (fun hc => ?_)
  · have hf := if_f hf hc
    refine lv_iconst (v := (1 : Int32)) hx hb dX7_must_12 (by decide) ?_
    refine lv_goto (tgt := 17) hx hb dX7_must_13 (by decide) ?_
    refine va_put (D := g.1) (ci := 7) (v := .int (1 : Int32)) (ty := .boolean) (C := RX7) (T := TX7) (N := 22) hx hb hts i_X7_must_X7 tyX7 tyX7_ok nmX7 hown hE.1 hP hD hS 0 rfl rfl 12 (by decide) w1 (fun _ h9 => h9) rfl (by decide +kernel) rfl rfl (Nat.le_of_ble_eq_true rfl) dX7_must_17 (fun H locs hP hD hS => ?_)
    have hP : va_P g.1 vwK (wM g m0 m1 m2 m3 m4 m5 m6 m7 m8 m9 m10 m11 m12 now kept aside ik found carried (T.1, T.2.1, T.2.2.1, T.2.2.2.1, T.2.2.2.2.1, T.2.2.2.2.2.1, T.2.2.2.2.2.2.1, (1 : Int32), T.2.2.2.2.2.2.2.2.1, T.2.2.2.2.2.2.2.2.2.1, T.2.2.2.2.2.2.2.2.2.2) S) H := hP
    have hD : va_D A (wM g m0 m1 m2 m3 m4 m5 m6 m7 m8 m9 m10 m11 m12 now kept aside ik found carried (T.1, T.2.1, T.2.2.1, T.2.2.2.1, T.2.2.2.2.1, T.2.2.2.2.2.1, T.2.2.2.2.2.2.1, (1 : Int32), T.2.2.2.2.2.2.2.2.1, T.2.2.2.2.2.2.2.2.2.1, T.2.2.2.2.2.2.2.2.2.2) S) := hD
    refine lv_aload_n hx hb dX7_must_20 rfl (lv_at hl 0 rfl) ?_
    refine va_get (D := g.1) (ci := 7) (v := .int (1 : Int32)) (C := RX7) (T := TX7) (N := 22) hx hb hts i_X7_must_X7 hown hE.1 hP 0 rfl rfl 12 (by decide) w1 (fun _ h9 => h9) rfl dX7_must_21 ?_
    refine lv_if_ne (tgt := 31) hx hb dX7_must_24 (by decide) (fun hc => ?_) (fun hc => ?_)
    · have hf := if_f hf hc
      obtain rfl := Option.some.inj hf
      rw [hQ]; exact Ct.vret hx hb hr hlocks hAe hP hD hS dX7_must_31
    · have hf := if_t hf hc
      refine lv_aload_n hx hb dX7_must_27 rfl (lv_at hl 0 rfl) ?_
      obtain ⟨T101, hg, hf⟩ := o1_s hf
      refine Ct.callV0 (ws' := wM g m0 m1 m2 m3 m4 m5 m6 m7 m8 m9 m10 m11 m12 now kept aside ik found carried T101 S) (As := []) (rest := []) (st1 := []) (c_X7_next l g m0 m1 m2 m3 m4 m5 m6 m7 m8 m9 m10 m11 m12 now kept aside ik found carried (T.1, T.2.1, T.2.2.1, T.2.2.2.1, T.2.2.2.2.1, T.2.2.2.2.2.1, T.2.2.2.2.2.2.1, (1 : Int32), T.2.2.2.2.2.2.2.2.1, T.2.2.2.2.2.2.2.2.2.1, T.2.2.2.2.2.2.2.2.2.2) S hg) (cwV 0 hts gX7_must_X7_next rfl rfl rfl q_X7_next ⟨Nat.le_of_ble_eq_true rfl, Nat.le_of_ble_eq_true rfl⟩) ⟨hx, hb, hml, hown, hts⟩ hE hP hD hS hA 7 0 rfl rfl rfl rfl hl.1 rfl rfl (Nat.le_of_ble_eq_true rfl) dX7_must_28 (fun H locs hP hD hS => ?_)
      obtain rfl := Option.some.inj hf
      rw [hQ]; exact Ct.vret hx hb hr hlocks hAe hP hD hS dX7_must_31
  · have hf := if_t hf hc
    refine lv_iload_n hx hb dX7_must_8 rfl (lv_at hl 1 rfl) ?_
    refine lv_if_ne (tgt := 16) hx hb dX7_must_9 (by decide) (fun hc => ?_) (fun hc => ?_)
    · have hf := if_f hf hc
      refine lv_iconst (v := (0 : Int32)) hx hb dX7_must_16 (by decide) ?_
      refine va_put (D := g.1) (ci := 7) (v := .int (0 : Int32)) (ty := .boolean) (C := RX7) (T := TX7) (N := 22) hx hb hts i_X7_must_X7 tyX7 tyX7_ok nmX7 hown hE.1 hP hD hS 0 rfl rfl 12 (by decide) w1 (fun _ h9 => h9) rfl (by decide +kernel) rfl rfl (Nat.le_of_ble_eq_true rfl) dX7_must_17 (fun H locs hP hD hS => ?_)
      have hP : va_P g.1 vwK (wM g m0 m1 m2 m3 m4 m5 m6 m7 m8 m9 m10 m11 m12 now kept aside ik found carried (T.1, T.2.1, T.2.2.1, T.2.2.2.1, T.2.2.2.2.1, T.2.2.2.2.2.1, T.2.2.2.2.2.2.1, (0 : Int32), T.2.2.2.2.2.2.2.2.1, T.2.2.2.2.2.2.2.2.2.1, T.2.2.2.2.2.2.2.2.2.2) S) H := hP
      have hD : va_D A (wM g m0 m1 m2 m3 m4 m5 m6 m7 m8 m9 m10 m11 m12 now kept aside ik found carried (T.1, T.2.1, T.2.2.1, T.2.2.2.1, T.2.2.2.2.1, T.2.2.2.2.2.1, T.2.2.2.2.2.2.1, (0 : Int32), T.2.2.2.2.2.2.2.2.1, T.2.2.2.2.2.2.2.2.2.1, T.2.2.2.2.2.2.2.2.2.2) S) := hD
      refine lv_aload_n hx hb dX7_must_20 rfl (lv_at hl 0 rfl) ?_
      refine va_get (D := g.1) (ci := 7) (v := .int (0 : Int32)) (C := RX7) (T := TX7) (N := 22) hx hb hts i_X7_must_X7 hown hE.1 hP 0 rfl rfl 12 (by decide) w1 (fun _ h9 => h9) rfl dX7_must_21 ?_
      refine lv_if_ne (tgt := 31) hx hb dX7_must_24 (by decide) (fun hc => ?_) (fun hc => ?_)
      · have hf := if_f hf hc
        obtain rfl := Option.some.inj hf
        rw [hQ]; exact Ct.vret hx hb hr hlocks hAe hP hD hS dX7_must_31
      · have hf := if_t hf hc
        refine lv_aload_n hx hb dX7_must_27 rfl (lv_at hl 0 rfl) ?_
        obtain ⟨T102, hg, hf⟩ := o1_s hf
        refine Ct.callV0 (ws' := wM g m0 m1 m2 m3 m4 m5 m6 m7 m8 m9 m10 m11 m12 now kept aside ik found carried T102 S) (As := []) (rest := []) (st1 := []) (c_X7_next l g m0 m1 m2 m3 m4 m5 m6 m7 m8 m9 m10 m11 m12 now kept aside ik found carried (T.1, T.2.1, T.2.2.1, T.2.2.2.1, T.2.2.2.2.1, T.2.2.2.2.2.1, T.2.2.2.2.2.2.1, (0 : Int32), T.2.2.2.2.2.2.2.2.1, T.2.2.2.2.2.2.2.2.2.1, T.2.2.2.2.2.2.2.2.2.2) S hg) (cwV 0 hts gX7_must_X7_next rfl rfl rfl q_X7_next ⟨Nat.le_of_ble_eq_true rfl, Nat.le_of_ble_eq_true rfl⟩) ⟨hx, hb, hml, hown, hts⟩ hE hP hD hS hA 7 0 rfl rfl rfl rfl hl.1 rfl rfl (Nat.le_of_ble_eq_true rfl) dX7_must_28 (fun H locs hP hD hS => ?_)
        obtain rfl := Option.some.inj hf
        rw [hQ]; exact Ct.vret hx hb hr hlocks hAe hP hD hS dX7_must_31
    · have hf := if_t hf hc
      refine lv_iconst (v := (1 : Int32)) hx hb dX7_must_12 (by decide) ?_
      refine lv_goto (tgt := 17) hx hb dX7_must_13 (by decide) ?_
      refine va_put (D := g.1) (ci := 7) (v := .int (1 : Int32)) (ty := .boolean) (C := RX7) (T := TX7) (N := 22) hx hb hts i_X7_must_X7 tyX7 tyX7_ok nmX7 hown hE.1 hP hD hS 0 rfl rfl 12 (by decide) w1 (fun _ h9 => h9) rfl (by decide +kernel) rfl rfl (Nat.le_of_ble_eq_true rfl) dX7_must_17 (fun H locs hP hD hS => ?_)
      have hP : va_P g.1 vwK (wM g m0 m1 m2 m3 m4 m5 m6 m7 m8 m9 m10 m11 m12 now kept aside ik found carried (T.1, T.2.1, T.2.2.1, T.2.2.2.1, T.2.2.2.2.1, T.2.2.2.2.2.1, T.2.2.2.2.2.2.1, (1 : Int32), T.2.2.2.2.2.2.2.2.1, T.2.2.2.2.2.2.2.2.2.1, T.2.2.2.2.2.2.2.2.2.2) S) H := hP
      have hD : va_D A (wM g m0 m1 m2 m3 m4 m5 m6 m7 m8 m9 m10 m11 m12 now kept aside ik found carried (T.1, T.2.1, T.2.2.1, T.2.2.2.1, T.2.2.2.2.1, T.2.2.2.2.2.1, T.2.2.2.2.2.2.1, (1 : Int32), T.2.2.2.2.2.2.2.2.1, T.2.2.2.2.2.2.2.2.2.1, T.2.2.2.2.2.2.2.2.2.2) S) := hD
      refine lv_aload_n hx hb dX7_must_20 rfl (lv_at hl 0 rfl) ?_
      refine va_get (D := g.1) (ci := 7) (v := .int (1 : Int32)) (C := RX7) (T := TX7) (N := 22) hx hb hts i_X7_must_X7 hown hE.1 hP 0 rfl rfl 12 (by decide) w1 (fun _ h9 => h9) rfl dX7_must_21 ?_
      refine lv_if_ne (tgt := 31) hx hb dX7_must_24 (by decide) (fun hc => ?_) (fun hc => ?_)
      · have hf := if_f hf hc
        obtain rfl := Option.some.inj hf
        rw [hQ]; exact Ct.vret hx hb hr hlocks hAe hP hD hS dX7_must_31
      · have hf := if_t hf hc
        refine lv_aload_n hx hb dX7_must_27 rfl (lv_at hl 0 rfl) ?_
        obtain ⟨T103, hg, hf⟩ := o1_s hf
        refine Ct.callV0 (ws' := wM g m0 m1 m2 m3 m4 m5 m6 m7 m8 m9 m10 m11 m12 now kept aside ik found carried T103 S) (As := []) (rest := []) (st1 := []) (c_X7_next l g m0 m1 m2 m3 m4 m5 m6 m7 m8 m9 m10 m11 m12 now kept aside ik found carried (T.1, T.2.1, T.2.2.1, T.2.2.2.1, T.2.2.2.2.1, T.2.2.2.2.2.1, T.2.2.2.2.2.2.1, (1 : Int32), T.2.2.2.2.2.2.2.2.1, T.2.2.2.2.2.2.2.2.2.1, T.2.2.2.2.2.2.2.2.2.2) S hg) (cwV 0 hts gX7_must_X7_next rfl rfl rfl q_X7_next ⟨Nat.le_of_ble_eq_true rfl, Nat.le_of_ble_eq_true rfl⟩) ⟨hx, hb, hml, hown, hts⟩ hE hP hD hS hA 7 0 rfl rfl rfl rfl hl.1 rfl rfl (Nat.le_of_ble_eq_true rfl) dX7_must_28 (fun H locs hP hD hS => ?_)
        obtain rfl := Option.some.inj hf
        rw [hQ]; exact Ct.vret hx hb hr hlocks hAe hP hD hS dX7_must_31
def fX7_number (T : Mt) (a1 : Int32) (a2 : Int32) : Option (Int32 × Mt) := if T.2.2.2.2.2.1 = (2 : Int32) then (o1 (fX7_within T.2.2.2.2.2.2.1 a1 a2) (fun x102 => if x102 = 0 then (o1 (fX7_must T (0 : Int32)) (fun T103 => some (T.2.2.2.2.2.2.1, T103))) else (o1 (fX7_must T (1 : Int32)) (fun T104 => some (T.2.2.2.2.2.2.1, T104))))) else (o1 (fX7_must T (0 : Int32)) (fun T101 => some (T.2.2.2.2.2.2.1, T101)))
theorem q_X7_number : yX7_number.cls = RX7 ∧ yX7_number.cls ≠ "java/lang/invoke/MethodHandle" ∧ yX7_number.cls ≠ "java/lang/invoke/VarHandle" ∧ (parseMethodDescriptor yX7_number.desc).map (fun d => d.parameters.length) = some 2 := by decide +kernel
theorem i_X7_number_X7 : ∀ w ∈ u_ws RX7 TX7 22, w ∈ wsX7_number := fun _ h => List.mem_cons_of_mem _ (List.mem_append_right _ (h))
set_option maxHeartbeats 4000000 in
set_option maxRecDepth 100000 in
theorem c_X7_number (l : Launch) (g : gG) (m0 m1 m2 m3 m4 m5 m6 m7 m8 m9 m10 m11 m12 : Nat) (now : Nat → Int32) (kept : Nat → Int32) (aside : Nat → Int32) (ik : Int32) (found : Nat → Int32) (carried : Nat → Int32) (T : Mt) (S : Ms) (a1 : Int32) (a2 : Int32) {r : Int32} {T' : Mt} (hf : fX7_number T a1 a2 = some (r, T')) : Ct l yX7_number wsX7_number (rmm 3 82) g (wM g m0 m1 m2 m3 m4 m5 m6 m7 m8 m9 m10 m11 m12 now kept aside ik found carried T S) (wM g m0 m1 m2 m3 m4 m5 m6 m7 m8 m9 m10 m11 m12 now kept aside ik found carried (T') S) [.ref m0, .int a1, .int a2] (some (.int r)) := by
  refine Ct.mk (by decide) rfl (Nat.le_of_ble_eq_true rfl) ?_
  intro p e s m args below meth c A ls hx hb hr hml hts hown hlocks hA hE hP hD hS hl hAe
  obtain ⟨Qx, hQ⟩ : ∃ Qx : State → Prop, Qx = MQ below (QcG g (wM g m0 m1 m2 m3 m4 m5 m6 m7 m8 m9 m10 m11 m12 now kept aside ik found carried T S) (wM g m0 m1 m2 m3 m4 m5 m6 m7 m8 m9 m10 m11 m12 now kept aside ik found carried (T') S) (some (.int r)) s.heap.size) args s 0 0 A := ⟨_, rfl⟩
  rw [← hQ]
  have hown : s.vm.findClass RX7 = some m.cls := hown
  have hl : lv_has ls 4 [(0, .ref m0), (1, .int a1), (2, .int a2)] := hl
  have w1 := hts (.fieldLink RX7 238 "RainVaultModel" "value" "I") (List.mem_of_getElem? (i := 1) rfl)
  have w2 := hts (.fieldLink RX7 241 "RainVaultModel" "sort" "I") (List.mem_of_getElem? (i := 2) rfl)
  unfold fX7_number at hf
  refine lv_aload_n hx hb dX7_number_0 rfl (lv_at hl 0 rfl) ?_
  refine va_get (D := g.1) (ci := 7) (v := .int T.2.2.2.2.2.2.1) (C := RX7) (T := TX7) (N := 22) hx hb hts i_X7_number_X7 hown hE.1 hP 0 rfl rfl 11 (by decide) w1 (fun _ h9 => h9) rfl dX7_number_1 ?_
  refine lv_istore_n (lv' := [(3, .int T.2.2.2.2.2.2.1), (0, .ref m0), (1, .int a1), (2, .int a2)]) hx hb dX7_number_4 rfl hl (by decide) rfl (fun ls hl => ?_)
  refine lv_aload_n hx hb dX7_number_5 rfl (lv_at hl 1 rfl) ?_
  refine lv_aload_n hx hb dX7_number_6 rfl (lv_at hl 1 rfl) ?_
  refine va_get (D := g.1) (ci := 7) (v := .int T.2.2.2.2.2.1) (C := RX7) (T := TX7) (N := 22) hx hb hts i_X7_number_X7 hown hE.1 hP 0 rfl rfl 10 (by decide) w2 (fun _ h9 => h9) rfl dX7_number_7 ?_
  refine lv_iconst (v := (2 : Int32)) hx hb dX7_number_10 (by decide) ?_
  refine lv_icmp_ne (tgt := 27) hx hb dX7_number_11 (by decide) (fun hc => ?_) (fun hc => ?_)
  · have hf := if_f hf hc
    refine lv_iconst (v := (0 : Int32)) hx hb dX7_number_27 (by decide) ?_
    obtain ⟨T101, hg, hf⟩ := o1_s hf
    refine Ct.callV0 (ws' := wM g m0 m1 m2 m3 m4 m5 m6 m7 m8 m9 m10 m11 m12 now kept aside ik found carried T101 S) (As := [.int (0 : Int32)]) (rest := []) (st1 := []) (c_X7_must l g m0 m1 m2 m3 m4 m5 m6 m7 m8 m9 m10 m11 m12 now kept aside ik found carried T S (0 : Int32) hg) (cwV 1 hts gX7_number_X7_must rfl rfl rfl q_X7_must ⟨Nat.le_of_ble_eq_true rfl, Nat.le_of_ble_eq_true rfl⟩) ⟨hx, hb, hml, hown, hts⟩ hE hP hD hS hA 7 0 rfl rfl rfl rfl hl.1 rfl rfl (Nat.le_of_ble_eq_true rfl) dX7_number_28 (fun H locs hP hD hS => ?_)
    refine lv_iload_n hx hb dX7_number_31 rfl (lv_at hl 0 rfl) ?_
    obtain ⟨rfl, rfl⟩ := some_p2 hf
    rw [hQ]; exact Ct.iret hx hb hr hlocks hAe hP hD hS dX7_number_32
  · have hf := if_t hf hc
    refine lv_iload_n hx hb dX7_number_14 rfl (lv_at hl 0 rfl) ?_
    refine lv_iload_n hx hb dX7_number_15 rfl (lv_at hl 2 rfl) ?_
    refine lv_iload_n hx hb dX7_number_16 rfl (lv_at hl 3 rfl) ?_
    obtain ⟨x102, hg, hf⟩ := o1_s hf
    refine Ct.callS (ws' := wM g m0 m1 m2 m3 m4 m5 m6 m7 m8 m9 m10 m11 m12 now kept aside ik found carried T S) (As := [.int T.2.2.2.2.2.2.1, .int a1, .int a2]) (rest := [.ref m0]) (st1 := [.int x102, .ref m0]) (c_X7_within l g T.2.2.2.2.2.2.1 a1 a2 hg) (va_cwS 3 hts gX7_number_X7_within rfl rfl rfl q_X7_within.2 ⟨Nat.le_of_ble_eq_true rfl, Nat.le_of_ble_eq_true rfl⟩) ⟨hx, hb, hml, hown, hts⟩ hE hP hD hS hA [] rfl rfl rfl rfl rfl hl.1 rfl rfl (Nat.le_of_ble_eq_true rfl) dX7_number_17 (fun H locs hP hD hS => ?_)
    refine lv_if_eq (tgt := 27) hx hb dX7_number_20 (by decide) (fun hc => ?_) (fun hc => ?_)
    · have hf := if_t hf hc
      refine lv_iconst (v := (0 : Int32)) hx hb dX7_number_27 (by decide) ?_
      obtain ⟨T103, hg, hf⟩ := o1_s hf
      refine Ct.callV0 (ws' := wM g m0 m1 m2 m3 m4 m5 m6 m7 m8 m9 m10 m11 m12 now kept aside ik found carried T103 S) (As := [.int (0 : Int32)]) (rest := []) (st1 := []) (c_X7_must l g m0 m1 m2 m3 m4 m5 m6 m7 m8 m9 m10 m11 m12 now kept aside ik found carried T S (0 : Int32) hg) (cwV 1 hts gX7_number_X7_must rfl rfl rfl q_X7_must ⟨Nat.le_of_ble_eq_true rfl, Nat.le_of_ble_eq_true rfl⟩) ⟨hx, hb, hml, hown, hts⟩ hE hP hD hS hA 7 0 rfl rfl rfl rfl hl.1 rfl rfl (Nat.le_of_ble_eq_true rfl) dX7_number_28 (fun H locs hP hD hS => ?_)
      refine lv_iload_n hx hb dX7_number_31 rfl (lv_at hl 0 rfl) ?_
      obtain ⟨rfl, rfl⟩ := some_p2 hf
      rw [hQ]; exact Ct.iret hx hb hr hlocks hAe hP hD hS dX7_number_32
    · have hf := if_f hf hc
      refine lv_iconst (v := (1 : Int32)) hx hb dX7_number_23 (by decide) ?_
      refine lv_goto (tgt := 28) hx hb dX7_number_24 (by decide) ?_
      obtain ⟨T104, hg, hf⟩ := o1_s hf
      refine Ct.callV0 (ws' := wM g m0 m1 m2 m3 m4 m5 m6 m7 m8 m9 m10 m11 m12 now kept aside ik found carried T104 S) (As := [.int (1 : Int32)]) (rest := []) (st1 := []) (c_X7_must l g m0 m1 m2 m3 m4 m5 m6 m7 m8 m9 m10 m11 m12 now kept aside ik found carried T S (1 : Int32) hg) (cwV 1 hts gX7_number_X7_must rfl rfl rfl q_X7_must ⟨Nat.le_of_ble_eq_true rfl, Nat.le_of_ble_eq_true rfl⟩) ⟨hx, hb, hml, hown, hts⟩ hE hP hD hS hA 7 0 rfl rfl rfl rfl hl.1 rfl rfl (Nat.le_of_ble_eq_true rfl) dX7_number_28 (fun H locs hP hD hS => ?_)
      refine lv_iload_n hx hb dX7_number_31 rfl (lv_at hl 0 rfl) ?_
      obtain ⟨rfl, rfl⟩ := some_p2 hf
      rw [hQ]; exact Ct.iret hx hb hr hlocks hAe hP hD hS dX7_number_32
def fX7_item (T : Mt) (a1 : Int32) (a2 : Int32) (a3 : Int32) (a4 : Int32) (a5 : Int32) (a6 : Int32) : Option (Mt) := wr T.2.1 720 ((6 : Int32) * T.2.2.2.2.2.2.2.2.1) a1 (fun f101 => wr f101 720 (((6 : Int32) * T.2.2.2.2.2.2.2.2.1) + (1 : Int32)) a2 (fun f102 => wr f102 720 (((6 : Int32) * T.2.2.2.2.2.2.2.2.1) + (2 : Int32)) a3 (fun f103 => wr f103 720 (((6 : Int32) * T.2.2.2.2.2.2.2.2.1) + (3 : Int32)) a4 (fun f104 => wr f104 720 (((6 : Int32) * T.2.2.2.2.2.2.2.2.1) + (4 : Int32)) a5 (fun f105 => wr f105 720 (((6 : Int32) * T.2.2.2.2.2.2.2.2.1) + (5 : Int32)) a6 (fun f106 => some (T.1, f106, T.2.2.1, T.2.2.2.1, T.2.2.2.2.1, T.2.2.2.2.2.1, T.2.2.2.2.2.2.1, T.2.2.2.2.2.2.2.1, (T.2.2.2.2.2.2.2.2.1 + (1 : Int32)), T.2.2.2.2.2.2.2.2.2.1, T.2.2.2.2.2.2.2.2.2.2)))))))
theorem q_X7_item : yX7_item.cls = RX7 ∧ yX7_item.cls ≠ "java/lang/invoke/MethodHandle" ∧ yX7_item.cls ≠ "java/lang/invoke/VarHandle" ∧ (parseMethodDescriptor yX7_item.desc).map (fun d => d.parameters.length) = some 6 := by decide +kernel
theorem i_X7_item_X7 : ∀ w ∈ u_ws RX7 TX7 22, w ∈ wsX7_item := fun _ h => List.mem_cons_of_mem _ (List.mem_append_right _ (h))
set_option maxHeartbeats 4000000 in
set_option maxRecDepth 100000 in
theorem c_X7_item (l : Launch) (g : gG) (m0 m1 m2 m3 m4 m5 m6 m7 m8 m9 m10 m11 m12 : Nat) (now : Nat → Int32) (kept : Nat → Int32) (aside : Nat → Int32) (ik : Int32) (found : Nat → Int32) (carried : Nat → Int32) (T : Mt) (S : Ms) (a1 : Int32) (a2 : Int32) (a3 : Int32) (a4 : Int32) (a5 : Int32) (a6 : Int32) {T' : Mt} (hf : fX7_item T a1 a2 a3 a4 a5 a6 = some T') : Ct l yX7_item wsX7_item (rmm 0 0) g (wM g m0 m1 m2 m3 m4 m5 m6 m7 m8 m9 m10 m11 m12 now kept aside ik found carried T S) (wM g m0 m1 m2 m3 m4 m5 m6 m7 m8 m9 m10 m11 m12 now kept aside ik found carried (T') S) [.ref m0, .int a1, .int a2, .int a3, .int a4, .int a5, .int a6] none := by
  refine Ct.mk (by decide) rfl (Nat.le_of_ble_eq_true rfl) ?_
  intro p e s m args below meth c A ls hx hb hr hml hts hown hlocks hA hE hP hD hS hl hAe
  obtain ⟨Qx, hQ⟩ : ∃ Qx : State → Prop, Qx = MQ below (QcG g (wM g m0 m1 m2 m3 m4 m5 m6 m7 m8 m9 m10 m11 m12 now kept aside ik found carried T S) (wM g m0 m1 m2 m3 m4 m5 m6 m7 m8 m9 m10 m11 m12 now kept aside ik found carried (T') S) none s.heap.size) args s 0 0 A := ⟨_, rfl⟩
  rw [← hQ]
  have hown : s.vm.findClass RX7 = some m.cls := hown
  have hl : lv_has ls 8 [(0, .ref m0), (1, .int a1), (2, .int a2), (3, .int a3), (4, .int a4), (5, .int a5), (6, .int a6)] := hl
  have w1 := hts (.fieldLink RX7 262 "RainVaultModel" "itemMany" "I") (List.mem_of_getElem? (i := 1) rfl)
  have w2 := hts (.fieldLink RX7 48 "RainVaultModel" "items" "[I") (List.mem_of_getElem? (i := 2) rfl)
  unfold fX7_item at hf
  refine lv_bipush (v := (6 : Int32)) hx hb dX7_item_0 (by decide) ?_
  refine lv_aload_n hx hb dX7_item_2 rfl (lv_at hl 0 rfl) ?_
  refine va_get (D := g.1) (ci := 7) (v := .int T.2.2.2.2.2.2.2.2.1) (C := RX7) (T := TX7) (N := 22) hx hb hts i_X7_item_X7 hown hE.1 hP 0 rfl rfl 15 (by decide) w1 (fun _ h9 => h9) rfl dX7_item_3 ?_
  refine lv_imul hx hb dX7_item_6 ?_
  refine lv_istore (lv' := [(7, .int ((6 : Int32) * T.2.2.2.2.2.2.2.2.1)), (0, .ref m0), (1, .int a1), (2, .int a2), (3, .int a3), (4, .int a4), (5, .int a5), (6, .int a6)]) hx hb dX7_item_7 hl (by decide) rfl (fun ls hl => ?_)
  refine lv_aload_n hx hb dX7_item_9 rfl (lv_at hl 1 rfl) ?_
  refine va_get (D := g.1) (ci := 7) (v := .ref m8) (C := RX7) (T := TX7) (N := 22) hx hb hts i_X7_item_X7 hown hE.1 hP 0 rfl rfl 14 (by decide) w2 (fun _ h9 => h9) rfl dX7_item_10 ?_
  refine lv_iload hx hb dX7_item_13 (lv_at hl 0 rfl) ?_
  refine lv_iload_n hx hb dX7_item_15 rfl (lv_at hl 2 rfl) ?_
  obtain ⟨f101, ef, hin, hf⟩ := wr_s hf
  refine st_iast (ws' := wM g m0 m1 m2 m3 m4 m5 m6 m7 m8 m9 m10 m11 m12 now kept aside ik found carried (T.1, f101, T.2.2.1, T.2.2.2.1, T.2.2.2.2.1, T.2.2.2.2.2.1, T.2.2.2.2.2.2.1, T.2.2.2.2.2.2.2.1, T.2.2.2.2.2.2.2.2.1, T.2.2.2.2.2.2.2.2.2.1, T.2.2.2.2.2.2.2.2.2.2) S) (f := T.2.1) (f2 := f101) hx hb hE.1 hP hD hS 8 0 rfl rfl hin ef rfl dX7_item_16 (fun H locs hP hD hS => ?_)
  refine lv_aload_n hx hb dX7_item_17 rfl (lv_at hl 1 rfl) ?_
  refine va_get (D := g.1) (ci := 7) (v := .ref m8) (C := RX7) (T := TX7) (N := 22) hx hb hts i_X7_item_X7 hown hE.1 hP 0 rfl rfl 14 (by decide) w2 (fun _ h9 => h9) rfl dX7_item_18 ?_
  refine lv_iload hx hb dX7_item_21 (lv_at hl 0 rfl) ?_
  refine lv_iconst (v := (1 : Int32)) hx hb dX7_item_23 (by decide) ?_
  refine lv_iadd hx hb dX7_item_24 ?_
  refine lv_iload_n hx hb dX7_item_25 rfl (lv_at hl 3 rfl) ?_
  obtain ⟨f102, ef, hin, hf⟩ := wr_s hf
  refine st_iast (ws' := wM g m0 m1 m2 m3 m4 m5 m6 m7 m8 m9 m10 m11 m12 now kept aside ik found carried (T.1, f102, T.2.2.1, T.2.2.2.1, T.2.2.2.2.1, T.2.2.2.2.2.1, T.2.2.2.2.2.2.1, T.2.2.2.2.2.2.2.1, T.2.2.2.2.2.2.2.2.1, T.2.2.2.2.2.2.2.2.2.1, T.2.2.2.2.2.2.2.2.2.2) S) (f := f101) (f2 := f102) hx hb hE.1 hP hD hS 8 0 rfl rfl hin ef rfl dX7_item_26 (fun H locs hP hD hS => ?_)
  refine lv_aload_n hx hb dX7_item_27 rfl (lv_at hl 1 rfl) ?_
  refine va_get (D := g.1) (ci := 7) (v := .ref m8) (C := RX7) (T := TX7) (N := 22) hx hb hts i_X7_item_X7 hown hE.1 hP 0 rfl rfl 14 (by decide) w2 (fun _ h9 => h9) rfl dX7_item_28 ?_
  refine lv_iload hx hb dX7_item_31 (lv_at hl 0 rfl) ?_
  refine lv_iconst (v := (2 : Int32)) hx hb dX7_item_33 (by decide) ?_
  refine lv_iadd hx hb dX7_item_34 ?_
  refine lv_iload_n hx hb dX7_item_35 rfl (lv_at hl 4 rfl) ?_
  obtain ⟨f103, ef, hin, hf⟩ := wr_s hf
  refine st_iast (ws' := wM g m0 m1 m2 m3 m4 m5 m6 m7 m8 m9 m10 m11 m12 now kept aside ik found carried (T.1, f103, T.2.2.1, T.2.2.2.1, T.2.2.2.2.1, T.2.2.2.2.2.1, T.2.2.2.2.2.2.1, T.2.2.2.2.2.2.2.1, T.2.2.2.2.2.2.2.2.1, T.2.2.2.2.2.2.2.2.2.1, T.2.2.2.2.2.2.2.2.2.2) S) (f := f102) (f2 := f103) hx hb hE.1 hP hD hS 8 0 rfl rfl hin ef rfl dX7_item_36 (fun H locs hP hD hS => ?_)
  refine lv_aload_n hx hb dX7_item_37 rfl (lv_at hl 1 rfl) ?_
  refine va_get (D := g.1) (ci := 7) (v := .ref m8) (C := RX7) (T := TX7) (N := 22) hx hb hts i_X7_item_X7 hown hE.1 hP 0 rfl rfl 14 (by decide) w2 (fun _ h9 => h9) rfl dX7_item_38 ?_
  refine lv_iload hx hb dX7_item_41 (lv_at hl 0 rfl) ?_
  refine lv_iconst (v := (3 : Int32)) hx hb dX7_item_43 (by decide) ?_
  refine lv_iadd hx hb dX7_item_44 ?_
  refine lv_iload hx hb dX7_item_45 (lv_at hl 5 rfl) ?_
  obtain ⟨f104, ef, hin, hf⟩ := wr_s hf
  refine st_iast (ws' := wM g m0 m1 m2 m3 m4 m5 m6 m7 m8 m9 m10 m11 m12 now kept aside ik found carried (T.1, f104, T.2.2.1, T.2.2.2.1, T.2.2.2.2.1, T.2.2.2.2.2.1, T.2.2.2.2.2.2.1, T.2.2.2.2.2.2.2.1, T.2.2.2.2.2.2.2.2.1, T.2.2.2.2.2.2.2.2.2.1, T.2.2.2.2.2.2.2.2.2.2) S) (f := f103) (f2 := f104) hx hb hE.1 hP hD hS 8 0 rfl rfl hin ef rfl dX7_item_47 (fun H locs hP hD hS => ?_)
  refine lv_aload_n hx hb dX7_item_48 rfl (lv_at hl 1 rfl) ?_
  refine va_get (D := g.1) (ci := 7) (v := .ref m8) (C := RX7) (T := TX7) (N := 22) hx hb hts i_X7_item_X7 hown hE.1 hP 0 rfl rfl 14 (by decide) w2 (fun _ h9 => h9) rfl dX7_item_49 ?_
  refine lv_iload hx hb dX7_item_52 (lv_at hl 0 rfl) ?_
  refine lv_iconst (v := (4 : Int32)) hx hb dX7_item_54 (by decide) ?_
  refine lv_iadd hx hb dX7_item_55 ?_
  refine lv_iload hx hb dX7_item_56 (lv_at hl 6 rfl) ?_
  obtain ⟨f105, ef, hin, hf⟩ := wr_s hf
  refine st_iast (ws' := wM g m0 m1 m2 m3 m4 m5 m6 m7 m8 m9 m10 m11 m12 now kept aside ik found carried (T.1, f105, T.2.2.1, T.2.2.2.1, T.2.2.2.2.1, T.2.2.2.2.2.1, T.2.2.2.2.2.2.1, T.2.2.2.2.2.2.2.1, T.2.2.2.2.2.2.2.2.1, T.2.2.2.2.2.2.2.2.2.1, T.2.2.2.2.2.2.2.2.2.2) S) (f := f104) (f2 := f105) hx hb hE.1 hP hD hS 8 0 rfl rfl hin ef rfl dX7_item_58 (fun H locs hP hD hS => ?_)
  refine lv_aload_n hx hb dX7_item_59 rfl (lv_at hl 1 rfl) ?_
  refine va_get (D := g.1) (ci := 7) (v := .ref m8) (C := RX7) (T := TX7) (N := 22) hx hb hts i_X7_item_X7 hown hE.1 hP 0 rfl rfl 14 (by decide) w2 (fun _ h9 => h9) rfl dX7_item_60 ?_
  refine lv_iload hx hb dX7_item_63 (lv_at hl 0 rfl) ?_
  refine lv_iconst (v := (5 : Int32)) hx hb dX7_item_65 (by decide) ?_
  refine lv_iadd hx hb dX7_item_66 ?_
  refine lv_iload hx hb dX7_item_67 (lv_at hl 7 rfl) ?_
  obtain ⟨f106, ef, hin, hf⟩ := wr_s hf
  refine st_iast (ws' := wM g m0 m1 m2 m3 m4 m5 m6 m7 m8 m9 m10 m11 m12 now kept aside ik found carried (T.1, f106, T.2.2.1, T.2.2.2.1, T.2.2.2.2.1, T.2.2.2.2.2.1, T.2.2.2.2.2.2.1, T.2.2.2.2.2.2.2.1, T.2.2.2.2.2.2.2.2.1, T.2.2.2.2.2.2.2.2.2.1, T.2.2.2.2.2.2.2.2.2.2) S) (f := f105) (f2 := f106) hx hb hE.1 hP hD hS 8 0 rfl rfl hin ef rfl dX7_item_69 (fun H locs hP hD hS => ?_)
  refine lv_aload_n hx hb dX7_item_70 rfl (lv_at hl 1 rfl) ?_
  refine lv_dup hx hb dX7_item_71 rfl ?_
  refine va_get (D := g.1) (ci := 7) (v := .int T.2.2.2.2.2.2.2.2.1) (C := RX7) (T := TX7) (N := 22) hx hb hts i_X7_item_X7 hown hE.1 hP 0 rfl rfl 15 (by decide) w1 (fun _ h9 => h9) rfl dX7_item_72 ?_
  refine lv_iconst (v := (1 : Int32)) hx hb dX7_item_75 (by decide) ?_
  refine lv_iadd hx hb dX7_item_76 ?_
  refine va_put (D := g.1) (ci := 7) (v := .int (T.2.2.2.2.2.2.2.2.1 + (1 : Int32))) (ty := .int) (C := RX7) (T := TX7) (N := 22) hx hb hts i_X7_item_X7 tyX7 tyX7_ok nmX7 hown hE.1 hP hD hS 0 rfl rfl 15 (by decide) w1 (fun _ h9 => h9) rfl (by decide +kernel) rfl rfl (Nat.le_of_ble_eq_true rfl) dX7_item_77 (fun H locs hP hD hS => ?_)
  have hP : va_P g.1 vwK (wM g m0 m1 m2 m3 m4 m5 m6 m7 m8 m9 m10 m11 m12 now kept aside ik found carried (T.1, f106, T.2.2.1, T.2.2.2.1, T.2.2.2.2.1, T.2.2.2.2.2.1, T.2.2.2.2.2.2.1, T.2.2.2.2.2.2.2.1, (T.2.2.2.2.2.2.2.2.1 + (1 : Int32)), T.2.2.2.2.2.2.2.2.2.1, T.2.2.2.2.2.2.2.2.2.2) S) H := hP
  have hD : va_D A (wM g m0 m1 m2 m3 m4 m5 m6 m7 m8 m9 m10 m11 m12 now kept aside ik found carried (T.1, f106, T.2.2.1, T.2.2.2.1, T.2.2.2.2.1, T.2.2.2.2.2.1, T.2.2.2.2.2.2.1, T.2.2.2.2.2.2.2.1, (T.2.2.2.2.2.2.2.2.1 + (1 : Int32)), T.2.2.2.2.2.2.2.2.2.1, T.2.2.2.2.2.2.2.2.2.2) S) := hD
  obtain rfl := Option.some.inj hf
  rw [hQ]; exact Ct.vret hx hb hr hlocks hAe hP hD hS dX7_item_80
def fX7_kindTold_L4 (T : Mt) (kx : Int32 → Option (Int32)) : Nat → Int32 → Int32 → Option (Int32)
  | 0, _, _ => none
  | k + 1, x1, x2 => if (7 : Int32) ≤ x2 then (kx x1) else (rz 7 x2 (fun j103 => o1 (fX7_isWord T j103) (fun x104 => if x104 = 0 then (fX7_kindTold_L4 T kx k x1 (x2 + (1 : Int32))) else (fX7_kindTold_L4 T kx k x2 (x2 + (1 : Int32))))))
def fX7_kindTold (T : Mt) : Option (Int32) := fX7_kindTold_L4 T (fun x105 => some x105) fu (-1 : Int32) (0 : Int32)
theorem q_X7_kindTold : yX7_kindTold.cls = RX7 ∧ yX7_kindTold.cls ≠ "java/lang/invoke/MethodHandle" ∧ yX7_kindTold.cls ≠ "java/lang/invoke/VarHandle" ∧ (parseMethodDescriptor yX7_kindTold.desc).map (fun d => d.parameters.length) = some 0 := by decide +kernel
theorem i_X7_kindTold_X7 : ∀ w ∈ u_ws RX7 TX7 22, w ∈ wsX7_kindTold := fun _ h => List.mem_cons_of_mem _ (List.mem_append_right _ (h))
set_option maxHeartbeats 4000000 in
set_option maxRecDepth 100000 in
theorem c_X7_kindTold (l : Launch) (g : gG) (m0 m1 m2 m3 m4 m5 m6 m7 m8 m9 m10 m11 m12 : Nat) (now : Nat → Int32) (kept : Nat → Int32) (aside : Nat → Int32) (ik : Int32) (found : Nat → Int32) (carried : Nat → Int32) (T : Mt) (S : Ms) {r : Int32} (hf : fX7_kindTold T = some r) : Ct l yX7_kindTold wsX7_kindTold (rmm 7 244) g (wM g m0 m1 m2 m3 m4 m5 m6 m7 m8 m9 m10 m11 m12 now kept aside ik found carried T S) (wM g m0 m1 m2 m3 m4 m5 m6 m7 m8 m9 m10 m11 m12 now kept aside ik found carried T S) [.ref m0] (some (.int r)) := by
  refine Ct.mk (by decide) rfl (Nat.le_of_ble_eq_true rfl) ?_
  intro p e s m args below meth c A ls hx hb hr hml hts hown hlocks hA hE hP hD hS hl hAe
  obtain ⟨Qx, hQ⟩ : ∃ Qx : State → Prop, Qx = MQ below (QcG g (wM g m0 m1 m2 m3 m4 m5 m6 m7 m8 m9 m10 m11 m12 now kept aside ik found carried T S) (wM g m0 m1 m2 m3 m4 m5 m6 m7 m8 m9 m10 m11 m12 now kept aside ik found carried T S) (some (.int r)) s.heap.size) args s 0 0 A := ⟨_, rfl⟩
  rw [← hQ]
  have hown : s.vm.findClass RX7 = some m.cls := hown
  have hl : lv_has ls 3 [(0, .ref m0)] := hl
  have w1 := hts (.fieldLink RX7 44 "RainVaultModel" "kinds" "[Ljava/lang/String;") (List.mem_of_getElem? (i := 1) rfl)
  have L4 : ∀ (kx : Int32 → Option (Int32)) (k : Nat) (x1 : Int32) (x2 : Int32) (H : Heap) (locs : List Loc) (ls : Array Slot), fX7_kindTold_L4 T kx k x1 x2 = some r → va_P g.1 vwK (wM g m0 m1 m2 m3 m4 m5 m6 m7 m8 m9 m10 m11 m12 now kept aside ik found carried T S) H → va_D A (wM g m0 m1 m2 m3 m4 m5 m6 m7 m8 m9 m10 m11 m12 now kept aside ik found carried T S) → va_S A s.heap H locs → lv_has ls 3 [(0, .ref m0), (1, .int x1), (2, .int x2)] → (∀ (x1 : Int32) (H : Heap) (locs : List Loc) (ls : Array Slot), kx x1 = some r → va_P g.1 vwK (wM g m0 m1 m2 m3 m4 m5 m6 m7 m8 m9 m10 m11 m12 now kept aside ik found carried T S) H → va_D A (wM g m0 m1 m2 m3 m4 m5 m6 m7 m8 m9 m10 m11 m12 now kept aside ik found carried T S) → va_S A s.heap H locs → lv_has ls 3 [(1, .int x1)] → W p l e (rmm 7 244) s m args below meth c H locs 0 0 Qx (F0 m 38 ls [])) → W p l e (rmm 7 244) s m args below meth c H locs 0 0 Qx (F0 m 4 ls []) := by
    intro kx k
    induction k with
    | zero => intro x1 x2 H locs ls hf; exact nomatch (show (none : Option (Int32)) = some _ from hf)
    | succ k ih =>
      intro x1 x2 H locs ls hf hP hD hS hl hk
      rw [fX7_kindTold_L4] at hf
      refine lv_iload_n hx hb dX7_kindTold_4 rfl (lv_at hl 2 rfl) ?_
      refine lv_aload_n hx hb dX7_kindTold_5 rfl (lv_at hl 0 rfl) ?_
      refine va_get (D := g.1) (ci := 7) (v := .ref m7) (C := RX7) (T := TX7) (N := 22) hx hb hts i_X7_kindTold_X7 hown hE.1 hP 0 rfl rfl 13 (by decide) w1 (fun _ h9 => h9) rfl dX7_kindTold_6 ?_
      refine va_alen (v := (7 : Int32)) hx hb hE.1 hP 7 2 rfl rfl (show Int32.ofNat 7 = (7 : Int32) by decide) dX7_kindTold_9 ?_
      refine lv_icmp_ge (tgt := 38) hx hb dX7_kindTold_10 (by decide) (fun hc => ?_) (fun hc => ?_)
      · have hf := if_t hf hc
        exact hk _ _ _ _  hf hP hD hS (lv_sub hl [1] rfl)
      · have hf := if_f hf hc
        refine lv_aload_n hx hb dX7_kindTold_13 rfl (lv_at hl 0 rfl) ?_
        refine lv_aload_n hx hb dX7_kindTold_14 rfl (lv_at hl 0 rfl) ?_
        refine va_get (D := g.1) (ci := 7) (v := .ref m7) (C := RX7) (T := TX7) (N := 22) hx hb hts i_X7_kindTold_X7 hown hE.1 hP 0 rfl rfl 13 (by decide) w1 (fun _ h9 => h9) rfl dX7_kindTold_15 ?_
        refine lv_iload_n hx hb dX7_kindTold_18 rfl (lv_at hl 2 rfl) ?_
        obtain ⟨j103, ej, hin, hf⟩ := rz_s hf
        refine st_aldz hx hb hE.1 hP 7 2 rfl rfl hin ej dX7_kindTold_19 ?_
        obtain ⟨x104, hg, hf⟩ := o1_s hf
        refine Ct.callV0 (ws' := wM g m0 m1 m2 m3 m4 m5 m6 m7 m8 m9 m10 m11 m12 now kept aside ik found carried T S) (As := [.ref (g.2.2 (10 + j103))]) (rest := []) (st1 := [.int x104]) (c_X7_isWord l g m0 m1 m2 m3 m4 m5 m6 m7 m8 m9 m10 m11 m12 now kept aside ik found carried T S j103 hg) (cwV 1 hts gX7_kindTold_X7_isWord rfl rfl rfl q_X7_isWord ⟨Nat.le_of_ble_eq_true rfl, Nat.le_of_ble_eq_true rfl⟩) ⟨hx, hb, hml, hown, hts⟩ hE hP hD hS hA 7 0 rfl rfl rfl rfl hl.1 rfl rfl (Nat.le_of_ble_eq_true rfl) dX7_kindTold_20 (fun H locs hP hD hS => ?_)
        refine lv_if_eq (tgt := 30) hx hb dX7_kindTold_23 (by decide) (fun hc => ?_) (fun hc => ?_)
        · have hf := if_t hf hc
          refine lv_iload_n hx hb dX7_kindTold_30 rfl (lv_at hl 1 rfl) ?_
          refine lv_istore_n (lv' := [(1, .int x1), (0, .ref m0), (2, .int x2)]) hx hb dX7_kindTold_31 rfl hl (by decide) rfl (fun ls hl => ?_)
          refine lv_iinc (v := (x2 + (1 : Int32))) (lv' := [(2, .int (x2 + (1 : Int32))), (1, .int x1), (0, .ref m0)]) hx hb dX7_kindTold_32 hl (k := 2) rfl rfl (by decide) rfl (fun ls hl => ?_)
          refine lv_goto (tgt := 4) hx hb dX7_kindTold_35 (by decide) ?_
          exact ih _ _ _ _ _  hf hP hD hS (lv_sub hl [2, 1, 0] rfl) hk
        · have hf := if_f hf hc
          refine lv_iload_n hx hb dX7_kindTold_26 rfl (lv_at hl 2 rfl) ?_
          refine lv_goto (tgt := 31) hx hb dX7_kindTold_27 (by decide) ?_
          refine lv_istore_n (lv' := [(1, .int x2), (0, .ref m0), (2, .int x2)]) hx hb dX7_kindTold_31 rfl hl (by decide) rfl (fun ls hl => ?_)
          refine lv_iinc (v := (x2 + (1 : Int32))) (lv' := [(2, .int (x2 + (1 : Int32))), (1, .int x2), (0, .ref m0)]) hx hb dX7_kindTold_32 hl (k := 2) rfl rfl (by decide) rfl (fun ls hl => ?_)
          refine lv_goto (tgt := 4) hx hb dX7_kindTold_35 (by decide) ?_
          exact ih _ _ _ _ _  hf hP hD hS (lv_sub hl [2, 1, 0] rfl) hk
  unfold fX7_kindTold at hf
  refine lv_iconst (v := (-1 : Int32)) hx hb dX7_kindTold_0 (by decide) ?_
  refine lv_istore_n (lv' := [(1, .int (-1 : Int32)), (0, .ref m0)]) hx hb dX7_kindTold_1 rfl hl (by decide) rfl (fun ls hl => ?_)
  refine lv_iconst (v := (0 : Int32)) hx hb dX7_kindTold_2 (by decide) ?_
  refine lv_istore_n (lv' := [(2, .int (0 : Int32)), (1, .int (-1 : Int32)), (0, .ref m0)]) hx hb dX7_kindTold_3 rfl hl (by decide) rfl (fun ls hl => ?_)
  refine L4 _ _ _ _ _ _ _  hf hP hD hS (lv_sub hl [2, 1, 0] rfl) (fun x105 H locs ls hf hP hD hS hl => ?_)
  refine lv_iload_n hx hb dX7_kindTold_38 rfl (lv_at hl 0 rfl) ?_
  obtain rfl := Option.some.inj hf
  rw [hQ]; exact Ct.iret hx hb hr hlocks hAe hP hD hS dX7_kindTold_39
def fX7_perhaps (T : Mt) (j : Nat) (a2 : Int32) (a3 : Int32) (a4 : Int32) : Option (Int32 × Mt) := if T.2.2.2.2.2.2.2.1 = 0 then (o1 (fX7_isWord T j) (fun x101 => if x101 = 0 then (some (a4, T)) else (o1 (fX7_must T (1 : Int32)) (fun T102 => o2 (fX7_number T102 a2 a3) (fun x103 T104 => some (x103, T104)))))) else (some (a4, T))
theorem q_X7_perhaps : yX7_perhaps.cls = RX7 ∧ yX7_perhaps.cls ≠ "java/lang/invoke/MethodHandle" ∧ yX7_perhaps.cls ≠ "java/lang/invoke/VarHandle" ∧ (parseMethodDescriptor yX7_perhaps.desc).map (fun d => d.parameters.length) = some 4 := by decide +kernel
theorem i_X7_perhaps_X7 : ∀ w ∈ u_ws RX7 TX7 22, w ∈ wsX7_perhaps := fun _ h => List.mem_cons_of_mem _ (List.mem_append_right _ (h))
set_option maxHeartbeats 4000000 in
set_option maxRecDepth 100000 in
theorem c_X7_perhaps (l : Launch) (g : gG) (m0 m1 m2 m3 m4 m5 m6 m7 m8 m9 m10 m11 m12 : Nat) (now : Nat → Int32) (kept : Nat → Int32) (aside : Nat → Int32) (ik : Int32) (found : Nat → Int32) (carried : Nat → Int32) (T : Mt) (S : Ms) (j : Nat) (a2 : Int32) (a3 : Int32) (a4 : Int32) {r : Int32} {T' : Mt} (hf : fX7_perhaps T j a2 a3 a4 = some (r, T')) : Ct l yX7_perhaps wsX7_perhaps (rmm 7 244) g (wM g m0 m1 m2 m3 m4 m5 m6 m7 m8 m9 m10 m11 m12 now kept aside ik found carried T S) (wM g m0 m1 m2 m3 m4 m5 m6 m7 m8 m9 m10 m11 m12 now kept aside ik found carried (T') S) [.ref m0, .ref (g.2.2 (10 + j)), .int a2, .int a3, .int a4] (some (.int r)) := by
  refine Ct.mk (by decide) rfl (Nat.le_of_ble_eq_true rfl) ?_
  intro p e s m args below meth c A ls hx hb hr hml hts hown hlocks hA hE hP hD hS hl hAe
  obtain ⟨Qx, hQ⟩ : ∃ Qx : State → Prop, Qx = MQ below (QcG g (wM g m0 m1 m2 m3 m4 m5 m6 m7 m8 m9 m10 m11 m12 now kept aside ik found carried T S) (wM g m0 m1 m2 m3 m4 m5 m6 m7 m8 m9 m10 m11 m12 now kept aside ik found carried (T') S) (some (.int r)) s.heap.size) args s 0 0 A := ⟨_, rfl⟩
  rw [← hQ]
  have hown : s.vm.findClass RX7 = some m.cls := hown
  have hl : lv_has ls 5 [(0, .ref m0), (1, .ref (g.2.2 (10 + j))), (2, .int a2), (3, .int a3), (4, .int a4)] := hl
  have w1 := hts (.fieldLink RX7 251 "RainVaultModel" "isWrong" "Z") (List.mem_of_getElem? (i := 1) rfl)
  unfold fX7_perhaps at hf
  refine lv_aload_n hx hb dX7_perhaps_0 rfl (lv_at hl 0 rfl) ?_
  refine va_get (D := g.1) (ci := 7) (v := .int T.2.2.2.2.2.2.2.1) (C := RX7) (T := TX7) (N := 22) hx hb hts i_X7_perhaps_X7 hown hE.1 hP 0 rfl rfl 12 (by decide) w1 (fun _ h9 => h9) rfl dX7_perhaps_1 ?_
  refine lv_if_ne (tgt := 15) hx hb dX7_perhaps_4 (by decide) (fun hc => ?_) (fun hc => ?_)
  · have hf := if_f hf hc
    refine lv_iload hx hb dX7_perhaps_15 (lv_at hl 4 rfl) ?_
    obtain ⟨rfl, rfl⟩ := some_p2 hf
    rw [hQ]; exact Ct.iret hx hb hr hlocks hAe hP hD hS dX7_perhaps_17
  · have hf := if_t hf hc
    refine lv_aload_n hx hb dX7_perhaps_7 rfl (lv_at hl 0 rfl) ?_
    refine lv_aload_n hx hb dX7_perhaps_8 rfl (lv_at hl 1 rfl) ?_
    obtain ⟨x101, hg, hf⟩ := o1_s hf
    refine Ct.callV0 (ws' := wM g m0 m1 m2 m3 m4 m5 m6 m7 m8 m9 m10 m11 m12 now kept aside ik found carried T S) (As := [.ref (g.2.2 (10 + j))]) (rest := []) (st1 := [.int x101]) (c_X7_isWord l g m0 m1 m2 m3 m4 m5 m6 m7 m8 m9 m10 m11 m12 now kept aside ik found carried T S j hg) (cwV 1 hts gX7_perhaps_X7_isWord rfl rfl rfl q_X7_isWord ⟨Nat.le_of_ble_eq_true rfl, Nat.le_of_ble_eq_true rfl⟩) ⟨hx, hb, hml, hown, hts⟩ hE hP hD hS hA 7 0 rfl rfl rfl rfl hl.1 rfl rfl (Nat.le_of_ble_eq_true rfl) dX7_perhaps_9 (fun H locs hP hD hS => ?_)
    refine lv_if_ne (tgt := 18) hx hb dX7_perhaps_12 (by decide) (fun hc => ?_) (fun hc => ?_)
    · have hf := if_f hf hc
      refine lv_aload_n hx hb dX7_perhaps_18 rfl (lv_at hl 0 rfl) ?_
      refine lv_iconst (v := (1 : Int32)) hx hb dX7_perhaps_19 (by decide) ?_
      obtain ⟨T102, hg, hf⟩ := o1_s hf
      refine Ct.callV0 (ws' := wM g m0 m1 m2 m3 m4 m5 m6 m7 m8 m9 m10 m11 m12 now kept aside ik found carried T102 S) (As := [.int (1 : Int32)]) (rest := []) (st1 := []) (c_X7_must l g m0 m1 m2 m3 m4 m5 m6 m7 m8 m9 m10 m11 m12 now kept aside ik found carried T S (1 : Int32) hg) (cwV 1 hts gX7_perhaps_X7_must rfl rfl rfl q_X7_must ⟨Nat.le_of_ble_eq_true rfl, Nat.le_of_ble_eq_true rfl⟩) ⟨hx, hb, hml, hown, hts⟩ hE hP hD hS hA 7 0 rfl rfl rfl rfl hl.1 rfl rfl (Nat.le_of_ble_eq_true rfl) dX7_perhaps_20 (fun H locs hP hD hS => ?_)
      refine lv_aload_n hx hb dX7_perhaps_23 rfl (lv_at hl 0 rfl) ?_
      refine lv_iload_n hx hb dX7_perhaps_24 rfl (lv_at hl 2 rfl) ?_
      refine lv_iload_n hx hb dX7_perhaps_25 rfl (lv_at hl 3 rfl) ?_
      obtain ⟨x103, T104, hg, hf⟩ := o2_s hf
      refine Ct.callV0 (ws' := wM g m0 m1 m2 m3 m4 m5 m6 m7 m8 m9 m10 m11 m12 now kept aside ik found carried T104 S) (As := [.int a2, .int a3]) (rest := []) (st1 := [.int x103]) (c_X7_number l g m0 m1 m2 m3 m4 m5 m6 m7 m8 m9 m10 m11 m12 now kept aside ik found carried T102 S a2 a3 hg) (cwV 2 hts gX7_perhaps_X7_number rfl rfl rfl q_X7_number ⟨Nat.le_of_ble_eq_true rfl, Nat.le_of_ble_eq_true rfl⟩) ⟨hx, hb, hml, hown, hts⟩ hE hP hD hS hA 7 0 rfl rfl rfl rfl hl.1 rfl rfl (Nat.le_of_ble_eq_true rfl) dX7_perhaps_26 (fun H locs hP hD hS => ?_)
      obtain ⟨rfl, rfl⟩ := some_p2 hf
      rw [hQ]; exact Ct.iret hx hb hr hlocks hAe hP hD hS dX7_perhaps_29
    · have hf := if_t hf hc
      refine lv_iload hx hb dX7_perhaps_15 (lv_at hl 4 rfl) ?_
      obtain ⟨rfl, rfl⟩ := some_p2 hf
      rw [hQ]; exact Ct.iret hx hb hr hlocks hAe hP hD hS dX7_perhaps_17
def fX7_readCistern_J15 (T : Mt) (x1 : Int32) (y0 : Int32) : Option (Mt) := o1 (fX7_must T y0) (fun T101 => o2 (fX7_perhaps (T101.1, T101.2.1, T101.2.2.1, T101.2.2.2.1, T101.2.2.2.2.1, T101.2.2.2.2.2.1, T101.2.2.2.2.2.2.1, T101.2.2.2.2.2.2.2.1, T101.2.2.2.2.2.2.2.2.1, (T101.2.2.2.2.2.2.2.2.2.1 + (1 : Int32)), T101.2.2.2.2.2.2.2.2.2.2) 7 (1 : Int32) (40 : Int32) (10 : Int32)) (fun x102 T103 => o2 (fX7_perhaps T103 8 (0 : Int32) x102 (0 : Int32)) (fun x104 T105 => o2 (fX7_perhaps T105 9 (0 : Int32) (9 : Int32) (1 : Int32)) (fun x106 T107 => o2 (fX7_perhaps T107 10 (0 : Int32) (7 : Int32) (-1 : Int32)) (fun x108 T109 => o1 (fX7_item T109 x1 x102 x104 x106 x108 (0 : Int32)) (fun T110 => some T110))))))
def fX7_readCistern (T : Mt) (a1 : Int32) : Option (Mt) := if (8 : Int32) ≤ T.2.2.2.2.2.2.2.2.2.1 then (fX7_readCistern_J15 T a1 (0 : Int32)) else (fX7_readCistern_J15 T a1 (1 : Int32))
theorem q_X7_readCistern : yX7_readCistern.cls = RX7 ∧ yX7_readCistern.cls ≠ "java/lang/invoke/MethodHandle" ∧ yX7_readCistern.cls ≠ "java/lang/invoke/VarHandle" ∧ (parseMethodDescriptor yX7_readCistern.desc).map (fun d => d.parameters.length) = some 1 := by decide +kernel
theorem i_X7_readCistern_X7 : ∀ w ∈ u_ws RX7 TX7 22, w ∈ wsX7_readCistern := fun _ h => List.mem_cons_of_mem _ (List.mem_append_right _ (h))
set_option maxHeartbeats 4000000 in
set_option maxRecDepth 100000 in
theorem c_X7_readCistern (l : Launch) (g : gG) (m0 m1 m2 m3 m4 m5 m6 m7 m8 m9 m10 m11 m12 : Nat) (now : Nat → Int32) (kept : Nat → Int32) (aside : Nat → Int32) (ik : Int32) (found : Nat → Int32) (carried : Nat → Int32) (T : Mt) (S : Ms) (a1 : Int32) {T' : Mt} (hf : fX7_readCistern T a1 = some T') : Ct l yX7_readCistern wsX7_readCistern (rmm 8 268) g (wM g m0 m1 m2 m3 m4 m5 m6 m7 m8 m9 m10 m11 m12 now kept aside ik found carried T S) (wM g m0 m1 m2 m3 m4 m5 m6 m7 m8 m9 m10 m11 m12 now kept aside ik found carried (T') S) [.ref m0, .int a1] none := by
  refine Ct.mk (by decide) rfl (Nat.le_of_ble_eq_true rfl) ?_
  intro p e s m args below meth c A ls hx hb hr hml hts hown hlocks hA hE hP hD hS hl hAe
  obtain ⟨Qx, hQ⟩ : ∃ Qx : State → Prop, Qx = MQ below (QcG g (wM g m0 m1 m2 m3 m4 m5 m6 m7 m8 m9 m10 m11 m12 now kept aside ik found carried T S) (wM g m0 m1 m2 m3 m4 m5 m6 m7 m8 m9 m10 m11 m12 now kept aside ik found carried (T') S) none s.heap.size) args s 0 0 A := ⟨_, rfl⟩
  rw [← hQ]
  have hown : s.vm.findClass RX7 = some m.cls := hown
  have hl : lv_has ls 5 [(0, .ref m0), (1, .int a1)] := hl
  have w1 := hts (.fieldLink RX7 277 "RainVaultModel" "cisternThen" "I") (List.mem_of_getElem? (i := 1) rfl)
  have J15 : ∀ (T : Mt) (x1 : Int32) (y0 : Int32) (H : Heap) (locs : List Loc) (ls : Array Slot), fX7_readCistern_J15 T x1 y0 = some T' → va_P g.1 vwK (wM g m0 m1 m2 m3 m4 m5 m6 m7 m8 m9 m10 m11 m12 now kept aside ik found carried T S) H → va_D A (wM g m0 m1 m2 m3 m4 m5 m6 m7 m8 m9 m10 m11 m12 now kept aside ik found carried T S) → va_S A s.heap H locs → lv_has ls 5 [(0, .ref m0), (1, .int x1)] → W p l e (rmm 8 268) s m args below meth c H locs 0 0 Qx (F0 m 15 ls [.int y0, .ref m0]) := by
    intro T x1 y0 H locs ls hf hP hD hS hl
    unfold fX7_readCistern_J15 at hf
    obtain ⟨T101, hg, hf⟩ := o1_s hf
    refine Ct.callV0 (ws' := wM g m0 m1 m2 m3 m4 m5 m6 m7 m8 m9 m10 m11 m12 now kept aside ik found carried T101 S) (As := [.int y0]) (rest := []) (st1 := []) (c_X7_must l g m0 m1 m2 m3 m4 m5 m6 m7 m8 m9 m10 m11 m12 now kept aside ik found carried T S y0 hg) (cwV 1 hts gX7_readCistern_X7_must rfl rfl rfl q_X7_must ⟨Nat.le_of_ble_eq_true rfl, Nat.le_of_ble_eq_true rfl⟩) ⟨hx, hb, hml, hown, hts⟩ hE hP hD hS hA 7 0 rfl rfl rfl rfl hl.1 rfl rfl (Nat.le_of_ble_eq_true rfl) dX7_readCistern_15 (fun H locs hP hD hS => ?_)
    refine lv_aload_n hx hb dX7_readCistern_18 rfl (lv_at hl 0 rfl) ?_
    refine lv_dup hx hb dX7_readCistern_19 rfl ?_
    refine va_get (D := g.1) (ci := 7) (v := .int T101.2.2.2.2.2.2.2.2.2.1) (C := RX7) (T := TX7) (N := 22) hx hb hts i_X7_readCistern_X7 hown hE.1 hP 0 rfl rfl 16 (by decide) w1 (fun _ h9 => h9) rfl dX7_readCistern_20 ?_
    refine lv_iconst (v := (1 : Int32)) hx hb dX7_readCistern_23 (by decide) ?_
    refine lv_iadd hx hb dX7_readCistern_24 ?_
    refine va_put (D := g.1) (ci := 7) (v := .int (T101.2.2.2.2.2.2.2.2.2.1 + (1 : Int32))) (ty := .int) (C := RX7) (T := TX7) (N := 22) hx hb hts i_X7_readCistern_X7 tyX7 tyX7_ok nmX7 hown hE.1 hP hD hS 0 rfl rfl 16 (by decide) w1 (fun _ h9 => h9) rfl (by decide +kernel) rfl rfl (Nat.le_of_ble_eq_true rfl) dX7_readCistern_25 (fun H locs hP hD hS => ?_)
    have hP : va_P g.1 vwK (wM g m0 m1 m2 m3 m4 m5 m6 m7 m8 m9 m10 m11 m12 now kept aside ik found carried (T101.1, T101.2.1, T101.2.2.1, T101.2.2.2.1, T101.2.2.2.2.1, T101.2.2.2.2.2.1, T101.2.2.2.2.2.2.1, T101.2.2.2.2.2.2.2.1, T101.2.2.2.2.2.2.2.2.1, (T101.2.2.2.2.2.2.2.2.2.1 + (1 : Int32)), T101.2.2.2.2.2.2.2.2.2.2) S) H := hP
    have hD : va_D A (wM g m0 m1 m2 m3 m4 m5 m6 m7 m8 m9 m10 m11 m12 now kept aside ik found carried (T101.1, T101.2.1, T101.2.2.1, T101.2.2.2.1, T101.2.2.2.2.1, T101.2.2.2.2.2.1, T101.2.2.2.2.2.2.1, T101.2.2.2.2.2.2.2.1, T101.2.2.2.2.2.2.2.2.1, (T101.2.2.2.2.2.2.2.2.2.1 + (1 : Int32)), T101.2.2.2.2.2.2.2.2.2.2) S) := hD
    refine lv_aload_n hx hb dX7_readCistern_28 rfl (lv_at hl 0 rfl) ?_
    refine lv_ldcSw hx hb hown (EV.tx19 hE) dX7_readCistern_29 ?_
    refine lv_iconst (v := (1 : Int32)) hx hb dX7_readCistern_32 (by decide) ?_
    refine lv_bipush (v := (40 : Int32)) hx hb dX7_readCistern_33 (by decide) ?_
    refine lv_bipush (v := (10 : Int32)) hx hb dX7_readCistern_35 (by decide) ?_
    obtain ⟨x102, T103, hg, hf⟩ := o2_s hf
    refine Ct.callV0 (ws' := wM g m0 m1 m2 m3 m4 m5 m6 m7 m8 m9 m10 m11 m12 now kept aside ik found carried T103 S) (As := [.ref (g.2.2 (10 + 7)), .int (1 : Int32), .int (40 : Int32), .int (10 : Int32)]) (rest := []) (st1 := [.int x102]) (c_X7_perhaps l g m0 m1 m2 m3 m4 m5 m6 m7 m8 m9 m10 m11 m12 now kept aside ik found carried (T101.1, T101.2.1, T101.2.2.1, T101.2.2.2.1, T101.2.2.2.2.1, T101.2.2.2.2.2.1, T101.2.2.2.2.2.2.1, T101.2.2.2.2.2.2.2.1, T101.2.2.2.2.2.2.2.2.1, (T101.2.2.2.2.2.2.2.2.2.1 + (1 : Int32)), T101.2.2.2.2.2.2.2.2.2.2) S 7 (1 : Int32) (40 : Int32) (10 : Int32) hg) (cwV 4 hts gX7_readCistern_X7_perhaps rfl rfl rfl q_X7_perhaps ⟨Nat.le_of_ble_eq_true rfl, Nat.le_of_ble_eq_true rfl⟩) ⟨hx, hb, hml, hown, hts⟩ hE hP hD hS hA 7 0 rfl rfl rfl rfl hl.1 rfl rfl (Nat.le_of_ble_eq_true rfl) dX7_readCistern_37 (fun H locs hP hD hS => ?_)
    refine lv_istore_n (lv' := [(2, .int x102), (0, .ref m0), (1, .int x1)]) hx hb dX7_readCistern_40 rfl hl (by decide) rfl (fun ls hl => ?_)
    refine lv_aload_n hx hb dX7_readCistern_41 rfl (lv_at hl 1 rfl) ?_
    refine lv_ldcSw hx hb hown (EV.tx21 hE) dX7_readCistern_42 ?_
    refine lv_iconst (v := (0 : Int32)) hx hb dX7_readCistern_45 (by decide) ?_
    refine lv_iload_n hx hb dX7_readCistern_46 rfl (lv_at hl 0 rfl) ?_
    refine lv_iconst (v := (0 : Int32)) hx hb dX7_readCistern_47 (by decide) ?_
    obtain ⟨x104, T105, hg, hf⟩ := o2_s hf
    refine Ct.callV0 (ws' := wM g m0 m1 m2 m3 m4 m5 m6 m7 m8 m9 m10 m11 m12 now kept aside ik found carried T105 S) (As := [.ref (g.2.2 (10 + 8)), .int (0 : Int32), .int x102, .int (0 : Int32)]) (rest := []) (st1 := [.int x104]) (c_X7_perhaps l g m0 m1 m2 m3 m4 m5 m6 m7 m8 m9 m10 m11 m12 now kept aside ik found carried T103 S 8 (0 : Int32) x102 (0 : Int32) hg) (cwV 4 hts gX7_readCistern_X7_perhaps rfl rfl rfl q_X7_perhaps ⟨Nat.le_of_ble_eq_true rfl, Nat.le_of_ble_eq_true rfl⟩) ⟨hx, hb, hml, hown, hts⟩ hE hP hD hS hA 7 0 rfl rfl rfl rfl hl.1 rfl rfl (Nat.le_of_ble_eq_true rfl) dX7_readCistern_48 (fun H locs hP hD hS => ?_)
    refine lv_istore_n (lv' := [(3, .int x104), (2, .int x102), (0, .ref m0), (1, .int x1)]) hx hb dX7_readCistern_51 rfl hl (by decide) rfl (fun ls hl => ?_)
    refine lv_aload_n hx hb dX7_readCistern_52 rfl (lv_at hl 2 rfl) ?_
    refine lv_ldcSw hx hb hown (EV.tx22 hE) dX7_readCistern_53 ?_
    refine lv_iconst (v := (0 : Int32)) hx hb dX7_readCistern_56 (by decide) ?_
    refine lv_bipush (v := (9 : Int32)) hx hb dX7_readCistern_57 (by decide) ?_
    refine lv_iconst (v := (1 : Int32)) hx hb dX7_readCistern_59 (by decide) ?_
    obtain ⟨x106, T107, hg, hf⟩ := o2_s hf
    refine Ct.callV0 (ws' := wM g m0 m1 m2 m3 m4 m5 m6 m7 m8 m9 m10 m11 m12 now kept aside ik found carried T107 S) (As := [.ref (g.2.2 (10 + 9)), .int (0 : Int32), .int (9 : Int32), .int (1 : Int32)]) (rest := []) (st1 := [.int x106]) (c_X7_perhaps l g m0 m1 m2 m3 m4 m5 m6 m7 m8 m9 m10 m11 m12 now kept aside ik found carried T105 S 9 (0 : Int32) (9 : Int32) (1 : Int32) hg) (cwV 4 hts gX7_readCistern_X7_perhaps rfl rfl rfl q_X7_perhaps ⟨Nat.le_of_ble_eq_true rfl, Nat.le_of_ble_eq_true rfl⟩) ⟨hx, hb, hml, hown, hts⟩ hE hP hD hS hA 7 0 rfl rfl rfl rfl hl.1 rfl rfl (Nat.le_of_ble_eq_true rfl) dX7_readCistern_60 (fun H locs hP hD hS => ?_)
    refine lv_istore (lv' := [(4, .int x106), (3, .int x104), (2, .int x102), (0, .ref m0), (1, .int x1)]) hx hb dX7_readCistern_63 hl (by decide) rfl (fun ls hl => ?_)
    refine lv_aload_n hx hb dX7_readCistern_65 rfl (lv_at hl 3 rfl) ?_
    refine lv_iload_n hx hb dX7_readCistern_66 rfl (lv_at hl 4 rfl) ?_
    refine lv_iload_n hx hb dX7_readCistern_67 rfl (lv_at hl 2 rfl) ?_
    refine lv_iload_n hx hb dX7_readCistern_68 rfl (lv_at hl 1 rfl) ?_
    refine lv_iload hx hb dX7_readCistern_69 (lv_at hl 0 rfl) ?_
    refine lv_aload_n hx hb dX7_readCistern_71 rfl (lv_at hl 3 rfl) ?_
    refine lv_ldcSw hx hb hown (EV.tx23 hE) dX7_readCistern_72 ?_
    refine lv_iconst (v := (0 : Int32)) hx hb dX7_readCistern_75 (by decide) ?_
    refine lv_bipush (v := (7 : Int32)) hx hb dX7_readCistern_76 (by decide) ?_
    refine lv_iconst (v := (-1 : Int32)) hx hb dX7_readCistern_78 (by decide) ?_
    obtain ⟨x108, T109, hg, hf⟩ := o2_s hf
    refine Ct.callV0 (ws' := wM g m0 m1 m2 m3 m4 m5 m6 m7 m8 m9 m10 m11 m12 now kept aside ik found carried T109 S) (As := [.ref (g.2.2 (10 + 10)), .int (0 : Int32), .int (7 : Int32), .int (-1 : Int32)]) (rest := [.int x106, .int x104, .int x102, .int x1, .ref m0]) (st1 := [.int x108, .int x106, .int x104, .int x102, .int x1, .ref m0]) (c_X7_perhaps l g m0 m1 m2 m3 m4 m5 m6 m7 m8 m9 m10 m11 m12 now kept aside ik found carried T107 S 10 (0 : Int32) (7 : Int32) (-1 : Int32) hg) (cwV 4 hts gX7_readCistern_X7_perhaps rfl rfl rfl q_X7_perhaps ⟨Nat.le_of_ble_eq_true rfl, Nat.le_of_ble_eq_true rfl⟩) ⟨hx, hb, hml, hown, hts⟩ hE hP hD hS hA 7 0 rfl rfl rfl rfl hl.1 rfl rfl (Nat.le_of_ble_eq_true rfl) dX7_readCistern_79 (fun H locs hP hD hS => ?_)
    refine lv_iconst (v := (0 : Int32)) hx hb dX7_readCistern_82 (by decide) ?_
    obtain ⟨T110, hg, hf⟩ := o1_s hf
    refine Ct.callV0 (ws' := wM g m0 m1 m2 m3 m4 m5 m6 m7 m8 m9 m10 m11 m12 now kept aside ik found carried T110 S) (As := [.int x1, .int x102, .int x104, .int x106, .int x108, .int (0 : Int32)]) (rest := []) (st1 := []) (c_X7_item l g m0 m1 m2 m3 m4 m5 m6 m7 m8 m9 m10 m11 m12 now kept aside ik found carried T109 S x1 x102 x104 x106 x108 (0 : Int32) hg) (cwV 6 hts gX7_readCistern_X7_item rfl rfl rfl q_X7_item ⟨Nat.le_of_ble_eq_true rfl, Nat.le_of_ble_eq_true rfl⟩) ⟨hx, hb, hml, hown, hts⟩ hE hP hD hS hA 7 0 rfl rfl rfl rfl hl.1 rfl rfl (Nat.le_of_ble_eq_true rfl) dX7_readCistern_83 (fun H locs hP hD hS => ?_)
    obtain rfl := Option.some.inj hf
    rw [hQ]; exact Ct.vret hx hb hr hlocks hAe hP hD hS dX7_readCistern_86
  unfold fX7_readCistern at hf
  refine lv_aload_n hx hb dX7_readCistern_0 rfl (lv_at hl 0 rfl) ?_
  refine lv_aload_n hx hb dX7_readCistern_1 rfl (lv_at hl 0 rfl) ?_
  refine va_get (D := g.1) (ci := 7) (v := .int T.2.2.2.2.2.2.2.2.2.1) (C := RX7) (T := TX7) (N := 22) hx hb hts i_X7_readCistern_X7 hown hE.1 hP 0 rfl rfl 16 (by decide) w1 (fun _ h9 => h9) rfl dX7_readCistern_2 ?_
  refine lv_bipush (v := (8 : Int32)) hx hb dX7_readCistern_5 (by decide) ?_
  refine lv_icmp_ge (tgt := 14) hx hb dX7_readCistern_7 (by decide) (fun hc => ?_) (fun hc => ?_)
  · have hf := if_t hf hc
    refine lv_iconst (v := (0 : Int32)) hx hb dX7_readCistern_14 (by decide) ?_
    exact J15 _ _ _ _ _ _  hf hP hD hS (lv_sub hl [0, 1] rfl)
  · have hf := if_f hf hc
    refine lv_iconst (v := (1 : Int32)) hx hb dX7_readCistern_10 (by decide) ?_
    refine lv_goto (tgt := 15) hx hb dX7_readCistern_11 (by decide) ?_
    exact J15 _ _ _ _ _ _  hf hP hD hS (lv_sub hl [0, 1] rfl)
def fX7_readItem_J182 (T : Mt) (y0 : Int32) : Option (Mt) := o1 (fX7_isWord T 13) (fun x105 => if x105 = 0 then (o1 (fX7_isWord T 14) (fun x108 => if x108 = 0 then (o1 (fX7_must T (0 : Int32)) (fun T109 => o1 (fX7_item T109 (12 : Int32) y0 (0 : Int32) (0 : Int32) (0 : Int32) (0 : Int32)) (fun T110 => some T110))) else (o1 (fX7_must T (1 : Int32)) (fun T111 => o1 (fX7_item T111 (12 : Int32) y0 (0 : Int32) (0 : Int32) (0 : Int32) (0 : Int32)) (fun T112 => some T112))))) else (o1 (fX7_must T (1 : Int32)) (fun T106 => o1 (fX7_item T106 (12 : Int32) y0 (0 : Int32) (0 : Int32) (0 : Int32) (0 : Int32)) (fun T107 => some T107))))
def fX7_readItem_J117 (T : Mt) (y0 : Int32) : Option (Mt) := o1 (fX7_must T y0) (fun T113 => o2 (fX7_number (T113.1, T113.2.1, T113.2.2.1, T113.2.2.2.1, T113.2.2.2.2.1, T113.2.2.2.2.2.1, T113.2.2.2.2.2.2.1, T113.2.2.2.2.2.2.2.1, T113.2.2.2.2.2.2.2.2.1, T113.2.2.2.2.2.2.2.2.2.1, (T113.2.2.2.2.2.2.2.2.2.2 + (1 : Int32))) (0 : Int32) (4 : Int32)) (fun x114 T115 => o2 (fX7_number T115 (0 : Int32) (7 : Int32)) (fun x116 T117 => o1 (fX7_mostOfB x114) (fun x118 => o2 (fX7_number T117 (0 : Int32) x118) (fun x119 T120 => o1 (fX7_item T120 (11 : Int32) x114 x116 x119 (0 : Int32) (0 : Int32)) (fun T121 => some T121))))))
def fX7_readItem (T : Mt) : Option (Mt) := o1 (fX7_kindTold T) (fun x101 => if x101 < 0 then (o1 (fX7_isWord T 11) (fun x102 => if x102 = 0 then (o1 (fX7_isWord T 12) (fun x103 => if x103 = 0 then (o1 (fX7_isWord T 13) (fun x104 => if x104 = 0 then (fX7_readItem_J182 T (0 : Int32)) else (fX7_readItem_J182 T (1 : Int32)))) else (if (8 : Int32) ≤ T.2.2.2.2.2.2.2.2.2.2 then (fX7_readItem_J117 T (0 : Int32)) else (fX7_readItem_J117 T (1 : Int32))))) else (o1 (fX7_must T (1 : Int32)) (fun T122 => o2 (fX7_number T122 (0 : Int32) (T122.2.2.2.2.2.2.2.2.2.1 - (1 : Int32))) (fun x123 T124 => o2 (fX7_number T124 (0 : Int32) (9 : Int32)) (fun x125 T126 => o2 (fX7_number T126 (0 : Int32) (9 : Int32)) (fun x127 T128 => o2 (fX7_number T128 (0 : Int32) (9 : Int32)) (fun x129 T130 => o2 (fX7_number T130 (0 : Int32) (9 : Int32)) (fun x131 T132 => o1 (fX7_item T132 (10 : Int32) x123 x125 x127 x129 x131) (fun T133 => some T133)))))))))) else (o1 (fX7_readCistern T x101) (fun T134 => some T134)))
theorem q_X7_readItem : yX7_readItem.cls = RX7 ∧ yX7_readItem.cls ≠ "java/lang/invoke/MethodHandle" ∧ yX7_readItem.cls ≠ "java/lang/invoke/VarHandle" ∧ (parseMethodDescriptor yX7_readItem.desc).map (fun d => d.parameters.length) = some 0 := by decide +kernel
theorem i_X7_readItem_X7 : ∀ w ∈ u_ws RX7 TX7 22, w ∈ wsX7_readItem := fun _ h => List.mem_cons_of_mem _ (List.mem_append_right _ (h))
set_option maxHeartbeats 4000000 in
set_option maxRecDepth 100000 in
theorem c_X7_readItem (l : Launch) (g : gG) (m0 m1 m2 m3 m4 m5 m6 m7 m8 m9 m10 m11 m12 : Nat) (now : Nat → Int32) (kept : Nat → Int32) (aside : Nat → Int32) (ik : Int32) (found : Nat → Int32) (carried : Nat → Int32) (T : Mt) (S : Ms) {T' : Mt} (hf : fX7_readItem T = some T') : Ct l yX7_readItem wsX7_readItem (rmm 9 292) g (wM g m0 m1 m2 m3 m4 m5 m6 m7 m8 m9 m10 m11 m12 now kept aside ik found carried T S) (wM g m0 m1 m2 m3 m4 m5 m6 m7 m8 m9 m10 m11 m12 now kept aside ik found carried (T') S) [.ref m0] none := by
  refine Ct.mk (by decide) rfl (Nat.le_of_ble_eq_true rfl) ?_
  intro p e s m args below meth c A ls hx hb hr hml hts hown hlocks hA hE hP hD hS hl hAe
  obtain ⟨Qx, hQ⟩ : ∃ Qx : State → Prop, Qx = MQ below (QcG g (wM g m0 m1 m2 m3 m4 m5 m6 m7 m8 m9 m10 m11 m12 now kept aside ik found carried T S) (wM g m0 m1 m2 m3 m4 m5 m6 m7 m8 m9 m10 m11 m12 now kept aside ik found carried (T') S) none s.heap.size) args s 0 0 A := ⟨_, rfl⟩
  rw [← hQ]
  have hown : s.vm.findClass RX7 = some m.cls := hown
  have hl : lv_has ls 6 [(0, .ref m0)] := hl
  have w1 := hts (.fieldLink RX7 289 "RainVaultModel" "lockThen" "I") (List.mem_of_getElem? (i := 2) rfl)
  have w2 := hts (.fieldLink RX7 277 "RainVaultModel" "cisternThen" "I") (List.mem_of_getElem? (i := 1) rfl)
  have J182 : ∀ (T : Mt) (y0 : Int32) (H : Heap) (locs : List Loc) (ls : Array Slot), fX7_readItem_J182 T y0 = some T' → va_P g.1 vwK (wM g m0 m1 m2 m3 m4 m5 m6 m7 m8 m9 m10 m11 m12 now kept aside ik found carried T S) H → va_D A (wM g m0 m1 m2 m3 m4 m5 m6 m7 m8 m9 m10 m11 m12 now kept aside ik found carried T S) → va_S A s.heap H locs → lv_has ls 6 [(0, .ref m0)] → W p l e (rmm 9 292) s m args below meth c H locs 0 0 Qx (F0 m 182 ls [.int y0]) := by
    intro T y0 H locs ls hf hP hD hS hl
    unfold fX7_readItem_J182 at hf
    refine lv_istore_n (lv' := [(2, .int y0), (0, .ref m0)]) hx hb dX7_readItem_182 rfl hl (by decide) rfl (fun ls hl => ?_)
    refine lv_aload_n hx hb dX7_readItem_183 rfl (lv_at hl 1 rfl) ?_
    refine lv_aload_n hx hb dX7_readItem_184 rfl (lv_at hl 1 rfl) ?_
    refine lv_ldcSw hx hb hown (EV.tx17 hE) dX7_readItem_185 ?_
    obtain ⟨x105, hg, hf⟩ := o1_s hf
    refine Ct.callV0 (ws' := wM g m0 m1 m2 m3 m4 m5 m6 m7 m8 m9 m10 m11 m12 now kept aside ik found carried T S) (As := [.ref (g.2.2 (10 + 13))]) (rest := [.ref m0]) (st1 := [.int x105, .ref m0]) (c_X7_isWord l g m0 m1 m2 m3 m4 m5 m6 m7 m8 m9 m10 m11 m12 now kept aside ik found carried T S 13 hg) (cwV 1 hts gX7_readItem_X7_isWord rfl rfl rfl q_X7_isWord ⟨Nat.le_of_ble_eq_true rfl, Nat.le_of_ble_eq_true rfl⟩) ⟨hx, hb, hml, hown, hts⟩ hE hP hD hS hA 7 0 rfl rfl rfl rfl hl.1 rfl rfl (Nat.le_of_ble_eq_true rfl) dX7_readItem_188 (fun H locs hP hD hS => ?_)
    refine lv_if_ne (tgt := 204) hx hb dX7_readItem_191 (by decide) (fun hc => ?_) (fun hc => ?_)
    · have hf := if_f hf hc
      refine lv_iconst (v := (1 : Int32)) hx hb dX7_readItem_204 (by decide) ?_
      refine lv_goto (tgt := 209) hx hb dX7_readItem_205 (by decide) ?_
      obtain ⟨T106, hg, hf⟩ := o1_s hf
      refine Ct.callV0 (ws' := wM g m0 m1 m2 m3 m4 m5 m6 m7 m8 m9 m10 m11 m12 now kept aside ik found carried T106 S) (As := [.int (1 : Int32)]) (rest := []) (st1 := []) (c_X7_must l g m0 m1 m2 m3 m4 m5 m6 m7 m8 m9 m10 m11 m12 now kept aside ik found carried T S (1 : Int32) hg) (cwV 1 hts gX7_readItem_X7_must rfl rfl rfl q_X7_must ⟨Nat.le_of_ble_eq_true rfl, Nat.le_of_ble_eq_true rfl⟩) ⟨hx, hb, hml, hown, hts⟩ hE hP hD hS hA 7 0 rfl rfl rfl rfl hl.1 rfl rfl (Nat.le_of_ble_eq_true rfl) dX7_readItem_209 (fun H locs hP hD hS => ?_)
      refine lv_aload_n hx hb dX7_readItem_212 rfl (lv_at hl 1 rfl) ?_
      refine lv_bipush (v := (12 : Int32)) hx hb dX7_readItem_213 (by decide) ?_
      refine lv_iload_n hx hb dX7_readItem_215 rfl (lv_at hl 0 rfl) ?_
      refine lv_iconst (v := (0 : Int32)) hx hb dX7_readItem_216 (by decide) ?_
      refine lv_iconst (v := (0 : Int32)) hx hb dX7_readItem_217 (by decide) ?_
      refine lv_iconst (v := (0 : Int32)) hx hb dX7_readItem_218 (by decide) ?_
      refine lv_iconst (v := (0 : Int32)) hx hb dX7_readItem_219 (by decide) ?_
      obtain ⟨T107, hg, hf⟩ := o1_s hf
      refine Ct.callV0 (ws' := wM g m0 m1 m2 m3 m4 m5 m6 m7 m8 m9 m10 m11 m12 now kept aside ik found carried T107 S) (As := [.int (12 : Int32), .int y0, .int (0 : Int32), .int (0 : Int32), .int (0 : Int32), .int (0 : Int32)]) (rest := []) (st1 := []) (c_X7_item l g m0 m1 m2 m3 m4 m5 m6 m7 m8 m9 m10 m11 m12 now kept aside ik found carried T106 S (12 : Int32) y0 (0 : Int32) (0 : Int32) (0 : Int32) (0 : Int32) hg) (cwV 6 hts gX7_readItem_X7_item rfl rfl rfl q_X7_item ⟨Nat.le_of_ble_eq_true rfl, Nat.le_of_ble_eq_true rfl⟩) ⟨hx, hb, hml, hown, hts⟩ hE hP hD hS hA 7 0 rfl rfl rfl rfl hl.1 rfl rfl (Nat.le_of_ble_eq_true rfl) dX7_readItem_220 (fun H locs hP hD hS => ?_)
      obtain rfl := Option.some.inj hf
      rw [hQ]; exact Ct.vret hx hb hr hlocks hAe hP hD hS dX7_readItem_223
    · have hf := if_t hf hc
      refine lv_aload_n hx hb dX7_readItem_194 rfl (lv_at hl 1 rfl) ?_
      refine lv_ldcSw hx hb hown (EV.tx18 hE) dX7_readItem_195 ?_
      obtain ⟨x108, hg, hf⟩ := o1_s hf
      refine Ct.callV0 (ws' := wM g m0 m1 m2 m3 m4 m5 m6 m7 m8 m9 m10 m11 m12 now kept aside ik found carried T S) (As := [.ref (g.2.2 (10 + 14))]) (rest := [.ref m0]) (st1 := [.int x108, .ref m0]) (c_X7_isWord l g m0 m1 m2 m3 m4 m5 m6 m7 m8 m9 m10 m11 m12 now kept aside ik found carried T S 14 hg) (cwV 1 hts gX7_readItem_X7_isWord rfl rfl rfl q_X7_isWord ⟨Nat.le_of_ble_eq_true rfl, Nat.le_of_ble_eq_true rfl⟩) ⟨hx, hb, hml, hown, hts⟩ hE hP hD hS hA 7 0 rfl rfl rfl rfl hl.1 rfl rfl (Nat.le_of_ble_eq_true rfl) dX7_readItem_198 (fun H locs hP hD hS => ?_)
      refine lv_if_eq (tgt := 208) hx hb dX7_readItem_201 (by decide) (fun hc => ?_) (fun hc => ?_)
      · have hf := if_t hf hc
        refine lv_iconst (v := (0 : Int32)) hx hb dX7_readItem_208 (by decide) ?_
        obtain ⟨T109, hg, hf⟩ := o1_s hf
        refine Ct.callV0 (ws' := wM g m0 m1 m2 m3 m4 m5 m6 m7 m8 m9 m10 m11 m12 now kept aside ik found carried T109 S) (As := [.int (0 : Int32)]) (rest := []) (st1 := []) (c_X7_must l g m0 m1 m2 m3 m4 m5 m6 m7 m8 m9 m10 m11 m12 now kept aside ik found carried T S (0 : Int32) hg) (cwV 1 hts gX7_readItem_X7_must rfl rfl rfl q_X7_must ⟨Nat.le_of_ble_eq_true rfl, Nat.le_of_ble_eq_true rfl⟩) ⟨hx, hb, hml, hown, hts⟩ hE hP hD hS hA 7 0 rfl rfl rfl rfl hl.1 rfl rfl (Nat.le_of_ble_eq_true rfl) dX7_readItem_209 (fun H locs hP hD hS => ?_)
        refine lv_aload_n hx hb dX7_readItem_212 rfl (lv_at hl 1 rfl) ?_
        refine lv_bipush (v := (12 : Int32)) hx hb dX7_readItem_213 (by decide) ?_
        refine lv_iload_n hx hb dX7_readItem_215 rfl (lv_at hl 0 rfl) ?_
        refine lv_iconst (v := (0 : Int32)) hx hb dX7_readItem_216 (by decide) ?_
        refine lv_iconst (v := (0 : Int32)) hx hb dX7_readItem_217 (by decide) ?_
        refine lv_iconst (v := (0 : Int32)) hx hb dX7_readItem_218 (by decide) ?_
        refine lv_iconst (v := (0 : Int32)) hx hb dX7_readItem_219 (by decide) ?_
        obtain ⟨T110, hg, hf⟩ := o1_s hf
        refine Ct.callV0 (ws' := wM g m0 m1 m2 m3 m4 m5 m6 m7 m8 m9 m10 m11 m12 now kept aside ik found carried T110 S) (As := [.int (12 : Int32), .int y0, .int (0 : Int32), .int (0 : Int32), .int (0 : Int32), .int (0 : Int32)]) (rest := []) (st1 := []) (c_X7_item l g m0 m1 m2 m3 m4 m5 m6 m7 m8 m9 m10 m11 m12 now kept aside ik found carried T109 S (12 : Int32) y0 (0 : Int32) (0 : Int32) (0 : Int32) (0 : Int32) hg) (cwV 6 hts gX7_readItem_X7_item rfl rfl rfl q_X7_item ⟨Nat.le_of_ble_eq_true rfl, Nat.le_of_ble_eq_true rfl⟩) ⟨hx, hb, hml, hown, hts⟩ hE hP hD hS hA 7 0 rfl rfl rfl rfl hl.1 rfl rfl (Nat.le_of_ble_eq_true rfl) dX7_readItem_220 (fun H locs hP hD hS => ?_)
        obtain rfl := Option.some.inj hf
        rw [hQ]; exact Ct.vret hx hb hr hlocks hAe hP hD hS dX7_readItem_223
      · have hf := if_f hf hc
        refine lv_iconst (v := (1 : Int32)) hx hb dX7_readItem_204 (by decide) ?_
        refine lv_goto (tgt := 209) hx hb dX7_readItem_205 (by decide) ?_
        obtain ⟨T111, hg, hf⟩ := o1_s hf
        refine Ct.callV0 (ws' := wM g m0 m1 m2 m3 m4 m5 m6 m7 m8 m9 m10 m11 m12 now kept aside ik found carried T111 S) (As := [.int (1 : Int32)]) (rest := []) (st1 := []) (c_X7_must l g m0 m1 m2 m3 m4 m5 m6 m7 m8 m9 m10 m11 m12 now kept aside ik found carried T S (1 : Int32) hg) (cwV 1 hts gX7_readItem_X7_must rfl rfl rfl q_X7_must ⟨Nat.le_of_ble_eq_true rfl, Nat.le_of_ble_eq_true rfl⟩) ⟨hx, hb, hml, hown, hts⟩ hE hP hD hS hA 7 0 rfl rfl rfl rfl hl.1 rfl rfl (Nat.le_of_ble_eq_true rfl) dX7_readItem_209 (fun H locs hP hD hS => ?_)
        refine lv_aload_n hx hb dX7_readItem_212 rfl (lv_at hl 1 rfl) ?_
        refine lv_bipush (v := (12 : Int32)) hx hb dX7_readItem_213 (by decide) ?_
        refine lv_iload_n hx hb dX7_readItem_215 rfl (lv_at hl 0 rfl) ?_
        refine lv_iconst (v := (0 : Int32)) hx hb dX7_readItem_216 (by decide) ?_
        refine lv_iconst (v := (0 : Int32)) hx hb dX7_readItem_217 (by decide) ?_
        refine lv_iconst (v := (0 : Int32)) hx hb dX7_readItem_218 (by decide) ?_
        refine lv_iconst (v := (0 : Int32)) hx hb dX7_readItem_219 (by decide) ?_
        obtain ⟨T112, hg, hf⟩ := o1_s hf
        refine Ct.callV0 (ws' := wM g m0 m1 m2 m3 m4 m5 m6 m7 m8 m9 m10 m11 m12 now kept aside ik found carried T112 S) (As := [.int (12 : Int32), .int y0, .int (0 : Int32), .int (0 : Int32), .int (0 : Int32), .int (0 : Int32)]) (rest := []) (st1 := []) (c_X7_item l g m0 m1 m2 m3 m4 m5 m6 m7 m8 m9 m10 m11 m12 now kept aside ik found carried T111 S (12 : Int32) y0 (0 : Int32) (0 : Int32) (0 : Int32) (0 : Int32) hg) (cwV 6 hts gX7_readItem_X7_item rfl rfl rfl q_X7_item ⟨Nat.le_of_ble_eq_true rfl, Nat.le_of_ble_eq_true rfl⟩) ⟨hx, hb, hml, hown, hts⟩ hE hP hD hS hA 7 0 rfl rfl rfl rfl hl.1 rfl rfl (Nat.le_of_ble_eq_true rfl) dX7_readItem_220 (fun H locs hP hD hS => ?_)
        obtain rfl := Option.some.inj hf
        rw [hQ]; exact Ct.vret hx hb hr hlocks hAe hP hD hS dX7_readItem_223
  have J117 : ∀ (T : Mt) (y0 : Int32) (H : Heap) (locs : List Loc) (ls : Array Slot), fX7_readItem_J117 T y0 = some T' → va_P g.1 vwK (wM g m0 m1 m2 m3 m4 m5 m6 m7 m8 m9 m10 m11 m12 now kept aside ik found carried T S) H → va_D A (wM g m0 m1 m2 m3 m4 m5 m6 m7 m8 m9 m10 m11 m12 now kept aside ik found carried T S) → va_S A s.heap H locs → lv_has ls 6 [(0, .ref m0)] → W p l e (rmm 9 292) s m args below meth c H locs 0 0 Qx (F0 m 117 ls [.int y0, .ref m0]) := by
    intro T y0 H locs ls hf hP hD hS hl
    unfold fX7_readItem_J117 at hf
    obtain ⟨T113, hg, hf⟩ := o1_s hf
    refine Ct.callV0 (ws' := wM g m0 m1 m2 m3 m4 m5 m6 m7 m8 m9 m10 m11 m12 now kept aside ik found carried T113 S) (As := [.int y0]) (rest := []) (st1 := []) (c_X7_must l g m0 m1 m2 m3 m4 m5 m6 m7 m8 m9 m10 m11 m12 now kept aside ik found carried T S y0 hg) (cwV 1 hts gX7_readItem_X7_must rfl rfl rfl q_X7_must ⟨Nat.le_of_ble_eq_true rfl, Nat.le_of_ble_eq_true rfl⟩) ⟨hx, hb, hml, hown, hts⟩ hE hP hD hS hA 7 0 rfl rfl rfl rfl hl.1 rfl rfl (Nat.le_of_ble_eq_true rfl) dX7_readItem_117 (fun H locs hP hD hS => ?_)
    refine lv_aload_n hx hb dX7_readItem_120 rfl (lv_at hl 0 rfl) ?_
    refine lv_dup hx hb dX7_readItem_121 rfl ?_
    refine va_get (D := g.1) (ci := 7) (v := .int T113.2.2.2.2.2.2.2.2.2.2) (C := RX7) (T := TX7) (N := 22) hx hb hts i_X7_readItem_X7 hown hE.1 hP 0 rfl rfl 17 (by decide) w1 (fun _ h9 => h9) rfl dX7_readItem_122 ?_
    refine lv_iconst (v := (1 : Int32)) hx hb dX7_readItem_125 (by decide) ?_
    refine lv_iadd hx hb dX7_readItem_126 ?_
    refine va_put (D := g.1) (ci := 7) (v := .int (T113.2.2.2.2.2.2.2.2.2.2 + (1 : Int32))) (ty := .int) (C := RX7) (T := TX7) (N := 22) hx hb hts i_X7_readItem_X7 tyX7 tyX7_ok nmX7 hown hE.1 hP hD hS 0 rfl rfl 17 (by decide) w1 (fun _ h9 => h9) rfl (by decide +kernel) rfl rfl (Nat.le_of_ble_eq_true rfl) dX7_readItem_127 (fun H locs hP hD hS => ?_)
    have hP : va_P g.1 vwK (wM g m0 m1 m2 m3 m4 m5 m6 m7 m8 m9 m10 m11 m12 now kept aside ik found carried (T113.1, T113.2.1, T113.2.2.1, T113.2.2.2.1, T113.2.2.2.2.1, T113.2.2.2.2.2.1, T113.2.2.2.2.2.2.1, T113.2.2.2.2.2.2.2.1, T113.2.2.2.2.2.2.2.2.1, T113.2.2.2.2.2.2.2.2.2.1, (T113.2.2.2.2.2.2.2.2.2.2 + (1 : Int32))) S) H := hP
    have hD : va_D A (wM g m0 m1 m2 m3 m4 m5 m6 m7 m8 m9 m10 m11 m12 now kept aside ik found carried (T113.1, T113.2.1, T113.2.2.1, T113.2.2.2.1, T113.2.2.2.2.1, T113.2.2.2.2.2.1, T113.2.2.2.2.2.2.1, T113.2.2.2.2.2.2.2.1, T113.2.2.2.2.2.2.2.2.1, T113.2.2.2.2.2.2.2.2.2.1, (T113.2.2.2.2.2.2.2.2.2.2 + (1 : Int32))) S) := hD
    refine lv_aload_n hx hb dX7_readItem_130 rfl (lv_at hl 0 rfl) ?_
    refine lv_iconst (v := (0 : Int32)) hx hb dX7_readItem_131 (by decide) ?_
    refine lv_iconst (v := (4 : Int32)) hx hb dX7_readItem_132 (by decide) ?_
    obtain ⟨x114, T115, hg, hf⟩ := o2_s hf
    refine Ct.callV0 (ws' := wM g m0 m1 m2 m3 m4 m5 m6 m7 m8 m9 m10 m11 m12 now kept aside ik found carried T115 S) (As := [.int (0 : Int32), .int (4 : Int32)]) (rest := []) (st1 := [.int x114]) (c_X7_number l g m0 m1 m2 m3 m4 m5 m6 m7 m8 m9 m10 m11 m12 now kept aside ik found carried (T113.1, T113.2.1, T113.2.2.1, T113.2.2.2.1, T113.2.2.2.2.1, T113.2.2.2.2.2.1, T113.2.2.2.2.2.2.1, T113.2.2.2.2.2.2.2.1, T113.2.2.2.2.2.2.2.2.1, T113.2.2.2.2.2.2.2.2.2.1, (T113.2.2.2.2.2.2.2.2.2.2 + (1 : Int32))) S (0 : Int32) (4 : Int32) hg) (cwV 2 hts gX7_readItem_X7_number rfl rfl rfl q_X7_number ⟨Nat.le_of_ble_eq_true rfl, Nat.le_of_ble_eq_true rfl⟩) ⟨hx, hb, hml, hown, hts⟩ hE hP hD hS hA 7 0 rfl rfl rfl rfl hl.1 rfl rfl (Nat.le_of_ble_eq_true rfl) dX7_readItem_133 (fun H locs hP hD hS => ?_)
    refine lv_istore_n (lv' := [(2, .int x114), (0, .ref m0)]) hx hb dX7_readItem_136 rfl hl (by decide) rfl (fun ls hl => ?_)
    refine lv_aload_n hx hb dX7_readItem_137 rfl (lv_at hl 1 rfl) ?_
    refine lv_iconst (v := (0 : Int32)) hx hb dX7_readItem_138 (by decide) ?_
    refine lv_bipush (v := (7 : Int32)) hx hb dX7_readItem_139 (by decide) ?_
    obtain ⟨x116, T117, hg, hf⟩ := o2_s hf
    refine Ct.callV0 (ws' := wM g m0 m1 m2 m3 m4 m5 m6 m7 m8 m9 m10 m11 m12 now kept aside ik found carried T117 S) (As := [.int (0 : Int32), .int (7 : Int32)]) (rest := []) (st1 := [.int x116]) (c_X7_number l g m0 m1 m2 m3 m4 m5 m6 m7 m8 m9 m10 m11 m12 now kept aside ik found carried T115 S (0 : Int32) (7 : Int32) hg) (cwV 2 hts gX7_readItem_X7_number rfl rfl rfl q_X7_number ⟨Nat.le_of_ble_eq_true rfl, Nat.le_of_ble_eq_true rfl⟩) ⟨hx, hb, hml, hown, hts⟩ hE hP hD hS hA 7 0 rfl rfl rfl rfl hl.1 rfl rfl (Nat.le_of_ble_eq_true rfl) dX7_readItem_141 (fun H locs hP hD hS => ?_)
    refine lv_istore_n (lv' := [(3, .int x116), (2, .int x114), (0, .ref m0)]) hx hb dX7_readItem_144 rfl hl (by decide) rfl (fun ls hl => ?_)
    refine lv_aload_n hx hb dX7_readItem_145 rfl (lv_at hl 2 rfl) ?_
    refine lv_bipush (v := (11 : Int32)) hx hb dX7_readItem_146 (by decide) ?_
    refine lv_iload_n hx hb dX7_readItem_148 rfl (lv_at hl 1 rfl) ?_
    refine lv_iload_n hx hb dX7_readItem_149 rfl (lv_at hl 0 rfl) ?_
    refine lv_aload_n hx hb dX7_readItem_150 rfl (lv_at hl 2 rfl) ?_
    refine lv_iconst (v := (0 : Int32)) hx hb dX7_readItem_151 (by decide) ?_
    refine lv_iload_n hx hb dX7_readItem_152 rfl (lv_at hl 1 rfl) ?_
    obtain ⟨x118, hg, hf⟩ := o1_s hf
    refine Ct.callS (ws' := wM g m0 m1 m2 m3 m4 m5 m6 m7 m8 m9 m10 m11 m12 now kept aside ik found carried T117 S) (As := [.int x114]) (rest := [.int (0 : Int32), .ref m0, .int x116, .int x114, .int (11 : Int32), .ref m0]) (st1 := [.int x118, .int (0 : Int32), .ref m0, .int x116, .int x114, .int (11 : Int32), .ref m0]) (c_X7_mostOfB l g x114 hg) (va_cwS 1 hts gX7_readItem_X7_mostOfB rfl rfl rfl q_X7_mostOfB.2 ⟨Nat.le_of_ble_eq_true rfl, Nat.le_of_ble_eq_true rfl⟩) ⟨hx, hb, hml, hown, hts⟩ hE hP hD hS hA [] rfl rfl rfl rfl rfl hl.1 rfl rfl (Nat.le_of_ble_eq_true rfl) dX7_readItem_153 (fun H locs hP hD hS => ?_)
    obtain ⟨x119, T120, hg, hf⟩ := o2_s hf
    refine Ct.callV0 (ws' := wM g m0 m1 m2 m3 m4 m5 m6 m7 m8 m9 m10 m11 m12 now kept aside ik found carried T120 S) (As := [.int (0 : Int32), .int x118]) (rest := [.int x116, .int x114, .int (11 : Int32), .ref m0]) (st1 := [.int x119, .int x116, .int x114, .int (11 : Int32), .ref m0]) (c_X7_number l g m0 m1 m2 m3 m4 m5 m6 m7 m8 m9 m10 m11 m12 now kept aside ik found carried T117 S (0 : Int32) x118 hg) (cwV 2 hts gX7_readItem_X7_number rfl rfl rfl q_X7_number ⟨Nat.le_of_ble_eq_true rfl, Nat.le_of_ble_eq_true rfl⟩) ⟨hx, hb, hml, hown, hts⟩ hE hP hD hS hA 7 0 rfl rfl rfl rfl hl.1 rfl rfl (Nat.le_of_ble_eq_true rfl) dX7_readItem_156 (fun H locs hP hD hS => ?_)
    refine lv_iconst (v := (0 : Int32)) hx hb dX7_readItem_159 (by decide) ?_
    refine lv_iconst (v := (0 : Int32)) hx hb dX7_readItem_160 (by decide) ?_
    obtain ⟨T121, hg, hf⟩ := o1_s hf
    refine Ct.callV0 (ws' := wM g m0 m1 m2 m3 m4 m5 m6 m7 m8 m9 m10 m11 m12 now kept aside ik found carried T121 S) (As := [.int (11 : Int32), .int x114, .int x116, .int x119, .int (0 : Int32), .int (0 : Int32)]) (rest := []) (st1 := []) (c_X7_item l g m0 m1 m2 m3 m4 m5 m6 m7 m8 m9 m10 m11 m12 now kept aside ik found carried T120 S (11 : Int32) x114 x116 x119 (0 : Int32) (0 : Int32) hg) (cwV 6 hts gX7_readItem_X7_item rfl rfl rfl q_X7_item ⟨Nat.le_of_ble_eq_true rfl, Nat.le_of_ble_eq_true rfl⟩) ⟨hx, hb, hml, hown, hts⟩ hE hP hD hS hA 7 0 rfl rfl rfl rfl hl.1 rfl rfl (Nat.le_of_ble_eq_true rfl) dX7_readItem_161 (fun H locs hP hD hS => ?_)
    refine lv_goto (tgt := 223) hx hb dX7_readItem_164 (by decide) ?_
    obtain rfl := Option.some.inj hf
    rw [hQ]; exact Ct.vret hx hb hr hlocks hAe hP hD hS dX7_readItem_223
  unfold fX7_readItem at hf
  refine lv_aload_n hx hb dX7_readItem_0 rfl (lv_at hl 0 rfl) ?_
  obtain ⟨x101, hg, hf⟩ := o1_s hf
  refine Ct.callV0 (ws' := wM g m0 m1 m2 m3 m4 m5 m6 m7 m8 m9 m10 m11 m12 now kept aside ik found carried T S) (As := []) (rest := []) (st1 := [.int x101]) (c_X7_kindTold l g m0 m1 m2 m3 m4 m5 m6 m7 m8 m9 m10 m11 m12 now kept aside ik found carried T S hg) (cwV 0 hts gX7_readItem_X7_kindTold rfl rfl rfl q_X7_kindTold ⟨Nat.le_of_ble_eq_true rfl, Nat.le_of_ble_eq_true rfl⟩) ⟨hx, hb, hml, hown, hts⟩ hE hP hD hS hA 7 0 rfl rfl rfl rfl hl.1 rfl rfl (Nat.le_of_ble_eq_true rfl) dX7_readItem_1 (fun H locs hP hD hS => ?_)
  refine lv_istore_n (lv' := [(1, .int x101), (0, .ref m0)]) hx hb dX7_readItem_4 rfl hl (by decide) rfl (fun ls hl => ?_)
  refine lv_iload_n hx hb dX7_readItem_5 rfl (lv_at hl 0 rfl) ?_
  refine lv_if_lt (tgt := 17) hx hb dX7_readItem_6 (by decide) (fun hc => ?_) (fun hc => ?_)
  · have hf := if_t hf hc
    refine lv_aload_n hx hb dX7_readItem_17 rfl (lv_at hl 1 rfl) ?_
    refine lv_ldcSw hx hb hown (EV.tx15 hE) dX7_readItem_18 ?_
    obtain ⟨x102, hg, hf⟩ := o1_s hf
    refine Ct.callV0 (ws' := wM g m0 m1 m2 m3 m4 m5 m6 m7 m8 m9 m10 m11 m12 now kept aside ik found carried T S) (As := [.ref (g.2.2 (10 + 11))]) (rest := []) (st1 := [.int x102]) (c_X7_isWord l g m0 m1 m2 m3 m4 m5 m6 m7 m8 m9 m10 m11 m12 now kept aside ik found carried T S 11 hg) (cwV 1 hts gX7_readItem_X7_isWord rfl rfl rfl q_X7_isWord ⟨Nat.le_of_ble_eq_true rfl, Nat.le_of_ble_eq_true rfl⟩) ⟨hx, hb, hml, hown, hts⟩ hE hP hD hS hA 7 0 rfl rfl rfl rfl hl.1 rfl rfl (Nat.le_of_ble_eq_true rfl) dX7_readItem_21 (fun H locs hP hD hS => ?_)
    refine lv_if_eq (tgt := 92) hx hb dX7_readItem_24 (by decide) (fun hc => ?_) (fun hc => ?_)
    · have hf := if_t hf hc
      refine lv_aload_n hx hb dX7_readItem_92 rfl (lv_at hl 1 rfl) ?_
      refine lv_ldcSw hx hb hown (EV.tx16 hE) dX7_readItem_93 ?_
      obtain ⟨x103, hg, hf⟩ := o1_s hf
      refine Ct.callV0 (ws' := wM g m0 m1 m2 m3 m4 m5 m6 m7 m8 m9 m10 m11 m12 now kept aside ik found carried T S) (As := [.ref (g.2.2 (10 + 12))]) (rest := []) (st1 := [.int x103]) (c_X7_isWord l g m0 m1 m2 m3 m4 m5 m6 m7 m8 m9 m10 m11 m12 now kept aside ik found carried T S 12 hg) (cwV 1 hts gX7_readItem_X7_isWord rfl rfl rfl q_X7_isWord ⟨Nat.le_of_ble_eq_true rfl, Nat.le_of_ble_eq_true rfl⟩) ⟨hx, hb, hml, hown, hts⟩ hE hP hD hS hA 7 0 rfl rfl rfl rfl hl.1 rfl rfl (Nat.le_of_ble_eq_true rfl) dX7_readItem_96 (fun H locs hP hD hS => ?_)
      refine lv_if_eq (tgt := 167) hx hb dX7_readItem_99 (by decide) (fun hc => ?_) (fun hc => ?_)
      · have hf := if_t hf hc
        refine lv_aload_n hx hb dX7_readItem_167 rfl (lv_at hl 1 rfl) ?_
        refine lv_ldcSw hx hb hown (EV.tx17 hE) dX7_readItem_168 ?_
        obtain ⟨x104, hg, hf⟩ := o1_s hf
        refine Ct.callV0 (ws' := wM g m0 m1 m2 m3 m4 m5 m6 m7 m8 m9 m10 m11 m12 now kept aside ik found carried T S) (As := [.ref (g.2.2 (10 + 13))]) (rest := []) (st1 := [.int x104]) (c_X7_isWord l g m0 m1 m2 m3 m4 m5 m6 m7 m8 m9 m10 m11 m12 now kept aside ik found carried T S 13 hg) (cwV 1 hts gX7_readItem_X7_isWord rfl rfl rfl q_X7_isWord ⟨Nat.le_of_ble_eq_true rfl, Nat.le_of_ble_eq_true rfl⟩) ⟨hx, hb, hml, hown, hts⟩ hE hP hD hS hA 7 0 rfl rfl rfl rfl hl.1 rfl rfl (Nat.le_of_ble_eq_true rfl) dX7_readItem_171 (fun H locs hP hD hS => ?_)
        refine lv_if_eq (tgt := 181) hx hb dX7_readItem_174 (by decide) (fun hc => ?_) (fun hc => ?_)
        · have hf := if_t hf hc
          refine lv_iconst (v := (0 : Int32)) hx hb dX7_readItem_181 (by decide) ?_
          exact J182 _ _ _ _ _  hf hP hD hS (lv_sub hl [1] rfl)
        · have hf := if_f hf hc
          refine lv_iconst (v := (1 : Int32)) hx hb dX7_readItem_177 (by decide) ?_
          refine lv_goto (tgt := 182) hx hb dX7_readItem_178 (by decide) ?_
          exact J182 _ _ _ _ _  hf hP hD hS (lv_sub hl [1] rfl)
      · have hf := if_f hf hc
        refine lv_aload_n hx hb dX7_readItem_102 rfl (lv_at hl 1 rfl) ?_
        refine lv_aload_n hx hb dX7_readItem_103 rfl (lv_at hl 1 rfl) ?_
        refine va_get (D := g.1) (ci := 7) (v := .int T.2.2.2.2.2.2.2.2.2.2) (C := RX7) (T := TX7) (N := 22) hx hb hts i_X7_readItem_X7 hown hE.1 hP 0 rfl rfl 17 (by decide) w1 (fun _ h9 => h9) rfl dX7_readItem_104 ?_
        refine lv_bipush (v := (8 : Int32)) hx hb dX7_readItem_107 (by decide) ?_
        refine lv_icmp_ge (tgt := 116) hx hb dX7_readItem_109 (by decide) (fun hc => ?_) (fun hc => ?_)
        · have hf := if_t hf hc
          refine lv_iconst (v := (0 : Int32)) hx hb dX7_readItem_116 (by decide) ?_
          exact J117 _ _ _ _ _  hf hP hD hS (lv_sub hl [1] rfl)
        · have hf := if_f hf hc
          refine lv_iconst (v := (1 : Int32)) hx hb dX7_readItem_112 (by decide) ?_
          refine lv_goto (tgt := 117) hx hb dX7_readItem_113 (by decide) ?_
          exact J117 _ _ _ _ _  hf hP hD hS (lv_sub hl [1] rfl)
    · have hf := if_f hf hc
      refine lv_aload_n hx hb dX7_readItem_27 rfl (lv_at hl 1 rfl) ?_
      refine lv_iconst (v := (1 : Int32)) hx hb dX7_readItem_28 (by decide) ?_
      obtain ⟨T122, hg, hf⟩ := o1_s hf
      refine Ct.callV0 (ws' := wM g m0 m1 m2 m3 m4 m5 m6 m7 m8 m9 m10 m11 m12 now kept aside ik found carried T122 S) (As := [.int (1 : Int32)]) (rest := []) (st1 := []) (c_X7_must l g m0 m1 m2 m3 m4 m5 m6 m7 m8 m9 m10 m11 m12 now kept aside ik found carried T S (1 : Int32) hg) (cwV 1 hts gX7_readItem_X7_must rfl rfl rfl q_X7_must ⟨Nat.le_of_ble_eq_true rfl, Nat.le_of_ble_eq_true rfl⟩) ⟨hx, hb, hml, hown, hts⟩ hE hP hD hS hA 7 0 rfl rfl rfl rfl hl.1 rfl rfl (Nat.le_of_ble_eq_true rfl) dX7_readItem_29 (fun H locs hP hD hS => ?_)
      refine lv_aload_n hx hb dX7_readItem_32 rfl (lv_at hl 1 rfl) ?_
      refine lv_iconst (v := (0 : Int32)) hx hb dX7_readItem_33 (by decide) ?_
      refine lv_aload_n hx hb dX7_readItem_34 rfl (lv_at hl 1 rfl) ?_
      refine va_get (D := g.1) (ci := 7) (v := .int T122.2.2.2.2.2.2.2.2.2.1) (C := RX7) (T := TX7) (N := 22) hx hb hts i_X7_readItem_X7 hown hE.1 hP 0 rfl rfl 16 (by decide) w2 (fun _ h9 => h9) rfl dX7_readItem_35 ?_
      refine lv_iconst (v := (1 : Int32)) hx hb dX7_readItem_38 (by decide) ?_
      refine lv_isub hx hb dX7_readItem_39 ?_
      obtain ⟨x123, T124, hg, hf⟩ := o2_s hf
      refine Ct.callV0 (ws' := wM g m0 m1 m2 m3 m4 m5 m6 m7 m8 m9 m10 m11 m12 now kept aside ik found carried T124 S) (As := [.int (0 : Int32), .int (T122.2.2.2.2.2.2.2.2.2.1 - (1 : Int32))]) (rest := []) (st1 := [.int x123]) (c_X7_number l g m0 m1 m2 m3 m4 m5 m6 m7 m8 m9 m10 m11 m12 now kept aside ik found carried T122 S (0 : Int32) (T122.2.2.2.2.2.2.2.2.2.1 - (1 : Int32)) hg) (cwV 2 hts gX7_readItem_X7_number rfl rfl rfl q_X7_number ⟨Nat.le_of_ble_eq_true rfl, Nat.le_of_ble_eq_true rfl⟩) ⟨hx, hb, hml, hown, hts⟩ hE hP hD hS hA 7 0 rfl rfl rfl rfl hl.1 rfl rfl (Nat.le_of_ble_eq_true rfl) dX7_readItem_40 (fun H locs hP hD hS => ?_)
      refine lv_istore_n (lv' := [(2, .int x123), (1, .int x101), (0, .ref m0)]) hx hb dX7_readItem_43 rfl hl (by decide) rfl (fun ls hl => ?_)
      refine lv_aload_n hx hb dX7_readItem_44 rfl (lv_at hl 2 rfl) ?_
      refine lv_iconst (v := (0 : Int32)) hx hb dX7_readItem_45 (by decide) ?_
      refine lv_bipush (v := (9 : Int32)) hx hb dX7_readItem_46 (by decide) ?_
      obtain ⟨x125, T126, hg, hf⟩ := o2_s hf
      refine Ct.callV0 (ws' := wM g m0 m1 m2 m3 m4 m5 m6 m7 m8 m9 m10 m11 m12 now kept aside ik found carried T126 S) (As := [.int (0 : Int32), .int (9 : Int32)]) (rest := []) (st1 := [.int x125]) (c_X7_number l g m0 m1 m2 m3 m4 m5 m6 m7 m8 m9 m10 m11 m12 now kept aside ik found carried T124 S (0 : Int32) (9 : Int32) hg) (cwV 2 hts gX7_readItem_X7_number rfl rfl rfl q_X7_number ⟨Nat.le_of_ble_eq_true rfl, Nat.le_of_ble_eq_true rfl⟩) ⟨hx, hb, hml, hown, hts⟩ hE hP hD hS hA 7 0 rfl rfl rfl rfl hl.1 rfl rfl (Nat.le_of_ble_eq_true rfl) dX7_readItem_48 (fun H locs hP hD hS => ?_)
      refine lv_istore_n (lv' := [(3, .int x125), (2, .int x123), (1, .int x101), (0, .ref m0)]) hx hb dX7_readItem_51 rfl hl (by decide) rfl (fun ls hl => ?_)
      refine lv_aload_n hx hb dX7_readItem_52 rfl (lv_at hl 3 rfl) ?_
      refine lv_iconst (v := (0 : Int32)) hx hb dX7_readItem_53 (by decide) ?_
      refine lv_bipush (v := (9 : Int32)) hx hb dX7_readItem_54 (by decide) ?_
      obtain ⟨x127, T128, hg, hf⟩ := o2_s hf
      refine Ct.callV0 (ws' := wM g m0 m1 m2 m3 m4 m5 m6 m7 m8 m9 m10 m11 m12 now kept aside ik found carried T128 S) (As := [.int (0 : Int32), .int (9 : Int32)]) (rest := []) (st1 := [.int x127]) (c_X7_number l g m0 m1 m2 m3 m4 m5 m6 m7 m8 m9 m10 m11 m12 now kept aside ik found carried T126 S (0 : Int32) (9 : Int32) hg) (cwV 2 hts gX7_readItem_X7_number rfl rfl rfl q_X7_number ⟨Nat.le_of_ble_eq_true rfl, Nat.le_of_ble_eq_true rfl⟩) ⟨hx, hb, hml, hown, hts⟩ hE hP hD hS hA 7 0 rfl rfl rfl rfl hl.1 rfl rfl (Nat.le_of_ble_eq_true rfl) dX7_readItem_56 (fun H locs hP hD hS => ?_)
      refine lv_istore (lv' := [(4, .int x127), (3, .int x125), (2, .int x123), (1, .int x101), (0, .ref m0)]) hx hb dX7_readItem_59 hl (by decide) rfl (fun ls hl => ?_)
      refine lv_aload_n hx hb dX7_readItem_61 rfl (lv_at hl 4 rfl) ?_
      refine lv_iconst (v := (0 : Int32)) hx hb dX7_readItem_62 (by decide) ?_
      refine lv_bipush (v := (9 : Int32)) hx hb dX7_readItem_63 (by decide) ?_
      obtain ⟨x129, T130, hg, hf⟩ := o2_s hf
      refine Ct.callV0 (ws' := wM g m0 m1 m2 m3 m4 m5 m6 m7 m8 m9 m10 m11 m12 now kept aside ik found carried T130 S) (As := [.int (0 : Int32), .int (9 : Int32)]) (rest := []) (st1 := [.int x129]) (c_X7_number l g m0 m1 m2 m3 m4 m5 m6 m7 m8 m9 m10 m11 m12 now kept aside ik found carried T128 S (0 : Int32) (9 : Int32) hg) (cwV 2 hts gX7_readItem_X7_number rfl rfl rfl q_X7_number ⟨Nat.le_of_ble_eq_true rfl, Nat.le_of_ble_eq_true rfl⟩) ⟨hx, hb, hml, hown, hts⟩ hE hP hD hS hA 7 0 rfl rfl rfl rfl hl.1 rfl rfl (Nat.le_of_ble_eq_true rfl) dX7_readItem_65 (fun H locs hP hD hS => ?_)
      refine lv_istore (lv' := [(5, .int x129), (4, .int x127), (3, .int x125), (2, .int x123), (1, .int x101), (0, .ref m0)]) hx hb dX7_readItem_68 hl (by decide) rfl (fun ls hl => ?_)
      refine lv_aload_n hx hb dX7_readItem_70 rfl (lv_at hl 5 rfl) ?_
      refine lv_bipush (v := (10 : Int32)) hx hb dX7_readItem_71 (by decide) ?_
      refine lv_iload_n hx hb dX7_readItem_73 rfl (lv_at hl 3 rfl) ?_
      refine lv_iload_n hx hb dX7_readItem_74 rfl (lv_at hl 2 rfl) ?_
      refine lv_iload hx hb dX7_readItem_75 (lv_at hl 1 rfl) ?_
      refine lv_iload hx hb dX7_readItem_77 (lv_at hl 0 rfl) ?_
      refine lv_aload_n hx hb dX7_readItem_79 rfl (lv_at hl 5 rfl) ?_
      refine lv_iconst (v := (0 : Int32)) hx hb dX7_readItem_80 (by decide) ?_
      refine lv_bipush (v := (9 : Int32)) hx hb dX7_readItem_81 (by decide) ?_
      obtain ⟨x131, T132, hg, hf⟩ := o2_s hf
      refine Ct.callV0 (ws' := wM g m0 m1 m2 m3 m4 m5 m6 m7 m8 m9 m10 m11 m12 now kept aside ik found carried T132 S) (As := [.int (0 : Int32), .int (9 : Int32)]) (rest := [.int x129, .int x127, .int x125, .int x123, .int (10 : Int32), .ref m0]) (st1 := [.int x131, .int x129, .int x127, .int x125, .int x123, .int (10 : Int32), .ref m0]) (c_X7_number l g m0 m1 m2 m3 m4 m5 m6 m7 m8 m9 m10 m11 m12 now kept aside ik found carried T130 S (0 : Int32) (9 : Int32) hg) (cwV 2 hts gX7_readItem_X7_number rfl rfl rfl q_X7_number ⟨Nat.le_of_ble_eq_true rfl, Nat.le_of_ble_eq_true rfl⟩) ⟨hx, hb, hml, hown, hts⟩ hE hP hD hS hA 7 0 rfl rfl rfl rfl hl.1 rfl rfl (Nat.le_of_ble_eq_true rfl) dX7_readItem_83 (fun H locs hP hD hS => ?_)
      obtain ⟨T133, hg, hf⟩ := o1_s hf
      refine Ct.callV0 (ws' := wM g m0 m1 m2 m3 m4 m5 m6 m7 m8 m9 m10 m11 m12 now kept aside ik found carried T133 S) (As := [.int (10 : Int32), .int x123, .int x125, .int x127, .int x129, .int x131]) (rest := []) (st1 := []) (c_X7_item l g m0 m1 m2 m3 m4 m5 m6 m7 m8 m9 m10 m11 m12 now kept aside ik found carried T132 S (10 : Int32) x123 x125 x127 x129 x131 hg) (cwV 6 hts gX7_readItem_X7_item rfl rfl rfl q_X7_item ⟨Nat.le_of_ble_eq_true rfl, Nat.le_of_ble_eq_true rfl⟩) ⟨hx, hb, hml, hown, hts⟩ hE hP hD hS hA 7 0 rfl rfl rfl rfl hl.1 rfl rfl (Nat.le_of_ble_eq_true rfl) dX7_readItem_86 (fun H locs hP hD hS => ?_)
      refine lv_goto (tgt := 223) hx hb dX7_readItem_89 (by decide) ?_
      obtain rfl := Option.some.inj hf
      rw [hQ]; exact Ct.vret hx hb hr hlocks hAe hP hD hS dX7_readItem_223
  · have hf := if_f hf hc
    refine lv_aload_n hx hb dX7_readItem_9 rfl (lv_at hl 1 rfl) ?_
    refine lv_iload_n hx hb dX7_readItem_10 rfl (lv_at hl 0 rfl) ?_
    obtain ⟨T134, hg, hf⟩ := o1_s hf
    refine Ct.callV0 (ws' := wM g m0 m1 m2 m3 m4 m5 m6 m7 m8 m9 m10 m11 m12 now kept aside ik found carried T134 S) (As := [.int x101]) (rest := []) (st1 := []) (c_X7_readCistern l g m0 m1 m2 m3 m4 m5 m6 m7 m8 m9 m10 m11 m12 now kept aside ik found carried T S x101 hg) (cwV 1 hts gX7_readItem_X7_readCistern rfl rfl rfl q_X7_readCistern ⟨Nat.le_of_ble_eq_true rfl, Nat.le_of_ble_eq_true rfl⟩) ⟨hx, hb, hml, hown, hts⟩ hE hP hD hS hA 7 0 rfl rfl rfl rfl hl.1 rfl rfl (Nat.le_of_ble_eq_true rfl) dX7_readItem_11 (fun H locs hP hD hS => ?_)
    refine lv_goto (tgt := 223) hx hb dX7_readItem_14 (by decide) ?_
    obtain rfl := Option.some.inj hf
    rw [hQ]; exact Ct.vret hx hb hr hlocks hAe hP hD hS dX7_readItem_223
def fX7_isSo_L63 (T : Mt) (x1 : Int32) (x2 : Int32) (kx : (Nat → Int32) → Option ((Nat → Int32))) : Nat → (Nat → Int32) → Int32 → Option ((Nat → Int32))
  | 0, _, _ => none
  | k + 1, now, x6 => if (4 : Int32) ≤ x6 then (kx now) else (o1 (fX7_at x2 ((6 : Int32) + x6)) (fun x108 => rd T.2.1 720 ((x1 + (2 : Int32)) + x6) (fun x109 => wr now 120 x108 x109 (fun f110 => fX7_isSo_L63 T x1 x2 kx k f110 (x6 + (1 : Int32))))))
def fX7_isSo (now : Nat → Int32) (T : Mt) (a1 : Int32) : Option ((Nat → Int32)) := rd T.2.1 720 (a1 + (1 : Int32)) (fun x101 => rd T.2.1 720 (a1 + (2 : Int32)) (fun x102 => rd T.2.1 720 (a1 + (3 : Int32)) (fun x103 => rd T.2.1 720 a1 (fun x104 => if x104 = (10 : Int32) then (fX7_isSo_L63 T a1 x101 (fun now111 => some now111) fu now (0 : Int32)) else (if x104 = (11 : Int32) then (o2 (fX7_put now x101 x102 x103) (fun x112 now113 => some now113)) else (if x104 = (12 : Int32) then (wr now 120 (1 : Int32) x101 (fun f114 => some f114)) else (rd T.2.1 720 a1 (fun x115 => rd T.2.1 720 (a1 + (4 : Int32)) (fun x116 => o2 (fX7_built now x115 x101 x102 x103 x116) (fun x117 now118 => some now118))))))))))
theorem q_X7_isSo : yX7_isSo.cls = RX7 ∧ yX7_isSo.cls ≠ "java/lang/invoke/MethodHandle" ∧ yX7_isSo.cls ≠ "java/lang/invoke/VarHandle" ∧ (parseMethodDescriptor yX7_isSo.desc).map (fun d => d.parameters.length) = some 1 := by decide +kernel
theorem i_X7_isSo_X7 : ∀ w ∈ u_ws RX7 TX7 22, w ∈ wsX7_isSo := fun _ h => List.mem_cons_of_mem _ (List.mem_append_right _ (h))
set_option maxHeartbeats 4000000 in
set_option maxRecDepth 100000 in
theorem c_X7_isSo (l : Launch) (g : gG) (m0 m1 m2 m3 m4 m5 m6 m7 m8 m9 m10 m11 m12 : Nat) (now : Nat → Int32) (kept : Nat → Int32) (aside : Nat → Int32) (ik : Int32) (found : Nat → Int32) (carried : Nat → Int32) (T : Mt) (S : Ms) (a1 : Int32) {now' : Nat → Int32} (hf : fX7_isSo now T a1 = some now') : Ct l yX7_isSo wsX7_isSo (rmm 2 48) g (wM g m0 m1 m2 m3 m4 m5 m6 m7 m8 m9 m10 m11 m12 now kept aside ik found carried T S) (wM g m0 m1 m2 m3 m4 m5 m6 m7 m8 m9 m10 m11 m12 (now') kept aside ik found carried T S) [.ref m0, .int a1] none := by
  refine Ct.mk (by decide) rfl (Nat.le_of_ble_eq_true rfl) ?_
  intro p e s m args below meth c A ls hx hb hr hml hts hown hlocks hA hE hP hD hS hl hAe
  obtain ⟨Qx, hQ⟩ : ∃ Qx : State → Prop, Qx = MQ below (QcG g (wM g m0 m1 m2 m3 m4 m5 m6 m7 m8 m9 m10 m11 m12 now kept aside ik found carried T S) (wM g m0 m1 m2 m3 m4 m5 m6 m7 m8 m9 m10 m11 m12 (now') kept aside ik found carried T S) none s.heap.size) args s 0 0 A := ⟨_, rfl⟩
  rw [← hQ]
  have hown : s.vm.findClass RX7 = some m.cls := hown
  have hl : lv_has ls 7 [(0, .ref m0), (1, .int a1)] := hl
  have w1 := hts (.fieldLink RX7 48 "RainVaultModel" "items" "[I") (List.mem_of_getElem? (i := 1) rfl)
  have w2 := hts (.fieldLink RX7 9 "RainVaultModel" "now" "[I") (List.mem_of_getElem? (i := 2) rfl)
  have L63 : ∀ (x1 : Int32) (x2 : Int32) (kx : (Nat → Int32) → Option ((Nat → Int32))) (k : Nat) (now : Nat → Int32) (x6 : Int32) (H : Heap) (locs : List Loc) (ls : Array Slot), fX7_isSo_L63 T x1 x2 kx k now x6 = some now' → va_P g.1 vwK (wM g m0 m1 m2 m3 m4 m5 m6 m7 m8 m9 m10 m11 m12 now kept aside ik found carried T S) H → va_D A (wM g m0 m1 m2 m3 m4 m5 m6 m7 m8 m9 m10 m11 m12 now kept aside ik found carried T S) → va_S A s.heap H locs → lv_has ls 7 [(0, .ref m0), (1, .int x1), (2, .int x2), (6, .int x6)] → (∀ (now : Nat → Int32) (H : Heap) (locs : List Loc) (ls : Array Slot), kx now = some now' → va_P g.1 vwK (wM g m0 m1 m2 m3 m4 m5 m6 m7 m8 m9 m10 m11 m12 now kept aside ik found carried T S) H → va_D A (wM g m0 m1 m2 m3 m4 m5 m6 m7 m8 m9 m10 m11 m12 now kept aside ik found carried T S) → va_S A s.heap H locs → lv_has ls 7 [] → W p l e (rmm 2 48) s m args below meth c H locs 0 0 Qx (F0 m 100 ls [])) → W p l e (rmm 2 48) s m args below meth c H locs 0 0 Qx (F0 m 63 ls []) := by
    intro x1 x2 kx k
    induction k with
    | zero => intro now x6 H locs ls hf; exact nomatch (show (none : Option ((Nat → Int32))) = some _ from hf)
    | succ k ih =>
      intro now x6 H locs ls hf hP hD hS hl hk
      rw [fX7_isSo_L63] at hf
      refine lv_iload hx hb dX7_isSo_63 (lv_at hl 3 rfl) ?_
      refine lv_iconst (v := (4 : Int32)) hx hb dX7_isSo_65 (by decide) ?_
      refine lv_icmp_ge (tgt := 100) hx hb dX7_isSo_66 (by decide) (fun hc => ?_) (fun hc => ?_)
      · have hf := if_t hf hc
        exact hk _ _ _ _  hf hP hD hS (lv_sub hl [] rfl)
      · have hf := if_f hf hc
        refine lv_aload_n hx hb dX7_isSo_69 rfl (lv_at hl 0 rfl) ?_
        refine va_get (D := g.1) (ci := 7) (v := .ref m1) (C := RX7) (T := TX7) (N := 22) hx hb hts i_X7_isSo_X7 hown hE.1 hP 0 rfl rfl 0 (by decide) w2 (fun _ h9 => h9) rfl dX7_isSo_70 ?_
        refine lv_iload_n hx hb dX7_isSo_73 rfl (lv_at hl 2 rfl) ?_
        refine lv_bipush (v := (6 : Int32)) hx hb dX7_isSo_74 (by decide) ?_
        refine lv_iload hx hb dX7_isSo_76 (lv_at hl 3 rfl) ?_
        refine lv_iadd hx hb dX7_isSo_78 ?_
        obtain ⟨x108, hg, hf⟩ := o1_s hf
        refine Ct.callS (ws' := wM g m0 m1 m2 m3 m4 m5 m6 m7 m8 m9 m10 m11 m12 now kept aside ik found carried T S) (As := [.int x2, .int ((6 : Int32) + x6)]) (rest := [.ref m1]) (st1 := [.int x108, .ref m1]) (c_X7_at l g x2 ((6 : Int32) + x6) hg) (va_cwS 2 hts gX7_isSo_X7_at rfl rfl rfl q_X7_at.2 ⟨Nat.le_of_ble_eq_true rfl, Nat.le_of_ble_eq_true rfl⟩) ⟨hx, hb, hml, hown, hts⟩ hE hP hD hS hA [] rfl rfl rfl rfl rfl hl.1 rfl rfl (Nat.le_of_ble_eq_true rfl) dX7_isSo_79 (fun H locs hP hD hS => ?_)
        refine lv_aload_n hx hb dX7_isSo_82 rfl (lv_at hl 0 rfl) ?_
        refine va_get (D := g.1) (ci := 7) (v := .ref m8) (C := RX7) (T := TX7) (N := 22) hx hb hts i_X7_isSo_X7 hown hE.1 hP 0 rfl rfl 14 (by decide) w1 (fun _ h9 => h9) rfl dX7_isSo_83 ?_
        refine lv_iload_n hx hb dX7_isSo_86 rfl (lv_at hl 1 rfl) ?_
        refine lv_iconst (v := (2 : Int32)) hx hb dX7_isSo_87 (by decide) ?_
        refine lv_iadd hx hb dX7_isSo_88 ?_
        refine lv_iload hx hb dX7_isSo_89 (lv_at hl 3 rfl) ?_
        refine lv_iadd hx hb dX7_isSo_91 ?_
        obtain ⟨x109, ex, hin, hf⟩ := rd_s hf
        refine st_iald (f := T.2.1) hx hb hE.1 hP 8 0 rfl rfl hin ex dX7_isSo_92 ?_
        obtain ⟨f110, ef, hin, hf⟩ := wr_s hf
        refine st_iast (ws' := wM g m0 m1 m2 m3 m4 m5 m6 m7 m8 m9 m10 m11 m12 f110 kept aside ik found carried T S) (f := now) (f2 := f110) hx hb hE.1 hP hD hS 1 0 rfl rfl hin ef rfl dX7_isSo_93 (fun H locs hP hD hS => ?_)
        refine lv_iinc (v := (x6 + (1 : Int32))) (lv' := [(6, .int (x6 + (1 : Int32))), (0, .ref m0), (1, .int x1), (2, .int x2)]) hx hb dX7_isSo_94 hl (k := 3) rfl rfl (by decide) rfl (fun ls hl => ?_)
        refine lv_goto (tgt := 63) hx hb dX7_isSo_97 (by decide) ?_
        exact ih _ _ _ _ _  hf hP hD hS (lv_sub hl [1, 2, 3, 0] rfl) hk
  unfold fX7_isSo at hf
  refine lv_aload_n hx hb dX7_isSo_0 rfl (lv_at hl 0 rfl) ?_
  refine va_get (D := g.1) (ci := 7) (v := .ref m8) (C := RX7) (T := TX7) (N := 22) hx hb hts i_X7_isSo_X7 hown hE.1 hP 0 rfl rfl 14 (by decide) w1 (fun _ h9 => h9) rfl dX7_isSo_1 ?_
  refine lv_iload_n hx hb dX7_isSo_4 rfl (lv_at hl 1 rfl) ?_
  refine lv_iconst (v := (1 : Int32)) hx hb dX7_isSo_5 (by decide) ?_
  refine lv_iadd hx hb dX7_isSo_6 ?_
  obtain ⟨x101, ex, hin, hf⟩ := rd_s hf
  refine st_iald (f := T.2.1) hx hb hE.1 hP 8 0 rfl rfl hin ex dX7_isSo_7 ?_
  refine lv_istore_n (lv' := [(2, .int x101), (0, .ref m0), (1, .int a1)]) hx hb dX7_isSo_8 rfl hl (by decide) rfl (fun ls hl => ?_)
  refine lv_aload_n hx hb dX7_isSo_9 rfl (lv_at hl 1 rfl) ?_
  refine va_get (D := g.1) (ci := 7) (v := .ref m8) (C := RX7) (T := TX7) (N := 22) hx hb hts i_X7_isSo_X7 hown hE.1 hP 0 rfl rfl 14 (by decide) w1 (fun _ h9 => h9) rfl dX7_isSo_10 ?_
  refine lv_iload_n hx hb dX7_isSo_13 rfl (lv_at hl 2 rfl) ?_
  refine lv_iconst (v := (2 : Int32)) hx hb dX7_isSo_14 (by decide) ?_
  refine lv_iadd hx hb dX7_isSo_15 ?_
  obtain ⟨x102, ex, hin, hf⟩ := rd_s hf
  refine st_iald (f := T.2.1) hx hb hE.1 hP 8 0 rfl rfl hin ex dX7_isSo_16 ?_
  refine lv_istore_n (lv' := [(3, .int x102), (2, .int x101), (0, .ref m0), (1, .int a1)]) hx hb dX7_isSo_17 rfl hl (by decide) rfl (fun ls hl => ?_)
  refine lv_aload_n hx hb dX7_isSo_18 rfl (lv_at hl 2 rfl) ?_
  refine va_get (D := g.1) (ci := 7) (v := .ref m8) (C := RX7) (T := TX7) (N := 22) hx hb hts i_X7_isSo_X7 hown hE.1 hP 0 rfl rfl 14 (by decide) w1 (fun _ h9 => h9) rfl dX7_isSo_19 ?_
  refine lv_iload_n hx hb dX7_isSo_22 rfl (lv_at hl 3 rfl) ?_
  refine lv_iconst (v := (3 : Int32)) hx hb dX7_isSo_23 (by decide) ?_
  refine lv_iadd hx hb dX7_isSo_24 ?_
  obtain ⟨x103, ex, hin, hf⟩ := rd_s hf
  refine st_iald (f := T.2.1) hx hb hE.1 hP 8 0 rfl rfl hin ex dX7_isSo_25 ?_
  refine lv_istore (lv' := [(4, .int x103), (3, .int x102), (2, .int x101), (0, .ref m0), (1, .int a1)]) hx hb dX7_isSo_26 hl (by decide) rfl (fun ls hl => ?_)
  refine lv_aload_n hx hb dX7_isSo_28 rfl (lv_at hl 3 rfl) ?_
  refine va_get (D := g.1) (ci := 7) (v := .ref m8) (C := RX7) (T := TX7) (N := 22) hx hb hts i_X7_isSo_X7 hown hE.1 hP 0 rfl rfl 14 (by decide) w1 (fun _ h9 => h9) rfl dX7_isSo_29 ?_
  refine lv_iload_n hx hb dX7_isSo_32 rfl (lv_at hl 4 rfl) ?_
  obtain ⟨x104, ex, hin, hf⟩ := rd_s hf
  refine st_iald (f := T.2.1) hx hb hE.1 hP 8 0 rfl rfl hin ex dX7_isSo_33 ?_
  by_cases hc10 : x104 = (10 : Int32)
  · have hf := if_t hf hc10
    refine lv_tableIn (off := 26) (tgt := 60) hx hb dX7_isSo_34 (ts_in _ hc10 (by decide)) (ts_hi _ hc10 (by decide)) (ts_of _ hc10 (by decide)) (by decide) ?_
    refine lv_iconst (v := (0 : Int32)) hx hb dX7_isSo_60 (by decide) ?_
    refine lv_istore (lv' := [(6, .int (0 : Int32)), (4, .int x103), (3, .int x102), (2, .int x101), (0, .ref m0), (1, .int a1)]) hx hb dX7_isSo_61 hl (by decide) rfl (fun ls hl => ?_)
    refine L63 _ _ _ _ _ _ _ _ _  hf hP hD hS (lv_sub hl [4, 5, 3, 0] rfl) (fun now111 H locs ls hf hP hD hS hl => ?_)
    refine lv_goto (tgt := 150) hx hb dX7_isSo_100 (by decide) ?_
    obtain rfl := Option.some.inj hf
    rw [hQ]; exact Ct.vret hx hb hr hlocks hAe hP hD hS dX7_isSo_150
  · have hf := if_f hf hc10
    by_cases hc11 : x104 = (11 : Int32)
    · have hf := if_t hf hc11
      refine lv_tableIn (off := 69) (tgt := 103) hx hb dX7_isSo_34 (ts_in _ hc11 (by decide)) (ts_hi _ hc11 (by decide)) (ts_of _ hc11 (by decide)) (by decide) ?_
      refine lv_aload_n hx hb dX7_isSo_103 rfl (lv_at hl 3 rfl) ?_
      refine lv_iload_n hx hb dX7_isSo_104 rfl (lv_at hl 2 rfl) ?_
      refine lv_iload_n hx hb dX7_isSo_105 rfl (lv_at hl 1 rfl) ?_
      refine lv_iload hx hb dX7_isSo_106 (lv_at hl 0 rfl) ?_
      obtain ⟨x112, now113, hg, hf⟩ := o2_s hf
      refine Ct.callV0 (ws' := wM g m0 m1 m2 m3 m4 m5 m6 m7 m8 m9 m10 m11 m12 now113 kept aside ik found carried T S) (As := [.int x101, .int x102, .int x103]) (rest := []) (st1 := [.int x112]) (c_X7_put l g m0 m1 m2 m3 m4 m5 m6 m7 m8 m9 m10 m11 m12 now kept aside ik found carried T S x101 x102 x103 hg) (cwV 3 hts gX7_isSo_X7_put rfl rfl rfl q_X7_put ⟨Nat.le_of_ble_eq_true rfl, Nat.le_of_ble_eq_true rfl⟩) ⟨hx, hb, hml, hown, hts⟩ hE hP hD hS hA 7 0 rfl rfl rfl rfl hl.1 rfl rfl (Nat.le_of_ble_eq_true rfl) dX7_isSo_108 (fun H locs hP hD hS => ?_)
      refine lv_istore (lv' := [(5, .int x112), (4, .int x103), (3, .int x102), (2, .int x101), (0, .ref m0), (1, .int a1)]) hx hb dX7_isSo_111 hl (by decide) rfl (fun ls hl => ?_)
      refine lv_goto (tgt := 150) hx hb dX7_isSo_113 (by decide) ?_
      obtain rfl := Option.some.inj hf
      rw [hQ]; exact Ct.vret hx hb hr hlocks hAe hP hD hS dX7_isSo_150
    · have hf := if_f hf hc11
      by_cases hc12 : x104 = (12 : Int32)
      · have hf := if_t hf hc12
        refine lv_tableIn (off := 82) (tgt := 116) hx hb dX7_isSo_34 (ts_in _ hc12 (by decide)) (ts_hi _ hc12 (by decide)) (ts_of _ hc12 (by decide)) (by decide) ?_
        refine lv_aload_n hx hb dX7_isSo_116 rfl (lv_at hl 3 rfl) ?_
        refine va_get (D := g.1) (ci := 7) (v := .ref m1) (C := RX7) (T := TX7) (N := 22) hx hb hts i_X7_isSo_X7 hown hE.1 hP 0 rfl rfl 0 (by decide) w2 (fun _ h9 => h9) rfl dX7_isSo_117 ?_
        refine lv_iconst (v := (1 : Int32)) hx hb dX7_isSo_120 (by decide) ?_
        refine lv_iload_n hx hb dX7_isSo_121 rfl (lv_at hl 2 rfl) ?_
        obtain ⟨f114, ef, hin, hf⟩ := wr_s hf
        refine st_iast (ws' := wM g m0 m1 m2 m3 m4 m5 m6 m7 m8 m9 m10 m11 m12 f114 kept aside ik found carried T S) (f := now) (f2 := f114) hx hb hE.1 hP hD hS 1 0 rfl rfl hin ef rfl dX7_isSo_122 (fun H locs hP hD hS => ?_)
        refine lv_goto (tgt := 150) hx hb dX7_isSo_123 (by decide) ?_
        obtain rfl := Option.some.inj hf
        rw [hQ]; exact Ct.vret hx hb hr hlocks hAe hP hD hS dX7_isSo_150
      · have hf := if_f hf hc12
        have hn10 := lv_neT (a := 10) hc10 (by decide)
        have hn11 := lv_neT (a := 11) hc11 (by decide)
        have hn12 := lv_neT (a := 12) hc12 (by decide)
        refine lv_tableOut (tgt := 126) hx hb dX7_isSo_34 (by omega) (by decide) ?_
        refine lv_aload_n hx hb dX7_isSo_126 rfl (lv_at hl 3 rfl) ?_
        refine lv_aload_n hx hb dX7_isSo_127 rfl (lv_at hl 3 rfl) ?_
        refine va_get (D := g.1) (ci := 7) (v := .ref m8) (C := RX7) (T := TX7) (N := 22) hx hb hts i_X7_isSo_X7 hown hE.1 hP 0 rfl rfl 14 (by decide) w1 (fun _ h9 => h9) rfl dX7_isSo_128 ?_
        refine lv_iload_n hx hb dX7_isSo_131 rfl (lv_at hl 4 rfl) ?_
        obtain ⟨x115, ex, hin, hf⟩ := rd_s hf
        refine st_iald (f := T.2.1) hx hb hE.1 hP 8 0 rfl rfl hin ex dX7_isSo_132 ?_
        refine lv_iload_n hx hb dX7_isSo_133 rfl (lv_at hl 2 rfl) ?_
        refine lv_iload_n hx hb dX7_isSo_134 rfl (lv_at hl 1 rfl) ?_
        refine lv_iload hx hb dX7_isSo_135 (lv_at hl 0 rfl) ?_
        refine lv_aload_n hx hb dX7_isSo_137 rfl (lv_at hl 3 rfl) ?_
        refine va_get (D := g.1) (ci := 7) (v := .ref m8) (C := RX7) (T := TX7) (N := 22) hx hb hts i_X7_isSo_X7 hown hE.1 hP 0 rfl rfl 14 (by decide) w1 (fun _ h9 => h9) rfl dX7_isSo_138 ?_
        refine lv_iload_n hx hb dX7_isSo_141 rfl (lv_at hl 4 rfl) ?_
        refine lv_iconst (v := (4 : Int32)) hx hb dX7_isSo_142 (by decide) ?_
        refine lv_iadd hx hb dX7_isSo_143 ?_
        obtain ⟨x116, ex, hin, hf⟩ := rd_s hf
        refine st_iald (f := T.2.1) hx hb hE.1 hP 8 0 rfl rfl hin ex dX7_isSo_144 ?_
        obtain ⟨x117, now118, hg, hf⟩ := o2_s hf
        refine Ct.callV0 (ws' := wM g m0 m1 m2 m3 m4 m5 m6 m7 m8 m9 m10 m11 m12 now118 kept aside ik found carried T S) (As := [.int x115, .int x101, .int x102, .int x103, .int x116]) (rest := []) (st1 := [.int x117]) (c_X7_built l g m0 m1 m2 m3 m4 m5 m6 m7 m8 m9 m10 m11 m12 now kept aside ik found carried T S x115 x101 x102 x103 x116 hg) (cwV 5 hts gX7_isSo_X7_built rfl rfl rfl q_X7_built ⟨Nat.le_of_ble_eq_true rfl, Nat.le_of_ble_eq_true rfl⟩) ⟨hx, hb, hml, hown, hts⟩ hE hP hD hS hA 7 0 rfl rfl rfl rfl hl.1 rfl rfl (Nat.le_of_ble_eq_true rfl) dX7_isSo_145 (fun H locs hP hD hS => ?_)
        refine lv_istore (lv' := [(5, .int x117), (4, .int x103), (3, .int x102), (2, .int x101), (0, .ref m0), (1, .int a1)]) hx hb dX7_isSo_148 hl (by decide) rfl (fun ls hl => ?_)
        obtain rfl := Option.some.inj hf
        rw [hQ]; exact Ct.vret hx hb hr hlocks hAe hP hD hS dX7_isSo_150
def fX7_text_L43 (kx : Mt → Option (Int32 × (Nat → Int32) × Mt)) : Nat → Mt → Option (Int32 × (Nat → Int32) × Mt)
  | 0, _ => none
  | k + 1, T => if T.2.2.2.2.2.2.2.1 = 0 then (if T.2.2.2.2.2.1 = (3 : Int32) then (rd T.1 120 T.2.2.2.1 (fun x108 => if x108 = (59 : Int32) then (o1 (fX7_must T (1 : Int32)) (fun T109 => o1 (fX7_readItem T109) (fun T110 => fX7_text_L43 kx k T110))) else (kx T))) else (kx T)) else (kx T)
def fX7_text_L121 (T : Mt) (kx : (Nat → Int32) → Option (Int32 × (Nat → Int32) × Mt)) : Nat → (Nat → Int32) → Int32 → Option (Int32 × (Nat → Int32) × Mt)
  | 0, _, _ => none
  | k + 1, now, x1 => if T.2.2.2.2.2.2.2.2.1 ≤ x1 then (kx now) else (o1 (fX7_isSo now T ((6 : Int32) * x1)) (fun now114 => fX7_text_L121 T kx k now114 (x1 + (1 : Int32))))
def fX7_text_J84 (now : Nat → Int32) (T : Mt) : Option (Int32 × (Nat → Int32) × Mt) := if T.2.2.2.2.2.1 = 0 then (o1 (fX7_must T (1 : Int32)) (fun T116 => if T116.2.2.2.2.2.2.2.1 = 0 then (fX7_text_L121 (T116.1, T116.2.1, (0 : Int32), T116.2.2.2.1, T116.2.2.2.2.1, T116.2.2.2.2.2.1, T116.2.2.2.2.2.2.1, T116.2.2.2.2.2.2.2.1, T116.2.2.2.2.2.2.2.2.1, T116.2.2.2.2.2.2.2.2.2.1, T116.2.2.2.2.2.2.2.2.2.2) (fun now117 => some (T116.2.2.2.2.2.2.2.2.1, now117, (T116.1, T116.2.1, (0 : Int32), T116.2.2.2.1, T116.2.2.2.2.1, T116.2.2.2.2.2.1, T116.2.2.2.2.2.2.1, T116.2.2.2.2.2.2.2.1, T116.2.2.2.2.2.2.2.2.1, T116.2.2.2.2.2.2.2.2.2.1, T116.2.2.2.2.2.2.2.2.2.2))) fu now (0 : Int32)) else (some (((-1 : Int32) - T116.2.2.2.1), now, (T116.1, T116.2.1, (0 : Int32), T116.2.2.2.1, T116.2.2.2.2.1, T116.2.2.2.2.2.1, T116.2.2.2.2.2.2.1, T116.2.2.2.2.2.2.2.1, T116.2.2.2.2.2.2.2.2.1, T116.2.2.2.2.2.2.2.2.2.1, T116.2.2.2.2.2.2.2.2.2.2))))) else (o1 (fX7_must T (0 : Int32)) (fun T112 => if T112.2.2.2.2.2.2.2.1 = 0 then (fX7_text_L121 (T112.1, T112.2.1, (0 : Int32), T112.2.2.2.1, T112.2.2.2.2.1, T112.2.2.2.2.2.1, T112.2.2.2.2.2.2.1, T112.2.2.2.2.2.2.2.1, T112.2.2.2.2.2.2.2.2.1, T112.2.2.2.2.2.2.2.2.2.1, T112.2.2.2.2.2.2.2.2.2.2) (fun now115 => some (T112.2.2.2.2.2.2.2.2.1, now115, (T112.1, T112.2.1, (0 : Int32), T112.2.2.2.1, T112.2.2.2.2.1, T112.2.2.2.2.2.1, T112.2.2.2.2.2.2.1, T112.2.2.2.2.2.2.2.1, T112.2.2.2.2.2.2.2.2.1, T112.2.2.2.2.2.2.2.2.2.1, T112.2.2.2.2.2.2.2.2.2.2))) fu now (0 : Int32)) else (some (((-1 : Int32) - T112.2.2.2.1), now, (T112.1, T112.2.1, (0 : Int32), T112.2.2.2.1, T112.2.2.2.2.1, T112.2.2.2.2.2.1, T112.2.2.2.2.2.2.1, T112.2.2.2.2.2.2.2.1, T112.2.2.2.2.2.2.2.2.1, T112.2.2.2.2.2.2.2.2.2.1, T112.2.2.2.2.2.2.2.2.2.2)))))
def fX7_text (now : Nat → Int32) (T : Mt) : Option (Int32 × (Nat → Int32) × Mt) := rd now 120 (2 : Int32) (fun x101 => rd now 120 (3 : Int32) (fun x102 => o1 (fX7_next (T.1, T.2.1, T.2.2.1, T.2.2.2.1, (0 : Int32), T.2.2.2.2.2.1, T.2.2.2.2.2.2.1, (0 : Int32), (0 : Int32), x101, x102)) (fun T103 => o1 (fX7_readItem T103) (fun T104 => fX7_text_L43 (fun T111 => fX7_text_J84 now T111) fu T104))))
theorem q_X7_text : yX7_text.cls = RX7 ∧ yX7_text.cls ≠ "java/lang/invoke/MethodHandle" ∧ yX7_text.cls ≠ "java/lang/invoke/VarHandle" ∧ (parseMethodDescriptor yX7_text.desc).map (fun d => d.parameters.length) = some 0 := by decide +kernel
theorem i_X7_text_X7 : ∀ w ∈ u_ws RX7 TX7 22, w ∈ wsX7_text := fun _ h => List.mem_cons_of_mem _ (List.mem_append_right _ (h))
set_option maxHeartbeats 4000000 in
set_option maxRecDepth 100000 in
theorem c_X7_text (l : Launch) (g : gG) (m0 m1 m2 m3 m4 m5 m6 m7 m8 m9 m10 m11 m12 : Nat) (now : Nat → Int32) (kept : Nat → Int32) (aside : Nat → Int32) (ik : Int32) (found : Nat → Int32) (carried : Nat → Int32) (T : Mt) (S : Ms) {r : Int32} {now' : Nat → Int32} {T' : Mt} (hf : fX7_text now T = some (r, now', T')) : Ct l yX7_text wsX7_text (rmm 10 317) g (wM g m0 m1 m2 m3 m4 m5 m6 m7 m8 m9 m10 m11 m12 now kept aside ik found carried T S) (wM g m0 m1 m2 m3 m4 m5 m6 m7 m8 m9 m10 m11 m12 (now') kept aside ik found carried (T') S) [.ref m0] (some (.int r)) := by
  refine Ct.mk (by decide) rfl (Nat.le_of_ble_eq_true rfl) ?_
  intro p e s m args below meth c A ls hx hb hr hml hts hown hlocks hA hE hP hD hS hl hAe
  obtain ⟨Qx, hQ⟩ : ∃ Qx : State → Prop, Qx = MQ below (QcG g (wM g m0 m1 m2 m3 m4 m5 m6 m7 m8 m9 m10 m11 m12 now kept aside ik found carried T S) (wM g m0 m1 m2 m3 m4 m5 m6 m7 m8 m9 m10 m11 m12 (now') kept aside ik found carried (T') S) (some (.int r)) s.heap.size) args s 0 0 A := ⟨_, rfl⟩
  rw [← hQ]
  have hown : s.vm.findClass RX7 = some m.cls := hown
  have hl : lv_has ls 2 [(0, .ref m0)] := hl
  have w1 := hts (.fieldLink RX7 229 "RainVaultModel" "ends" "I") (List.mem_of_getElem? (i := 1) rfl)
  have w2 := hts (.fieldLink RX7 251 "RainVaultModel" "isWrong" "Z") (List.mem_of_getElem? (i := 2) rfl)
  have w3 := hts (.fieldLink RX7 262 "RainVaultModel" "itemMany" "I") (List.mem_of_getElem? (i := 3) rfl)
  have w4 := hts (.fieldLink RX7 9 "RainVaultModel" "now" "[I") (List.mem_of_getElem? (i := 4) rfl)
  have w5 := hts (.fieldLink RX7 277 "RainVaultModel" "cisternThen" "I") (List.mem_of_getElem? (i := 5) rfl)
  have w6 := hts (.fieldLink RX7 289 "RainVaultModel" "lockThen" "I") (List.mem_of_getElem? (i := 6) rfl)
  have w7 := hts (.fieldLink RX7 241 "RainVaultModel" "sort" "I") (List.mem_of_getElem? (i := 7) rfl)
  have w8 := hts (.fieldLink RX7 25 "RainVaultModel" "tape" "[I") (List.mem_of_getElem? (i := 8) rfl)
  have w9 := hts (.fieldLink RX7 232 "RainVaultModel" "begins" "I") (List.mem_of_getElem? (i := 9) rfl)
  have w10 := hts (.fieldLink RX7 225 "RainVaultModel" "taped" "I") (List.mem_of_getElem? (i := 10) rfl)
  have L43 : ∀ (now : Nat → Int32) (kx : Mt → Option (Int32 × (Nat → Int32) × Mt)) (k : Nat) (T : Mt) (H : Heap) (locs : List Loc) (ls : Array Slot), fX7_text_L43 kx k T = some (r, now', T') → va_P g.1 vwK (wM g m0 m1 m2 m3 m4 m5 m6 m7 m8 m9 m10 m11 m12 now kept aside ik found carried T S) H → va_D A (wM g m0 m1 m2 m3 m4 m5 m6 m7 m8 m9 m10 m11 m12 now kept aside ik found carried T S) → va_S A s.heap H locs → lv_has ls 2 [(0, .ref m0)] → (∀ (T : Mt) (H : Heap) (locs : List Loc) (ls : Array Slot), kx T = some (r, now', T') → va_P g.1 vwK (wM g m0 m1 m2 m3 m4 m5 m6 m7 m8 m9 m10 m11 m12 now kept aside ik found carried T S) H → va_D A (wM g m0 m1 m2 m3 m4 m5 m6 m7 m8 m9 m10 m11 m12 now kept aside ik found carried T S) → va_S A s.heap H locs → lv_has ls 2 [(0, .ref m0)] → W p l e (rmm 10 317) s m args below meth c H locs 0 0 Qx (F0 m 84 ls [])) → W p l e (rmm 10 317) s m args below meth c H locs 0 0 Qx (F0 m 43 ls []) := by
    intro now kx k
    induction k with
    | zero => intro T H locs ls hf; exact nomatch (show (none : Option (Int32 × (Nat → Int32) × Mt)) = some _ from hf)
    | succ k ih =>
      intro T H locs ls hf hP hD hS hl hk
      rw [fX7_text_L43] at hf
      refine lv_aload_n hx hb dX7_text_43 rfl (lv_at hl 0 rfl) ?_
      refine va_get (D := g.1) (ci := 7) (v := .int T.2.2.2.2.2.2.2.1) (C := RX7) (T := TX7) (N := 22) hx hb hts i_X7_text_X7 hown hE.1 hP 0 rfl rfl 12 (by decide) w2 (fun _ h9 => h9) rfl dX7_text_44 ?_
      refine lv_if_ne (tgt := 84) hx hb dX7_text_47 (by decide) (fun hc => ?_) (fun hc => ?_)
      · have hf := if_f hf hc
        exact hk _ _ _ _  hf hP hD hS (lv_sub hl [0] rfl)
      · have hf := if_t hf hc
        refine lv_aload_n hx hb dX7_text_50 rfl (lv_at hl 0 rfl) ?_
        refine va_get (D := g.1) (ci := 7) (v := .int T.2.2.2.2.2.1) (C := RX7) (T := TX7) (N := 22) hx hb hts i_X7_text_X7 hown hE.1 hP 0 rfl rfl 10 (by decide) w7 (fun _ h9 => h9) rfl dX7_text_51 ?_
        refine lv_iconst (v := (3 : Int32)) hx hb dX7_text_54 (by decide) ?_
        refine lv_icmp_ne (tgt := 84) hx hb dX7_text_55 (by decide) (fun hc => ?_) (fun hc => ?_)
        · have hf := if_f hf hc
          exact hk _ _ _ _  hf hP hD hS (lv_sub hl [0] rfl)
        · have hf := if_t hf hc
          refine lv_aload_n hx hb dX7_text_58 rfl (lv_at hl 0 rfl) ?_
          refine va_get (D := g.1) (ci := 7) (v := .ref m6) (C := RX7) (T := TX7) (N := 22) hx hb hts i_X7_text_X7 hown hE.1 hP 0 rfl rfl 6 (by decide) w8 (fun _ h9 => h9) rfl dX7_text_59 ?_
          refine lv_aload_n hx hb dX7_text_62 rfl (lv_at hl 0 rfl) ?_
          refine va_get (D := g.1) (ci := 7) (v := .int T.2.2.2.1) (C := RX7) (T := TX7) (N := 22) hx hb hts i_X7_text_X7 hown hE.1 hP 0 rfl rfl 8 (by decide) w9 (fun _ h9 => h9) rfl dX7_text_63 ?_
          obtain ⟨x108, ex, hin, hf⟩ := rd_s hf
          refine st_iald (f := T.1) hx hb hE.1 hP 6 0 rfl rfl hin ex dX7_text_66 ?_
          refine lv_bipush (v := (59 : Int32)) hx hb dX7_text_67 (by decide) ?_
          refine lv_icmp_ne (tgt := 84) hx hb dX7_text_69 (by decide) (fun hc => ?_) (fun hc => ?_)
          · have hf := if_f hf hc
            exact hk _ _ _ _  hf hP hD hS (lv_sub hl [0] rfl)
          · have hf := if_t hf hc
            refine lv_aload_n hx hb dX7_text_72 rfl (lv_at hl 0 rfl) ?_
            refine lv_iconst (v := (1 : Int32)) hx hb dX7_text_73 (by decide) ?_
            obtain ⟨T109, hg, hf⟩ := o1_s hf
            refine Ct.callV0 (ws' := wM g m0 m1 m2 m3 m4 m5 m6 m7 m8 m9 m10 m11 m12 now kept aside ik found carried T109 S) (As := [.int (1 : Int32)]) (rest := []) (st1 := []) (c_X7_must l g m0 m1 m2 m3 m4 m5 m6 m7 m8 m9 m10 m11 m12 now kept aside ik found carried T S (1 : Int32) hg) (cwV 1 hts gX7_text_X7_must rfl rfl rfl q_X7_must ⟨Nat.le_of_ble_eq_true rfl, Nat.le_of_ble_eq_true rfl⟩) ⟨hx, hb, hml, hown, hts⟩ hE hP hD hS hA 7 0 rfl rfl rfl rfl hl.1 rfl rfl (Nat.le_of_ble_eq_true rfl) dX7_text_74 (fun H locs hP hD hS => ?_)
            refine lv_aload_n hx hb dX7_text_77 rfl (lv_at hl 0 rfl) ?_
            obtain ⟨T110, hg, hf⟩ := o1_s hf
            refine Ct.callV0 (ws' := wM g m0 m1 m2 m3 m4 m5 m6 m7 m8 m9 m10 m11 m12 now kept aside ik found carried T110 S) (As := []) (rest := []) (st1 := []) (c_X7_readItem l g m0 m1 m2 m3 m4 m5 m6 m7 m8 m9 m10 m11 m12 now kept aside ik found carried T109 S hg) (cwV 0 hts gX7_text_X7_readItem rfl rfl rfl q_X7_readItem ⟨Nat.le_of_ble_eq_true rfl, Nat.le_of_ble_eq_true rfl⟩) ⟨hx, hb, hml, hown, hts⟩ hE hP hD hS hA 7 0 rfl rfl rfl rfl hl.1 rfl rfl (Nat.le_of_ble_eq_true rfl) dX7_text_78 (fun H locs hP hD hS => ?_)
            refine lv_goto (tgt := 43) hx hb dX7_text_81 (by decide) ?_
            exact ih _ _ _ _  hf hP hD hS (lv_sub hl [0] rfl) hk
  have L121 : ∀ (T : Mt) (kx : (Nat → Int32) → Option (Int32 × (Nat → Int32) × Mt)) (k : Nat) (now : Nat → Int32) (x1 : Int32) (H : Heap) (locs : List Loc) (ls : Array Slot), fX7_text_L121 T kx k now x1 = some (r, now', T') → va_P g.1 vwK (wM g m0 m1 m2 m3 m4 m5 m6 m7 m8 m9 m10 m11 m12 now kept aside ik found carried T S) H → va_D A (wM g m0 m1 m2 m3 m4 m5 m6 m7 m8 m9 m10 m11 m12 now kept aside ik found carried T S) → va_S A s.heap H locs → lv_has ls 2 [(0, .ref m0), (1, .int x1)] → (∀ (now : Nat → Int32) (H : Heap) (locs : List Loc) (ls : Array Slot), kx now = some (r, now', T') → va_P g.1 vwK (wM g m0 m1 m2 m3 m4 m5 m6 m7 m8 m9 m10 m11 m12 now kept aside ik found carried T S) H → va_D A (wM g m0 m1 m2 m3 m4 m5 m6 m7 m8 m9 m10 m11 m12 now kept aside ik found carried T S) → va_S A s.heap H locs → lv_has ls 2 [(0, .ref m0)] → W p l e (rmm 10 317) s m args below meth c H locs 0 0 Qx (F0 m 143 ls [])) → W p l e (rmm 10 317) s m args below meth c H locs 0 0 Qx (F0 m 121 ls []) := by
    intro T kx k
    induction k with
    | zero => intro now x1 H locs ls hf; exact nomatch (show (none : Option (Int32 × (Nat → Int32) × Mt)) = some _ from hf)
    | succ k ih =>
      intro now x1 H locs ls hf hP hD hS hl hk
      rw [fX7_text_L121] at hf
      refine lv_iload_n hx hb dX7_text_121 rfl (lv_at hl 1 rfl) ?_
      refine lv_aload_n hx hb dX7_text_122 rfl (lv_at hl 0 rfl) ?_
      refine va_get (D := g.1) (ci := 7) (v := .int T.2.2.2.2.2.2.2.2.1) (C := RX7) (T := TX7) (N := 22) hx hb hts i_X7_text_X7 hown hE.1 hP 0 rfl rfl 15 (by decide) w3 (fun _ h9 => h9) rfl dX7_text_123 ?_
      refine lv_icmp_ge (tgt := 143) hx hb dX7_text_126 (by decide) (fun hc => ?_) (fun hc => ?_)
      · have hf := if_t hf hc
        exact hk _ _ _ _  hf hP hD hS (lv_sub hl [0] rfl)
      · have hf := if_f hf hc
        refine lv_aload_n hx hb dX7_text_129 rfl (lv_at hl 0 rfl) ?_
        refine lv_bipush (v := (6 : Int32)) hx hb dX7_text_130 (by decide) ?_
        refine lv_iload_n hx hb dX7_text_132 rfl (lv_at hl 1 rfl) ?_
        refine lv_imul hx hb dX7_text_133 ?_
        obtain ⟨now114, hg, hf⟩ := o1_s hf
        refine Ct.callV0 (ws' := wM g m0 m1 m2 m3 m4 m5 m6 m7 m8 m9 m10 m11 m12 now114 kept aside ik found carried T S) (As := [.int ((6 : Int32) * x1)]) (rest := []) (st1 := []) (c_X7_isSo l g m0 m1 m2 m3 m4 m5 m6 m7 m8 m9 m10 m11 m12 now kept aside ik found carried T S ((6 : Int32) * x1) hg) (cwV 1 hts gX7_text_X7_isSo rfl rfl rfl q_X7_isSo ⟨Nat.le_of_ble_eq_true rfl, Nat.le_of_ble_eq_true rfl⟩) ⟨hx, hb, hml, hown, hts⟩ hE hP hD hS hA 7 0 rfl rfl rfl rfl hl.1 rfl rfl (Nat.le_of_ble_eq_true rfl) dX7_text_134 (fun H locs hP hD hS => ?_)
        refine lv_iinc (v := (x1 + (1 : Int32))) (lv' := [(1, .int (x1 + (1 : Int32))), (0, .ref m0)]) hx hb dX7_text_137 hl (k := 1) rfl rfl (by decide) rfl (fun ls hl => ?_)
        refine lv_goto (tgt := 121) hx hb dX7_text_140 (by decide) ?_
        exact ih _ _ _ _ _  hf hP hD hS (lv_sub hl [1, 0] rfl) hk
  have J84 : ∀ (now : Nat → Int32) (T : Mt) (H : Heap) (locs : List Loc) (ls : Array Slot), fX7_text_J84 now T = some (r, now', T') → va_P g.1 vwK (wM g m0 m1 m2 m3 m4 m5 m6 m7 m8 m9 m10 m11 m12 now kept aside ik found carried T S) H → va_D A (wM g m0 m1 m2 m3 m4 m5 m6 m7 m8 m9 m10 m11 m12 now kept aside ik found carried T S) → va_S A s.heap H locs → lv_has ls 2 [(0, .ref m0)] → W p l e (rmm 10 317) s m args below meth c H locs 0 0 Qx (F0 m 84 ls []) := by
    intro now T H locs ls hf hP hD hS hl
    unfold fX7_text_J84 at hf
    refine lv_aload_n hx hb dX7_text_84 rfl (lv_at hl 0 rfl) ?_
    refine lv_aload_n hx hb dX7_text_85 rfl (lv_at hl 0 rfl) ?_
    refine va_get (D := g.1) (ci := 7) (v := .int T.2.2.2.2.2.1) (C := RX7) (T := TX7) (N := 22) hx hb hts i_X7_text_X7 hown hE.1 hP 0 rfl rfl 10 (by decide) w7 (fun _ h9 => h9) rfl dX7_text_86 ?_
    refine lv_if_ne (tgt := 96) hx hb dX7_text_89 (by decide) (fun hc => ?_) (fun hc => ?_)
    · have hf := if_f hf hc
      refine lv_iconst (v := (0 : Int32)) hx hb dX7_text_96 (by decide) ?_
      obtain ⟨T112, hg, hf⟩ := o1_s hf
      refine Ct.callV0 (ws' := wM g m0 m1 m2 m3 m4 m5 m6 m7 m8 m9 m10 m11 m12 now kept aside ik found carried T112 S) (As := [.int (0 : Int32)]) (rest := []) (st1 := []) (c_X7_must l g m0 m1 m2 m3 m4 m5 m6 m7 m8 m9 m10 m11 m12 now kept aside ik found carried T S (0 : Int32) hg) (cwV 1 hts gX7_text_X7_must rfl rfl rfl q_X7_must ⟨Nat.le_of_ble_eq_true rfl, Nat.le_of_ble_eq_true rfl⟩) ⟨hx, hb, hml, hown, hts⟩ hE hP hD hS hA 7 0 rfl rfl rfl rfl hl.1 rfl rfl (Nat.le_of_ble_eq_true rfl) dX7_text_97 (fun H locs hP hD hS => ?_)
      refine lv_aload_n hx hb dX7_text_100 rfl (lv_at hl 0 rfl) ?_
      refine lv_iconst (v := (0 : Int32)) hx hb dX7_text_101 (by decide) ?_
      refine va_put (D := g.1) (ci := 7) (v := .int (0 : Int32)) (ty := .int) (C := RX7) (T := TX7) (N := 22) hx hb hts i_X7_text_X7 tyX7 tyX7_ok nmX7 hown hE.1 hP hD hS 0 rfl rfl 7 (by decide) w10 (fun _ h9 => h9) rfl (by decide +kernel) rfl rfl (Nat.le_of_ble_eq_true rfl) dX7_text_102 (fun H locs hP hD hS => ?_)
      have hP : va_P g.1 vwK (wM g m0 m1 m2 m3 m4 m5 m6 m7 m8 m9 m10 m11 m12 now kept aside ik found carried (T112.1, T112.2.1, (0 : Int32), T112.2.2.2.1, T112.2.2.2.2.1, T112.2.2.2.2.2.1, T112.2.2.2.2.2.2.1, T112.2.2.2.2.2.2.2.1, T112.2.2.2.2.2.2.2.2.1, T112.2.2.2.2.2.2.2.2.2.1, T112.2.2.2.2.2.2.2.2.2.2) S) H := hP
      have hD : va_D A (wM g m0 m1 m2 m3 m4 m5 m6 m7 m8 m9 m10 m11 m12 now kept aside ik found carried (T112.1, T112.2.1, (0 : Int32), T112.2.2.2.1, T112.2.2.2.2.1, T112.2.2.2.2.2.1, T112.2.2.2.2.2.2.1, T112.2.2.2.2.2.2.2.1, T112.2.2.2.2.2.2.2.2.1, T112.2.2.2.2.2.2.2.2.2.1, T112.2.2.2.2.2.2.2.2.2.2) S) := hD
      refine lv_aload_n hx hb dX7_text_105 rfl (lv_at hl 0 rfl) ?_
      refine va_get (D := g.1) (ci := 7) (v := .int T112.2.2.2.2.2.2.2.1) (C := RX7) (T := TX7) (N := 22) hx hb hts i_X7_text_X7 hown hE.1 hP 0 rfl rfl 12 (by decide) w2 (fun _ h9 => h9) rfl dX7_text_106 ?_
      refine lv_if_eq (tgt := 119) hx hb dX7_text_109 (by decide) (fun hc => ?_) (fun hc => ?_)
      · have hf := if_t hf hc
        refine lv_iconst (v := (0 : Int32)) hx hb dX7_text_119 (by decide) ?_
        refine lv_istore_n (lv' := [(1, .int (0 : Int32)), (0, .ref m0)]) hx hb dX7_text_120 rfl hl (by decide) rfl (fun ls hl => ?_)
        refine L121 _ _ _ _ _ _ _ _  hf hP hD hS (lv_sub hl [1, 0] rfl) (fun now115 H locs ls hf hP hD hS hl => ?_)
        refine lv_aload_n hx hb dX7_text_143 rfl (lv_at hl 0 rfl) ?_
        refine va_get (D := g.1) (ci := 7) (v := .int T112.2.2.2.2.2.2.2.2.1) (C := RX7) (T := TX7) (N := 22) hx hb hts i_X7_text_X7 hown hE.1 hP 0 rfl rfl 15 (by decide) w3 (fun _ h9 => h9) rfl dX7_text_144 ?_
        obtain ⟨rfl, rfl, rfl⟩ := some_p3 hf
        rw [hQ]; exact Ct.iret hx hb hr hlocks hAe hP hD hS dX7_text_147
      · have hf := if_f hf hc
        refine lv_iconst (v := (-1 : Int32)) hx hb dX7_text_112 (by decide) ?_
        refine lv_aload_n hx hb dX7_text_113 rfl (lv_at hl 0 rfl) ?_
        refine va_get (D := g.1) (ci := 7) (v := .int T112.2.2.2.1) (C := RX7) (T := TX7) (N := 22) hx hb hts i_X7_text_X7 hown hE.1 hP 0 rfl rfl 8 (by decide) w9 (fun _ h9 => h9) rfl dX7_text_114 ?_
        refine lv_isub hx hb dX7_text_117 ?_
        obtain ⟨rfl, rfl, rfl⟩ := some_p3 hf
        rw [hQ]; exact Ct.iret hx hb hr hlocks hAe hP hD hS dX7_text_118
    · have hf := if_t hf hc
      refine lv_iconst (v := (1 : Int32)) hx hb dX7_text_92 (by decide) ?_
      refine lv_goto (tgt := 97) hx hb dX7_text_93 (by decide) ?_
      obtain ⟨T116, hg, hf⟩ := o1_s hf
      refine Ct.callV0 (ws' := wM g m0 m1 m2 m3 m4 m5 m6 m7 m8 m9 m10 m11 m12 now kept aside ik found carried T116 S) (As := [.int (1 : Int32)]) (rest := []) (st1 := []) (c_X7_must l g m0 m1 m2 m3 m4 m5 m6 m7 m8 m9 m10 m11 m12 now kept aside ik found carried T S (1 : Int32) hg) (cwV 1 hts gX7_text_X7_must rfl rfl rfl q_X7_must ⟨Nat.le_of_ble_eq_true rfl, Nat.le_of_ble_eq_true rfl⟩) ⟨hx, hb, hml, hown, hts⟩ hE hP hD hS hA 7 0 rfl rfl rfl rfl hl.1 rfl rfl (Nat.le_of_ble_eq_true rfl) dX7_text_97 (fun H locs hP hD hS => ?_)
      refine lv_aload_n hx hb dX7_text_100 rfl (lv_at hl 0 rfl) ?_
      refine lv_iconst (v := (0 : Int32)) hx hb dX7_text_101 (by decide) ?_
      refine va_put (D := g.1) (ci := 7) (v := .int (0 : Int32)) (ty := .int) (C := RX7) (T := TX7) (N := 22) hx hb hts i_X7_text_X7 tyX7 tyX7_ok nmX7 hown hE.1 hP hD hS 0 rfl rfl 7 (by decide) w10 (fun _ h9 => h9) rfl (by decide +kernel) rfl rfl (Nat.le_of_ble_eq_true rfl) dX7_text_102 (fun H locs hP hD hS => ?_)
      have hP : va_P g.1 vwK (wM g m0 m1 m2 m3 m4 m5 m6 m7 m8 m9 m10 m11 m12 now kept aside ik found carried (T116.1, T116.2.1, (0 : Int32), T116.2.2.2.1, T116.2.2.2.2.1, T116.2.2.2.2.2.1, T116.2.2.2.2.2.2.1, T116.2.2.2.2.2.2.2.1, T116.2.2.2.2.2.2.2.2.1, T116.2.2.2.2.2.2.2.2.2.1, T116.2.2.2.2.2.2.2.2.2.2) S) H := hP
      have hD : va_D A (wM g m0 m1 m2 m3 m4 m5 m6 m7 m8 m9 m10 m11 m12 now kept aside ik found carried (T116.1, T116.2.1, (0 : Int32), T116.2.2.2.1, T116.2.2.2.2.1, T116.2.2.2.2.2.1, T116.2.2.2.2.2.2.1, T116.2.2.2.2.2.2.2.1, T116.2.2.2.2.2.2.2.2.1, T116.2.2.2.2.2.2.2.2.2.1, T116.2.2.2.2.2.2.2.2.2.2) S) := hD
      refine lv_aload_n hx hb dX7_text_105 rfl (lv_at hl 0 rfl) ?_
      refine va_get (D := g.1) (ci := 7) (v := .int T116.2.2.2.2.2.2.2.1) (C := RX7) (T := TX7) (N := 22) hx hb hts i_X7_text_X7 hown hE.1 hP 0 rfl rfl 12 (by decide) w2 (fun _ h9 => h9) rfl dX7_text_106 ?_
      refine lv_if_eq (tgt := 119) hx hb dX7_text_109 (by decide) (fun hc => ?_) (fun hc => ?_)
      · have hf := if_t hf hc
        refine lv_iconst (v := (0 : Int32)) hx hb dX7_text_119 (by decide) ?_
        refine lv_istore_n (lv' := [(1, .int (0 : Int32)), (0, .ref m0)]) hx hb dX7_text_120 rfl hl (by decide) rfl (fun ls hl => ?_)
        refine L121 _ _ _ _ _ _ _ _  hf hP hD hS (lv_sub hl [1, 0] rfl) (fun now117 H locs ls hf hP hD hS hl => ?_)
        refine lv_aload_n hx hb dX7_text_143 rfl (lv_at hl 0 rfl) ?_
        refine va_get (D := g.1) (ci := 7) (v := .int T116.2.2.2.2.2.2.2.2.1) (C := RX7) (T := TX7) (N := 22) hx hb hts i_X7_text_X7 hown hE.1 hP 0 rfl rfl 15 (by decide) w3 (fun _ h9 => h9) rfl dX7_text_144 ?_
        obtain ⟨rfl, rfl, rfl⟩ := some_p3 hf
        rw [hQ]; exact Ct.iret hx hb hr hlocks hAe hP hD hS dX7_text_147
      · have hf := if_f hf hc
        refine lv_iconst (v := (-1 : Int32)) hx hb dX7_text_112 (by decide) ?_
        refine lv_aload_n hx hb dX7_text_113 rfl (lv_at hl 0 rfl) ?_
        refine va_get (D := g.1) (ci := 7) (v := .int T116.2.2.2.1) (C := RX7) (T := TX7) (N := 22) hx hb hts i_X7_text_X7 hown hE.1 hP 0 rfl rfl 8 (by decide) w9 (fun _ h9 => h9) rfl dX7_text_114 ?_
        refine lv_isub hx hb dX7_text_117 ?_
        obtain ⟨rfl, rfl, rfl⟩ := some_p3 hf
        rw [hQ]; exact Ct.iret hx hb hr hlocks hAe hP hD hS dX7_text_118
  unfold fX7_text at hf
  refine lv_aload_n hx hb dX7_text_0 rfl (lv_at hl 0 rfl) ?_
  refine lv_iconst (v := (0 : Int32)) hx hb dX7_text_1 (by decide) ?_
  refine va_put (D := g.1) (ci := 7) (v := .int (0 : Int32)) (ty := .int) (C := RX7) (T := TX7) (N := 22) hx hb hts i_X7_text_X7 tyX7 tyX7_ok nmX7 hown hE.1 hP hD hS 0 rfl rfl 9 (by decide) w1 (fun _ h9 => h9) rfl (by decide +kernel) rfl rfl (Nat.le_of_ble_eq_true rfl) dX7_text_2 (fun H locs hP hD hS => ?_)
  have hP : va_P g.1 vwK (wM g m0 m1 m2 m3 m4 m5 m6 m7 m8 m9 m10 m11 m12 now kept aside ik found carried (T.1, T.2.1, T.2.2.1, T.2.2.2.1, (0 : Int32), T.2.2.2.2.2.1, T.2.2.2.2.2.2.1, T.2.2.2.2.2.2.2.1, T.2.2.2.2.2.2.2.2.1, T.2.2.2.2.2.2.2.2.2.1, T.2.2.2.2.2.2.2.2.2.2) S) H := hP
  have hD : va_D A (wM g m0 m1 m2 m3 m4 m5 m6 m7 m8 m9 m10 m11 m12 now kept aside ik found carried (T.1, T.2.1, T.2.2.1, T.2.2.2.1, (0 : Int32), T.2.2.2.2.2.1, T.2.2.2.2.2.2.1, T.2.2.2.2.2.2.2.1, T.2.2.2.2.2.2.2.2.1, T.2.2.2.2.2.2.2.2.2.1, T.2.2.2.2.2.2.2.2.2.2) S) := hD
  refine lv_aload_n hx hb dX7_text_5 rfl (lv_at hl 0 rfl) ?_
  refine lv_iconst (v := (0 : Int32)) hx hb dX7_text_6 (by decide) ?_
  refine va_put (D := g.1) (ci := 7) (v := .int (0 : Int32)) (ty := .boolean) (C := RX7) (T := TX7) (N := 22) hx hb hts i_X7_text_X7 tyX7 tyX7_ok nmX7 hown hE.1 hP hD hS 0 rfl rfl 12 (by decide) w2 (fun _ h9 => h9) rfl (by decide +kernel) rfl rfl (Nat.le_of_ble_eq_true rfl) dX7_text_7 (fun H locs hP hD hS => ?_)
  have hP : va_P g.1 vwK (wM g m0 m1 m2 m3 m4 m5 m6 m7 m8 m9 m10 m11 m12 now kept aside ik found carried (T.1, T.2.1, T.2.2.1, T.2.2.2.1, (0 : Int32), T.2.2.2.2.2.1, T.2.2.2.2.2.2.1, (0 : Int32), T.2.2.2.2.2.2.2.2.1, T.2.2.2.2.2.2.2.2.2.1, T.2.2.2.2.2.2.2.2.2.2) S) H := hP
  have hD : va_D A (wM g m0 m1 m2 m3 m4 m5 m6 m7 m8 m9 m10 m11 m12 now kept aside ik found carried (T.1, T.2.1, T.2.2.1, T.2.2.2.1, (0 : Int32), T.2.2.2.2.2.1, T.2.2.2.2.2.2.1, (0 : Int32), T.2.2.2.2.2.2.2.2.1, T.2.2.2.2.2.2.2.2.2.1, T.2.2.2.2.2.2.2.2.2.2) S) := hD
  refine lv_aload_n hx hb dX7_text_10 rfl (lv_at hl 0 rfl) ?_
  refine lv_iconst (v := (0 : Int32)) hx hb dX7_text_11 (by decide) ?_
  refine va_put (D := g.1) (ci := 7) (v := .int (0 : Int32)) (ty := .int) (C := RX7) (T := TX7) (N := 22) hx hb hts i_X7_text_X7 tyX7 tyX7_ok nmX7 hown hE.1 hP hD hS 0 rfl rfl 15 (by decide) w3 (fun _ h9 => h9) rfl (by decide +kernel) rfl rfl (Nat.le_of_ble_eq_true rfl) dX7_text_12 (fun H locs hP hD hS => ?_)
  have hP : va_P g.1 vwK (wM g m0 m1 m2 m3 m4 m5 m6 m7 m8 m9 m10 m11 m12 now kept aside ik found carried (T.1, T.2.1, T.2.2.1, T.2.2.2.1, (0 : Int32), T.2.2.2.2.2.1, T.2.2.2.2.2.2.1, (0 : Int32), (0 : Int32), T.2.2.2.2.2.2.2.2.2.1, T.2.2.2.2.2.2.2.2.2.2) S) H := hP
  have hD : va_D A (wM g m0 m1 m2 m3 m4 m5 m6 m7 m8 m9 m10 m11 m12 now kept aside ik found carried (T.1, T.2.1, T.2.2.1, T.2.2.2.1, (0 : Int32), T.2.2.2.2.2.1, T.2.2.2.2.2.2.1, (0 : Int32), (0 : Int32), T.2.2.2.2.2.2.2.2.2.1, T.2.2.2.2.2.2.2.2.2.2) S) := hD
  refine lv_aload_n hx hb dX7_text_15 rfl (lv_at hl 0 rfl) ?_
  refine lv_aload_n hx hb dX7_text_16 rfl (lv_at hl 0 rfl) ?_
  refine va_get (D := g.1) (ci := 7) (v := .ref m1) (C := RX7) (T := TX7) (N := 22) hx hb hts i_X7_text_X7 hown hE.1 hP 0 rfl rfl 0 (by decide) w4 (fun _ h9 => h9) rfl dX7_text_17 ?_
  refine lv_iconst (v := (2 : Int32)) hx hb dX7_text_20 (by decide) ?_
  obtain ⟨x101, ex, hin, hf⟩ := rd_s hf
  refine st_iald (f := now) hx hb hE.1 hP 1 0 rfl rfl hin ex dX7_text_21 ?_
  refine va_put (D := g.1) (ci := 7) (v := .int x101) (ty := .int) (C := RX7) (T := TX7) (N := 22) hx hb hts i_X7_text_X7 tyX7 tyX7_ok nmX7 hown hE.1 hP hD hS 0 rfl rfl 16 (by decide) w5 (fun _ h9 => h9) rfl (by decide +kernel) rfl rfl (Nat.le_of_ble_eq_true rfl) dX7_text_22 (fun H locs hP hD hS => ?_)
  have hP : va_P g.1 vwK (wM g m0 m1 m2 m3 m4 m5 m6 m7 m8 m9 m10 m11 m12 now kept aside ik found carried (T.1, T.2.1, T.2.2.1, T.2.2.2.1, (0 : Int32), T.2.2.2.2.2.1, T.2.2.2.2.2.2.1, (0 : Int32), (0 : Int32), x101, T.2.2.2.2.2.2.2.2.2.2) S) H := hP
  have hD : va_D A (wM g m0 m1 m2 m3 m4 m5 m6 m7 m8 m9 m10 m11 m12 now kept aside ik found carried (T.1, T.2.1, T.2.2.1, T.2.2.2.1, (0 : Int32), T.2.2.2.2.2.1, T.2.2.2.2.2.2.1, (0 : Int32), (0 : Int32), x101, T.2.2.2.2.2.2.2.2.2.2) S) := hD
  refine lv_aload_n hx hb dX7_text_25 rfl (lv_at hl 0 rfl) ?_
  refine lv_aload_n hx hb dX7_text_26 rfl (lv_at hl 0 rfl) ?_
  refine va_get (D := g.1) (ci := 7) (v := .ref m1) (C := RX7) (T := TX7) (N := 22) hx hb hts i_X7_text_X7 hown hE.1 hP 0 rfl rfl 0 (by decide) w4 (fun _ h9 => h9) rfl dX7_text_27 ?_
  refine lv_iconst (v := (3 : Int32)) hx hb dX7_text_30 (by decide) ?_
  obtain ⟨x102, ex, hin, hf⟩ := rd_s hf
  refine st_iald (f := now) hx hb hE.1 hP 1 0 rfl rfl hin ex dX7_text_31 ?_
  refine va_put (D := g.1) (ci := 7) (v := .int x102) (ty := .int) (C := RX7) (T := TX7) (N := 22) hx hb hts i_X7_text_X7 tyX7 tyX7_ok nmX7 hown hE.1 hP hD hS 0 rfl rfl 17 (by decide) w6 (fun _ h9 => h9) rfl (by decide +kernel) rfl rfl (Nat.le_of_ble_eq_true rfl) dX7_text_32 (fun H locs hP hD hS => ?_)
  have hP : va_P g.1 vwK (wM g m0 m1 m2 m3 m4 m5 m6 m7 m8 m9 m10 m11 m12 now kept aside ik found carried (T.1, T.2.1, T.2.2.1, T.2.2.2.1, (0 : Int32), T.2.2.2.2.2.1, T.2.2.2.2.2.2.1, (0 : Int32), (0 : Int32), x101, x102) S) H := hP
  have hD : va_D A (wM g m0 m1 m2 m3 m4 m5 m6 m7 m8 m9 m10 m11 m12 now kept aside ik found carried (T.1, T.2.1, T.2.2.1, T.2.2.2.1, (0 : Int32), T.2.2.2.2.2.1, T.2.2.2.2.2.2.1, (0 : Int32), (0 : Int32), x101, x102) S) := hD
  refine lv_aload_n hx hb dX7_text_35 rfl (lv_at hl 0 rfl) ?_
  obtain ⟨T103, hg, hf⟩ := o1_s hf
  refine Ct.callV0 (ws' := wM g m0 m1 m2 m3 m4 m5 m6 m7 m8 m9 m10 m11 m12 now kept aside ik found carried T103 S) (As := []) (rest := []) (st1 := []) (c_X7_next l g m0 m1 m2 m3 m4 m5 m6 m7 m8 m9 m10 m11 m12 now kept aside ik found carried (T.1, T.2.1, T.2.2.1, T.2.2.2.1, (0 : Int32), T.2.2.2.2.2.1, T.2.2.2.2.2.2.1, (0 : Int32), (0 : Int32), x101, x102) S hg) (cwV 0 hts gX7_text_X7_next rfl rfl rfl q_X7_next ⟨Nat.le_of_ble_eq_true rfl, Nat.le_of_ble_eq_true rfl⟩) ⟨hx, hb, hml, hown, hts⟩ hE hP hD hS hA 7 0 rfl rfl rfl rfl hl.1 rfl rfl (Nat.le_of_ble_eq_true rfl) dX7_text_36 (fun H locs hP hD hS => ?_)
  refine lv_aload_n hx hb dX7_text_39 rfl (lv_at hl 0 rfl) ?_
  obtain ⟨T104, hg, hf⟩ := o1_s hf
  refine Ct.callV0 (ws' := wM g m0 m1 m2 m3 m4 m5 m6 m7 m8 m9 m10 m11 m12 now kept aside ik found carried T104 S) (As := []) (rest := []) (st1 := []) (c_X7_readItem l g m0 m1 m2 m3 m4 m5 m6 m7 m8 m9 m10 m11 m12 now kept aside ik found carried T103 S hg) (cwV 0 hts gX7_text_X7_readItem rfl rfl rfl q_X7_readItem ⟨Nat.le_of_ble_eq_true rfl, Nat.le_of_ble_eq_true rfl⟩) ⟨hx, hb, hml, hown, hts⟩ hE hP hD hS hA 7 0 rfl rfl rfl rfl hl.1 rfl rfl (Nat.le_of_ble_eq_true rfl) dX7_text_40 (fun H locs hP hD hS => ?_)
  refine L43 _ _ _ _ _ _ _  hf hP hD hS (lv_sub hl [0] rfl) (fun T111 H locs ls hf hP hD hS hl => ?_)
  exact J84 _ _ _ _ _  hf hP hD hS (lv_sub hl [0] rfl)
def fX7_isSpot (a1 : Int32) : Option (Int32) := o1 (fX7_within a1 (0 : Int32) (9 : Int32)) (fun x101 => nb x101 (some x101))
theorem q_X7_isSpot : yX7_isSpot.cls = RX7 ∧ yX7_isSpot.cls ≠ "java/lang/invoke/MethodHandle" ∧ yX7_isSpot.cls ≠ "java/lang/invoke/VarHandle" ∧ (parseMethodDescriptor yX7_isSpot.desc).map (fun d => d.parameters.length) = some 1 := by decide +kernel
set_option maxHeartbeats 4000000 in
set_option maxRecDepth 100000 in
theorem c_X7_isSpot (l : Launch) (g : gG) (a1 : Int32) {r : Int32} (hf : fX7_isSpot a1 = some r) : Ct l yX7_isSpot wsX7_isSpot (rmm 1 22) g (wNil g  ) (wNil g  ) [.int a1] (some (.int r)) := by
  refine Ct.mk (by decide) rfl (Nat.le_of_ble_eq_true rfl) ?_
  intro p e s m args below meth c A ls hx hb hr hml hts hown hlocks hA hE hP hD hS hl hAe
  obtain ⟨Qx, hQ⟩ : ∃ Qx : State → Prop, Qx = MQ below (QcG g (wNil g  ) (wNil g  ) (some (.int r)) s.heap.size) args s 0 0 A := ⟨_, rfl⟩
  rw [← hQ]
  have hown : s.vm.findClass RX7 = some m.cls := hown
  have hl : lv_has ls 1 [(0, .int a1)] := hl
  unfold fX7_isSpot at hf
  refine lv_iload_n hx hb dX7_isSpot_0 rfl (lv_at hl 0 rfl) ?_
  refine lv_iconst (v := (0 : Int32)) hx hb dX7_isSpot_1 (by decide) ?_
  refine lv_bipush (v := (9 : Int32)) hx hb dX7_isSpot_2 (by decide) ?_
  obtain ⟨x101, hg, hf⟩ := o1_s hf
  refine Ct.callS (ws' := wNil g  ) (As := [.int a1, .int (0 : Int32), .int (9 : Int32)]) (rest := []) (st1 := [.int x101]) (c_X7_within l g a1 (0 : Int32) (9 : Int32) hg) (va_cwS 3 hts gX7_isSpot_X7_within rfl rfl rfl q_X7_within.2 ⟨Nat.le_of_ble_eq_true rfl, Nat.le_of_ble_eq_true rfl⟩) ⟨hx, hb, hml, hown, hts⟩ hE hP hD hS hA [] rfl rfl rfl rfl rfl hl.1 rfl rfl (Nat.le_of_ble_eq_true rfl) dX7_isSpot_4 (fun H locs hP hD hS => ?_)
  obtain ⟨hn, hf⟩ := nb_s hf
  obtain rfl := Option.some.inj hf
  rw [hQ]; exact Ct.zret hx hb hr hn hlocks hAe hP hD hS dX7_isSpot_7
def fX7_hold (now : Nat → Int32) (found : Nat → Int32) (a1 : Int32) (a2 : Int32) : Option (Int32 × (Nat → Int32) × (Nat → Int32)) := o1 (fX7_isSpot a1) (fun x101 => if x101 = 0 then (o2 (fX7_finding found (-1000001 : Int32)) (fun x102 found103 => some (x102, now, found103))) else (if a2 = (-1 : Int32) then (wr now 120 ((6 : Int32) + a1) a2 (fun f104 => some ((1 : Int32), f104, found))) else (o1 (fX7_isCistern now a2) (fun x105 => if x105 = 0 then (o2 (fX7_finding found (-1000001 : Int32)) (fun x107 found108 => some (x107, now, found108))) else (wr now 120 ((6 : Int32) + a1) a2 (fun f106 => some ((1 : Int32), f106, found)))))))
theorem q_X7_hold : yX7_hold.cls = RX7 ∧ yX7_hold.cls ≠ "java/lang/invoke/MethodHandle" ∧ yX7_hold.cls ≠ "java/lang/invoke/VarHandle" ∧ (parseMethodDescriptor yX7_hold.desc).map (fun d => d.parameters.length) = some 2 := by decide +kernel
theorem i_X7_hold_X7 : ∀ w ∈ u_ws RX7 TX7 22, w ∈ wsX7_hold := fun _ h => List.mem_cons_of_mem _ (List.mem_append_right _ (h))
set_option maxHeartbeats 4000000 in
set_option maxRecDepth 100000 in
theorem c_X7_hold (l : Launch) (g : gG) (m0 m1 m2 m3 m4 m5 m6 m7 m8 m9 m10 m11 m12 : Nat) (now : Nat → Int32) (kept : Nat → Int32) (aside : Nat → Int32) (ik : Int32) (found : Nat → Int32) (carried : Nat → Int32) (T : Mt) (S : Ms) (a1 : Int32) (a2 : Int32) {r : Int32} {now' : Nat → Int32} {found' : Nat → Int32} (hf : fX7_hold now found a1 a2 = some (r, now', found')) : Ct l yX7_hold wsX7_hold (rmm 2 43) g (wM g m0 m1 m2 m3 m4 m5 m6 m7 m8 m9 m10 m11 m12 now kept aside ik found carried T S) (wM g m0 m1 m2 m3 m4 m5 m6 m7 m8 m9 m10 m11 m12 (now') kept aside ik (found') carried T S) [.ref m0, .int a1, .int a2] (some (.int r)) := by
  refine Ct.mk (by decide) rfl (Nat.le_of_ble_eq_true rfl) ?_
  intro p e s m args below meth c A ls hx hb hr hml hts hown hlocks hA hE hP hD hS hl hAe
  obtain ⟨Qx, hQ⟩ : ∃ Qx : State → Prop, Qx = MQ below (QcG g (wM g m0 m1 m2 m3 m4 m5 m6 m7 m8 m9 m10 m11 m12 now kept aside ik found carried T S) (wM g m0 m1 m2 m3 m4 m5 m6 m7 m8 m9 m10 m11 m12 (now') kept aside ik (found') carried T S) (some (.int r)) s.heap.size) args s 0 0 A := ⟨_, rfl⟩
  rw [← hQ]
  have hown : s.vm.findClass RX7 = some m.cls := hown
  have hl : lv_has ls 3 [(0, .ref m0), (1, .int a1), (2, .int a2)] := hl
  have w1 := hts (.constant RX7 63 (-1000001)) (List.mem_of_getElem? (i := 1) rfl)
  have w2 := hts (.fieldLink RX7 9 "RainVaultModel" "now" "[I") (List.mem_of_getElem? (i := 2) rfl)
  unfold fX7_hold at hf
  refine lv_iload_n hx hb dX7_hold_0 rfl (lv_at hl 1 rfl) ?_
  obtain ⟨x101, hg, hf⟩ := o1_s hf
  refine Ct.callS (ws' := wM g m0 m1 m2 m3 m4 m5 m6 m7 m8 m9 m10 m11 m12 now kept aside ik found carried T S) (As := [.int a1]) (rest := []) (st1 := [.int x101]) (c_X7_isSpot l g a1 hg) (va_cwS 1 hts gX7_hold_X7_isSpot rfl rfl rfl q_X7_isSpot.2 ⟨Nat.le_of_ble_eq_true rfl, Nat.le_of_ble_eq_true rfl⟩) ⟨hx, hb, hml, hown, hts⟩ hE hP hD hS hA [] rfl rfl rfl rfl rfl hl.1 rfl rfl (Nat.le_of_ble_eq_true rfl) dX7_hold_1 (fun H locs hP hD hS => ?_)
  refine lv_if_eq (tgt := 20) hx hb dX7_hold_4 (by decide) (fun hc => ?_) (fun hc => ?_)
  · have hf := if_t hf hc
    refine lv_aload_n hx hb dX7_hold_20 rfl (lv_at hl 0 rfl) ?_
    refine lv_ldc hx hb hown w1 dX7_hold_21 ?_
    obtain ⟨x102, found103, hg, hf⟩ := o2_s hf
    refine Ct.callV0 (ws' := wM g m0 m1 m2 m3 m4 m5 m6 m7 m8 m9 m10 m11 m12 now kept aside ik found103 carried T S) (As := [.int (-1000001 : Int32)]) (rest := []) (st1 := [.int x102]) (c_X7_finding l g m0 m1 m2 m3 m4 m5 m6 m7 m8 m9 m10 m11 m12 now kept aside ik found carried T S (-1000001 : Int32) hg) (cwV 1 hts gX7_hold_X7_finding rfl rfl rfl q_X7_finding ⟨Nat.le_of_ble_eq_true rfl, Nat.le_of_ble_eq_true rfl⟩) ⟨hx, hb, hml, hown, hts⟩ hE hP hD hS hA 7 0 rfl rfl rfl rfl hl.1 rfl rfl (Nat.le_of_ble_eq_true rfl) dX7_hold_23 (fun H locs hP hD hS => ?_)
    obtain ⟨rfl, rfl, rfl⟩ := some_p3 hf
    rw [hQ]; exact Ct.iret hx hb hr hlocks hAe hP hD hS dX7_hold_26
  · have hf := if_f hf hc
    refine lv_iload_n hx hb dX7_hold_7 rfl (lv_at hl 2 rfl) ?_
    refine lv_iconst (v := (-1 : Int32)) hx hb dX7_hold_8 (by decide) ?_
    refine lv_icmp_eq (tgt := 27) hx hb dX7_hold_9 (by decide) (fun hc => ?_) (fun hc => ?_)
    · have hf := if_t hf hc
      refine lv_aload_n hx hb dX7_hold_27 rfl (lv_at hl 0 rfl) ?_
      refine va_get (D := g.1) (ci := 7) (v := .ref m1) (C := RX7) (T := TX7) (N := 22) hx hb hts i_X7_hold_X7 hown hE.1 hP 0 rfl rfl 0 (by decide) w2 (fun _ h9 => h9) rfl dX7_hold_28 ?_
      refine lv_bipush (v := (6 : Int32)) hx hb dX7_hold_31 (by decide) ?_
      refine lv_iload_n hx hb dX7_hold_33 rfl (lv_at hl 1 rfl) ?_
      refine lv_iadd hx hb dX7_hold_34 ?_
      refine lv_iload_n hx hb dX7_hold_35 rfl (lv_at hl 2 rfl) ?_
      obtain ⟨f104, ef, hin, hf⟩ := wr_s hf
      refine st_iast (ws' := wM g m0 m1 m2 m3 m4 m5 m6 m7 m8 m9 m10 m11 m12 f104 kept aside ik found carried T S) (f := now) (f2 := f104) hx hb hE.1 hP hD hS 1 0 rfl rfl hin ef rfl dX7_hold_36 (fun H locs hP hD hS => ?_)
      refine lv_iconst (v := (1 : Int32)) hx hb dX7_hold_37 (by decide) ?_
      obtain ⟨rfl, rfl, rfl⟩ := some_p3 hf
      rw [hQ]; exact Ct.iret hx hb hr hlocks hAe hP hD hS dX7_hold_38
    · have hf := if_f hf hc
      refine lv_aload_n hx hb dX7_hold_12 rfl (lv_at hl 0 rfl) ?_
      refine lv_iload_n hx hb dX7_hold_13 rfl (lv_at hl 2 rfl) ?_
      obtain ⟨x105, hg, hf⟩ := o1_s hf
      refine Ct.callV0 (ws' := wM g m0 m1 m2 m3 m4 m5 m6 m7 m8 m9 m10 m11 m12 now kept aside ik found carried T S) (As := [.int a2]) (rest := []) (st1 := [.int x105]) (c_X7_isCistern l g m0 m1 m2 m3 m4 m5 m6 m7 m8 m9 m10 m11 m12 now kept aside ik found carried T S a2 hg) (cwV 1 hts gX7_hold_X7_isCistern rfl rfl rfl q_X7_isCistern ⟨Nat.le_of_ble_eq_true rfl, Nat.le_of_ble_eq_true rfl⟩) ⟨hx, hb, hml, hown, hts⟩ hE hP hD hS hA 7 0 rfl rfl rfl rfl hl.1 rfl rfl (Nat.le_of_ble_eq_true rfl) dX7_hold_14 (fun H locs hP hD hS => ?_)
      refine lv_if_ne (tgt := 27) hx hb dX7_hold_17 (by decide) (fun hc => ?_) (fun hc => ?_)
      · have hf := if_f hf hc
        refine lv_aload_n hx hb dX7_hold_27 rfl (lv_at hl 0 rfl) ?_
        refine va_get (D := g.1) (ci := 7) (v := .ref m1) (C := RX7) (T := TX7) (N := 22) hx hb hts i_X7_hold_X7 hown hE.1 hP 0 rfl rfl 0 (by decide) w2 (fun _ h9 => h9) rfl dX7_hold_28 ?_
        refine lv_bipush (v := (6 : Int32)) hx hb dX7_hold_31 (by decide) ?_
        refine lv_iload_n hx hb dX7_hold_33 rfl (lv_at hl 1 rfl) ?_
        refine lv_iadd hx hb dX7_hold_34 ?_
        refine lv_iload_n hx hb dX7_hold_35 rfl (lv_at hl 2 rfl) ?_
        obtain ⟨f106, ef, hin, hf⟩ := wr_s hf
        refine st_iast (ws' := wM g m0 m1 m2 m3 m4 m5 m6 m7 m8 m9 m10 m11 m12 f106 kept aside ik found carried T S) (f := now) (f2 := f106) hx hb hE.1 hP hD hS 1 0 rfl rfl hin ef rfl dX7_hold_36 (fun H locs hP hD hS => ?_)
        refine lv_iconst (v := (1 : Int32)) hx hb dX7_hold_37 (by decide) ?_
        obtain ⟨rfl, rfl, rfl⟩ := some_p3 hf
        rw [hQ]; exact Ct.iret hx hb hr hlocks hAe hP hD hS dX7_hold_38
      · have hf := if_t hf hc
        refine lv_aload_n hx hb dX7_hold_20 rfl (lv_at hl 0 rfl) ?_
        refine lv_ldc hx hb hown w1 dX7_hold_21 ?_
        obtain ⟨x107, found108, hg, hf⟩ := o2_s hf
        refine Ct.callV0 (ws' := wM g m0 m1 m2 m3 m4 m5 m6 m7 m8 m9 m10 m11 m12 now kept aside ik found108 carried T S) (As := [.int (-1000001 : Int32)]) (rest := []) (st1 := [.int x107]) (c_X7_finding l g m0 m1 m2 m3 m4 m5 m6 m7 m8 m9 m10 m11 m12 now kept aside ik found carried T S (-1000001 : Int32) hg) (cwV 1 hts gX7_hold_X7_finding rfl rfl rfl q_X7_finding ⟨Nat.le_of_ble_eq_true rfl, Nat.le_of_ble_eq_true rfl⟩) ⟨hx, hb, hml, hown, hts⟩ hE hP hD hS hA 7 0 rfl rfl rfl rfl hl.1 rfl rfl (Nat.le_of_ble_eq_true rfl) dX7_hold_23 (fun H locs hP hD hS => ?_)
        obtain ⟨rfl, rfl, rfl⟩ := some_p3 hf
        rw [hQ]; exact Ct.iret hx hb hr hlocks hAe hP hD hS dX7_hold_26
def fX7_as (now : Nat → Int32) (found : Nat → Int32) (a1 : Int32) (a2 : Int32) : Option (Int32 × (Nat → Int32)) := o1 (fX7_isSpot a1) (fun x101 => if x101 = 0 then (o2 (fX7_finding found (-1000001 : Int32)) (fun x102 found103 => some (x102, found103))) else (o1 (fX7_isKind a2) (fun x104 => if x104 = 0 then (o2 (fX7_finding found (-1000001 : Int32)) (fun x111 found112 => some (x111, found112))) else (rd now 120 ((6 : Int32) + a1) (fun x105 => if 0 ≤ x105 then (o1 (fX7_isUnder_ now x105 a2 (0 : Int32)) (fun x106 => if x106 = 0 then (o2 (fX7_finding found (-1000003 : Int32)) (fun x107 found108 => some (x107, found108))) else (some (x105, found)))) else (o2 (fX7_finding found (-1000006 : Int32)) (fun x109 found110 => some (x109, found110))))))))
theorem q_X7_as : yX7_as.cls = RX7 ∧ yX7_as.cls ≠ "java/lang/invoke/MethodHandle" ∧ yX7_as.cls ≠ "java/lang/invoke/VarHandle" ∧ (parseMethodDescriptor yX7_as.desc).map (fun d => d.parameters.length) = some 2 := by decide +kernel
theorem i_X7_as_X7 : ∀ w ∈ u_ws RX7 TX7 22, w ∈ wsX7_as := fun _ h => List.mem_cons_of_mem _ (List.mem_append_right _ (h))
set_option maxHeartbeats 4000000 in
set_option maxRecDepth 100000 in
theorem c_X7_as (l : Launch) (g : gG) (m0 m1 m2 m3 m4 m5 m6 m7 m8 m9 m10 m11 m12 : Nat) (now : Nat → Int32) (kept : Nat → Int32) (aside : Nat → Int32) (ik : Int32) (found : Nat → Int32) (carried : Nat → Int32) (T : Mt) (S : Ms) (a1 : Int32) (a2 : Int32) {r : Int32} {found' : Nat → Int32} (hf : fX7_as now found a1 a2 = some (r, found')) : Ct l yX7_as wsX7_as (rmm 3 66) g (wM g m0 m1 m2 m3 m4 m5 m6 m7 m8 m9 m10 m11 m12 now kept aside ik found carried T S) (wM g m0 m1 m2 m3 m4 m5 m6 m7 m8 m9 m10 m11 m12 now kept aside ik (found') carried T S) [.ref m0, .int a1, .int a2] (some (.int r)) := by
  refine Ct.mk (by decide) rfl (Nat.le_of_ble_eq_true rfl) ?_
  intro p e s m args below meth c A ls hx hb hr hml hts hown hlocks hA hE hP hD hS hl hAe
  obtain ⟨Qx, hQ⟩ : ∃ Qx : State → Prop, Qx = MQ below (QcG g (wM g m0 m1 m2 m3 m4 m5 m6 m7 m8 m9 m10 m11 m12 now kept aside ik found carried T S) (wM g m0 m1 m2 m3 m4 m5 m6 m7 m8 m9 m10 m11 m12 now kept aside ik (found') carried T S) (some (.int r)) s.heap.size) args s 0 0 A := ⟨_, rfl⟩
  rw [← hQ]
  have hown : s.vm.findClass RX7 = some m.cls := hown
  have hl : lv_has ls 4 [(0, .ref m0), (1, .int a1), (2, .int a2)] := hl
  have w1 := hts (.constant RX7 63 (-1000001)) (List.mem_of_getElem? (i := 1) rfl)
  have w2 := hts (.fieldLink RX7 9 "RainVaultModel" "now" "[I") (List.mem_of_getElem? (i := 2) rfl)
  have w3 := hts (.constant RX7 318 (-1000003)) (List.mem_of_getElem? (i := 4) rfl)
  have w4 := hts (.constant RX7 317 (-1000006)) (List.mem_of_getElem? (i := 3) rfl)
  unfold fX7_as at hf
  refine lv_iload_n hx hb dX7_as_0 rfl (lv_at hl 1 rfl) ?_
  obtain ⟨x101, hg, hf⟩ := o1_s hf
  refine Ct.callS (ws' := wM g m0 m1 m2 m3 m4 m5 m6 m7 m8 m9 m10 m11 m12 now kept aside ik found carried T S) (As := [.int a1]) (rest := []) (st1 := [.int x101]) (c_X7_isSpot l g a1 hg) (va_cwS 1 hts gX7_as_X7_isSpot rfl rfl rfl q_X7_isSpot.2 ⟨Nat.le_of_ble_eq_true rfl, Nat.le_of_ble_eq_true rfl⟩) ⟨hx, hb, hml, hown, hts⟩ hE hP hD hS hA [] rfl rfl rfl rfl rfl hl.1 rfl rfl (Nat.le_of_ble_eq_true rfl) dX7_as_1 (fun H locs hP hD hS => ?_)
  refine lv_if_eq (tgt := 14) hx hb dX7_as_4 (by decide) (fun hc => ?_) (fun hc => ?_)
  · have hf := if_t hf hc
    refine lv_aload_n hx hb dX7_as_14 rfl (lv_at hl 0 rfl) ?_
    refine lv_ldc hx hb hown w1 dX7_as_15 ?_
    obtain ⟨x102, found103, hg, hf⟩ := o2_s hf
    refine Ct.callV0 (ws' := wM g m0 m1 m2 m3 m4 m5 m6 m7 m8 m9 m10 m11 m12 now kept aside ik found103 carried T S) (As := [.int (-1000001 : Int32)]) (rest := []) (st1 := [.int x102]) (c_X7_finding l g m0 m1 m2 m3 m4 m5 m6 m7 m8 m9 m10 m11 m12 now kept aside ik found carried T S (-1000001 : Int32) hg) (cwV 1 hts gX7_as_X7_finding rfl rfl rfl q_X7_finding ⟨Nat.le_of_ble_eq_true rfl, Nat.le_of_ble_eq_true rfl⟩) ⟨hx, hb, hml, hown, hts⟩ hE hP hD hS hA 7 0 rfl rfl rfl rfl hl.1 rfl rfl (Nat.le_of_ble_eq_true rfl) dX7_as_17 (fun H locs hP hD hS => ?_)
    obtain ⟨rfl, rfl⟩ := some_p2 hf
    rw [hQ]; exact Ct.iret hx hb hr hlocks hAe hP hD hS dX7_as_20
  · have hf := if_f hf hc
    refine lv_iload_n hx hb dX7_as_7 rfl (lv_at hl 2 rfl) ?_
    obtain ⟨x104, hg, hf⟩ := o1_s hf
    refine Ct.callS (ws' := wM g m0 m1 m2 m3 m4 m5 m6 m7 m8 m9 m10 m11 m12 now kept aside ik found carried T S) (As := [.int a2]) (rest := []) (st1 := [.int x104]) (c_X7_isKind l g a2 hg) (va_cwS 1 hts gX7_as_X7_isKind rfl rfl rfl q_X7_isKind.2 ⟨Nat.le_of_ble_eq_true rfl, Nat.le_of_ble_eq_true rfl⟩) ⟨hx, hb, hml, hown, hts⟩ hE hP hD hS hA [] rfl rfl rfl rfl rfl hl.1 rfl rfl (Nat.le_of_ble_eq_true rfl) dX7_as_8 (fun H locs hP hD hS => ?_)
    refine lv_if_ne (tgt := 21) hx hb dX7_as_11 (by decide) (fun hc => ?_) (fun hc => ?_)
    · have hf := if_f hf hc
      refine lv_aload_n hx hb dX7_as_21 rfl (lv_at hl 0 rfl) ?_
      refine va_get (D := g.1) (ci := 7) (v := .ref m1) (C := RX7) (T := TX7) (N := 22) hx hb hts i_X7_as_X7 hown hE.1 hP 0 rfl rfl 0 (by decide) w2 (fun _ h9 => h9) rfl dX7_as_22 ?_
      refine lv_bipush (v := (6 : Int32)) hx hb dX7_as_25 (by decide) ?_
      refine lv_iload_n hx hb dX7_as_27 rfl (lv_at hl 1 rfl) ?_
      refine lv_iadd hx hb dX7_as_28 ?_
      obtain ⟨x105, ex, hin, hf⟩ := rd_s hf
      refine st_iald (f := now) hx hb hE.1 hP 1 0 rfl rfl hin ex dX7_as_29 ?_
      refine lv_istore_n (lv' := [(3, .int x105), (0, .ref m0), (1, .int a1), (2, .int a2)]) hx hb dX7_as_30 rfl hl (by decide) rfl (fun ls hl => ?_)
      refine lv_iload_n hx hb dX7_as_31 rfl (lv_at hl 0 rfl) ?_
      refine lv_if_ge (tgt := 43) hx hb dX7_as_32 (by decide) (fun hc => ?_) (fun hc => ?_)
      · have hf := if_t hf hc
        refine lv_aload_n hx hb dX7_as_43 rfl (lv_at hl 1 rfl) ?_
        refine lv_iload_n hx hb dX7_as_44 rfl (lv_at hl 0 rfl) ?_
        refine lv_iload_n hx hb dX7_as_45 rfl (lv_at hl 3 rfl) ?_
        refine lv_iconst (v := (0 : Int32)) hx hb dX7_as_46 (by decide) ?_
        obtain ⟨x106, hg, hf⟩ := o1_s hf
        refine Ct.callV0 (ws' := wM g m0 m1 m2 m3 m4 m5 m6 m7 m8 m9 m10 m11 m12 now kept aside ik found carried T S) (As := [.int x105, .int a2, .int (0 : Int32)]) (rest := []) (st1 := [.int x106]) (c_X7_isUnder_ l g m0 m1 m2 m3 m4 m5 m6 m7 m8 m9 m10 m11 m12 now kept aside ik found carried T S x105 a2 (0 : Int32) hg) (cwV 3 hts gX7_as_X7_isUnder_ rfl rfl rfl q_X7_isUnder_ ⟨Nat.le_of_ble_eq_true rfl, Nat.le_of_ble_eq_true rfl⟩) ⟨hx, hb, hml, hown, hts⟩ hE hP hD hS hA 7 0 rfl rfl rfl rfl hl.1 rfl rfl (Nat.le_of_ble_eq_true rfl) dX7_as_47 (fun H locs hP hD hS => ?_)
        refine lv_if_eq (tgt := 57) hx hb dX7_as_50 (by decide) (fun hc => ?_) (fun hc => ?_)
        · have hf := if_t hf hc
          refine lv_aload_n hx hb dX7_as_57 rfl (lv_at hl 1 rfl) ?_
          refine lv_ldcw hx hb hown w3 dX7_as_58 ?_
          obtain ⟨x107, found108, hg, hf⟩ := o2_s hf
          refine Ct.callV0 (ws' := wM g m0 m1 m2 m3 m4 m5 m6 m7 m8 m9 m10 m11 m12 now kept aside ik found108 carried T S) (As := [.int (-1000003 : Int32)]) (rest := []) (st1 := [.int x107]) (c_X7_finding l g m0 m1 m2 m3 m4 m5 m6 m7 m8 m9 m10 m11 m12 now kept aside ik found carried T S (-1000003 : Int32) hg) (cwV 1 hts gX7_as_X7_finding rfl rfl rfl q_X7_finding ⟨Nat.le_of_ble_eq_true rfl, Nat.le_of_ble_eq_true rfl⟩) ⟨hx, hb, hml, hown, hts⟩ hE hP hD hS hA 7 0 rfl rfl rfl rfl hl.1 rfl rfl (Nat.le_of_ble_eq_true rfl) dX7_as_61 (fun H locs hP hD hS => ?_)
          obtain ⟨rfl, rfl⟩ := some_p2 hf
          rw [hQ]; exact Ct.iret hx hb hr hlocks hAe hP hD hS dX7_as_64
        · have hf := if_f hf hc
          refine lv_iload_n hx hb dX7_as_53 rfl (lv_at hl 0 rfl) ?_
          refine lv_goto (tgt := 64) hx hb dX7_as_54 (by decide) ?_
          obtain ⟨rfl, rfl⟩ := some_p2 hf
          rw [hQ]; exact Ct.iret hx hb hr hlocks hAe hP hD hS dX7_as_64
      · have hf := if_f hf hc
        refine lv_aload_n hx hb dX7_as_35 rfl (lv_at hl 1 rfl) ?_
        refine lv_ldcw hx hb hown w4 dX7_as_36 ?_
        obtain ⟨x109, found110, hg, hf⟩ := o2_s hf
        refine Ct.callV0 (ws' := wM g m0 m1 m2 m3 m4 m5 m6 m7 m8 m9 m10 m11 m12 now kept aside ik found110 carried T S) (As := [.int (-1000006 : Int32)]) (rest := []) (st1 := [.int x109]) (c_X7_finding l g m0 m1 m2 m3 m4 m5 m6 m7 m8 m9 m10 m11 m12 now kept aside ik found carried T S (-1000006 : Int32) hg) (cwV 1 hts gX7_as_X7_finding rfl rfl rfl q_X7_finding ⟨Nat.le_of_ble_eq_true rfl, Nat.le_of_ble_eq_true rfl⟩) ⟨hx, hb, hml, hown, hts⟩ hE hP hD hS hA 7 0 rfl rfl rfl rfl hl.1 rfl rfl (Nat.le_of_ble_eq_true rfl) dX7_as_39 (fun H locs hP hD hS => ?_)
        obtain ⟨rfl, rfl⟩ := some_p2 hf
        rw [hQ]; exact Ct.iret hx hb hr hlocks hAe hP hD hS dX7_as_42
    · have hf := if_t hf hc
      refine lv_aload_n hx hb dX7_as_14 rfl (lv_at hl 0 rfl) ?_
      refine lv_ldc hx hb hown w1 dX7_as_15 ?_
      obtain ⟨x111, found112, hg, hf⟩ := o2_s hf
      refine Ct.callV0 (ws' := wM g m0 m1 m2 m3 m4 m5 m6 m7 m8 m9 m10 m11 m12 now kept aside ik found112 carried T S) (As := [.int (-1000001 : Int32)]) (rest := []) (st1 := [.int x111]) (c_X7_finding l g m0 m1 m2 m3 m4 m5 m6 m7 m8 m9 m10 m11 m12 now kept aside ik found carried T S (-1000001 : Int32) hg) (cwV 1 hts gX7_as_X7_finding rfl rfl rfl q_X7_finding ⟨Nat.le_of_ble_eq_true rfl, Nat.le_of_ble_eq_true rfl⟩) ⟨hx, hb, hml, hown, hts⟩ hE hP hD hS hA 7 0 rfl rfl rfl rfl hl.1 rfl rfl (Nat.le_of_ble_eq_true rfl) dX7_as_17 (fun H locs hP hD hS => ?_)
      obtain ⟨rfl, rfl⟩ := some_p2 hf
      rw [hQ]; exact Ct.iret hx hb hr hlocks hAe hP hD hS dX7_as_20
def fX7_isSheet (a1 : Int32) : Option (Int32) := o1 (fX7_within a1 (0 : Int32) (3 : Int32)) (fun x101 => nb x101 (some x101))
theorem q_X7_isSheet : yX7_isSheet.cls = RX7 ∧ yX7_isSheet.cls ≠ "java/lang/invoke/MethodHandle" ∧ yX7_isSheet.cls ≠ "java/lang/invoke/VarHandle" ∧ (parseMethodDescriptor yX7_isSheet.desc).map (fun d => d.parameters.length) = some 1 := by decide +kernel
set_option maxHeartbeats 4000000 in
set_option maxRecDepth 100000 in
theorem c_X7_isSheet (l : Launch) (g : gG) (a1 : Int32) {r : Int32} (hf : fX7_isSheet a1 = some r) : Ct l yX7_isSheet wsX7_isSheet (rmm 1 22) g (wNil g  ) (wNil g  ) [.int a1] (some (.int r)) := by
  refine Ct.mk (by decide) rfl (Nat.le_of_ble_eq_true rfl) ?_
  intro p e s m args below meth c A ls hx hb hr hml hts hown hlocks hA hE hP hD hS hl hAe
  obtain ⟨Qx, hQ⟩ : ∃ Qx : State → Prop, Qx = MQ below (QcG g (wNil g  ) (wNil g  ) (some (.int r)) s.heap.size) args s 0 0 A := ⟨_, rfl⟩
  rw [← hQ]
  have hown : s.vm.findClass RX7 = some m.cls := hown
  have hl : lv_has ls 1 [(0, .int a1)] := hl
  unfold fX7_isSheet at hf
  refine lv_iload_n hx hb dX7_isSheet_0 rfl (lv_at hl 0 rfl) ?_
  refine lv_iconst (v := (0 : Int32)) hx hb dX7_isSheet_1 (by decide) ?_
  refine lv_iconst (v := (3 : Int32)) hx hb dX7_isSheet_2 (by decide) ?_
  obtain ⟨x101, hg, hf⟩ := o1_s hf
  refine Ct.callS (ws' := wNil g  ) (As := [.int a1, .int (0 : Int32), .int (3 : Int32)]) (rest := []) (st1 := [.int x101]) (c_X7_within l g a1 (0 : Int32) (3 : Int32) hg) (va_cwS 3 hts gX7_isSheet_X7_within rfl rfl rfl q_X7_within.2 ⟨Nat.le_of_ble_eq_true rfl, Nat.le_of_ble_eq_true rfl⟩) ⟨hx, hb, hml, hown, hts⟩ hE hP hD hS hA [] rfl rfl rfl rfl rfl hl.1 rfl rfl (Nat.le_of_ble_eq_true rfl) dX7_isSheet_3 (fun H locs hP hD hS => ?_)
  obtain ⟨hn, hf⟩ := nb_s hf
  obtain rfl := Option.some.inj hf
  rw [hQ]; exact Ct.zret hx hb hr hn hlocks hAe hP hD hS dX7_isSheet_6
def fX7_cutTo (a1 : Int32) (a2 : Int32) : Option (Int32) := if a2 = (8 : Int32) then (some a1.toInt8.toInt32) else (if a2 = (16 : Int32) then (some a1.toInt16.toInt32) else (some a1))
theorem q_X7_cutTo : yX7_cutTo.cls = RX7 ∧ yX7_cutTo.cls ≠ "java/lang/invoke/MethodHandle" ∧ yX7_cutTo.cls ≠ "java/lang/invoke/VarHandle" ∧ (parseMethodDescriptor yX7_cutTo.desc).map (fun d => d.parameters.length) = some 2 := by decide +kernel
set_option maxHeartbeats 4000000 in
set_option maxRecDepth 100000 in
theorem c_X7_cutTo (l : Launch) (g : gG) (a1 : Int32) (a2 : Int32) {r : Int32} (hf : fX7_cutTo a1 a2 = some r) : Ct l yX7_cutTo wsX7_cutTo (rmm 0 0) g (wNil g  ) (wNil g  ) [.int a1, .int a2] (some (.int r)) := by
  refine Ct.mk (by decide) rfl (Nat.le_of_ble_eq_true rfl) ?_
  intro p e s m args below meth c A ls hx hb hr hml hts hown hlocks hA hE hP hD hS hl hAe
  obtain ⟨Qx, hQ⟩ : ∃ Qx : State → Prop, Qx = MQ below (QcG g (wNil g  ) (wNil g  ) (some (.int r)) s.heap.size) args s 0 0 A := ⟨_, rfl⟩
  rw [← hQ]
  have hown : s.vm.findClass RX7 = some m.cls := hown
  have hl : lv_has ls 2 [(0, .int a1), (1, .int a2)] := hl
  unfold fX7_cutTo at hf
  refine lv_iload_n hx hb dX7_cutTo_0 rfl (lv_at hl 1 rfl) ?_
  refine lv_bipush (v := (8 : Int32)) hx hb dX7_cutTo_1 (by decide) ?_
  refine lv_icmp_ne (tgt := 11) hx hb dX7_cutTo_3 (by decide) (fun hc => ?_) (fun hc => ?_)
  · have hf := if_f hf hc
    refine lv_iload_n hx hb dX7_cutTo_11 rfl (lv_at hl 1 rfl) ?_
    refine lv_bipush (v := (16 : Int32)) hx hb dX7_cutTo_12 (by decide) ?_
    refine lv_icmp_ne (tgt := 22) hx hb dX7_cutTo_14 (by decide) (fun hc => ?_) (fun hc => ?_)
    · have hf := if_f hf hc
      refine lv_iload_n hx hb dX7_cutTo_22 rfl (lv_at hl 0 rfl) ?_
      obtain rfl := Option.some.inj hf
      rw [hQ]; exact Ct.iret hx hb hr hlocks hAe hP hD hS dX7_cutTo_23
    · have hf := if_t hf hc
      refine lv_iload_n hx hb dX7_cutTo_17 rfl (lv_at hl 0 rfl) ?_
      refine lv_i2s (v := a1.toInt16.toInt32) hx hb dX7_cutTo_18 rfl ?_
      refine lv_goto (tgt := 23) hx hb dX7_cutTo_19 (by decide) ?_
      obtain rfl := Option.some.inj hf
      rw [hQ]; exact Ct.iret hx hb hr hlocks hAe hP hD hS dX7_cutTo_23
  · have hf := if_t hf hc
    refine lv_iload_n hx hb dX7_cutTo_6 rfl (lv_at hl 0 rfl) ?_
    refine lv_i2b (v := a1.toInt8.toInt32) hx hb dX7_cutTo_7 rfl ?_
    refine lv_goto (tgt := 23) hx hb dX7_cutTo_8 (by decide) ?_
    obtain rfl := Option.some.inj hf
    rw [hQ]; exact Ct.iret hx hb hr hlocks hAe hP hD hS dX7_cutTo_23
def fX7_sheet_L86 (x1 : Int32) (kx : Ms → Option (Int32 × (Nat → Int32) × Ms)) : Nat → Ms → Int32 → Option (Int32 × (Nat → Int32) × Ms)
  | 0, _, _ => none
  | k + 1, S, x4 => if (40 : Int32) ≤ x4 then (kx S) else (wr S.2.2.1 160 (((40 : Int32) * x1) + x4) (0 : Int32) (fun f107 => fX7_sheet_L86 x1 kx k (S.1, S.2.1, f107, S.2.2.2) (x4 + (1 : Int32))))
def fX7_sheet_J36 (found : Nat → Int32) (S : Ms) (x1 : Int32) (x2 : Int32) (x3 : Int32) : Option (Int32 × (Nat → Int32) × Ms) := if 0 ≤ x3 then (if x3 ≤ (40 : Int32) then (wr S.1 4 x1 x2 (fun f104 => if x2 = 0 then (wr S.2.1 4 x1 (0 : Int32) (fun f110 => fX7_sheet_L86 x1 (fun S111 => rd S111.2.1 4 x1 (fun x112 => some (x112, found, S111))) fu (f104, f110, S.2.2.1, S.2.2.2) (0 : Int32))) else (wr S.2.1 4 x1 x3 (fun f105 => fX7_sheet_L86 x1 (fun S108 => rd S108.2.1 4 x1 (fun x109 => some (x109, found, S108))) fu (f104, f105, S.2.2.1, S.2.2.2) (0 : Int32))))) else (o2 (fX7_finding found (-1000001 : Int32)) (fun x113 found114 => some (x113, found114, S)))) else (o2 (fX7_finding found (-1000007 : Int32)) (fun x115 found116 => some (x115, found116, S)))
def fX7_sheet (found : Nat → Int32) (S : Ms) (a1 : Int32) (a2 : Int32) (a3 : Int32) : Option (Int32 × (Nat → Int32) × Ms) := o1 (fX7_isSheet a1) (fun x101 => if x101 = 0 then (o2 (fX7_finding found (-1000001 : Int32)) (fun x102 found103 => some (x102, found103, S))) else (if a2 = 0 then (fX7_sheet_J36 found S a1 a2 a3) else (if a2 = (8 : Int32) then (fX7_sheet_J36 found S a1 a2 a3) else (if a2 = (16 : Int32) then (fX7_sheet_J36 found S a1 a2 a3) else (if a2 = (32 : Int32) then (fX7_sheet_J36 found S a1 a2 a3) else (o2 (fX7_finding found (-1000001 : Int32)) (fun x117 found118 => some (x117, found118, S))))))))
theorem q_X7_sheet : yX7_sheet.cls = RX7 ∧ yX7_sheet.cls ≠ "java/lang/invoke/MethodHandle" ∧ yX7_sheet.cls ≠ "java/lang/invoke/VarHandle" ∧ (parseMethodDescriptor yX7_sheet.desc).map (fun d => d.parameters.length) = some 3 := by decide +kernel
theorem i_X7_sheet_X7 : ∀ w ∈ u_ws RX7 TX7 22, w ∈ wsX7_sheet := fun _ h => List.mem_cons_of_mem _ (List.mem_append_right _ (h))
set_option maxHeartbeats 4000000 in
set_option maxRecDepth 100000 in
theorem c_X7_sheet (l : Launch) (g : gG) (m0 m1 m2 m3 m4 m5 m6 m7 m8 m9 m10 m11 m12 : Nat) (now : Nat → Int32) (kept : Nat → Int32) (aside : Nat → Int32) (ik : Int32) (found : Nat → Int32) (carried : Nat → Int32) (T : Mt) (S : Ms) (a1 : Int32) (a2 : Int32) (a3 : Int32) {r : Int32} {found' : Nat → Int32} {S' : Ms} (hf : fX7_sheet found S a1 a2 a3 = some (r, found', S')) : Ct l yX7_sheet wsX7_sheet (rmm 2 42) g (wM g m0 m1 m2 m3 m4 m5 m6 m7 m8 m9 m10 m11 m12 now kept aside ik found carried T S) (wM g m0 m1 m2 m3 m4 m5 m6 m7 m8 m9 m10 m11 m12 now kept aside ik (found') carried T (S')) [.ref m0, .int a1, .int a2, .int a3] (some (.int r)) := by
  refine Ct.mk (by decide) rfl (Nat.le_of_ble_eq_true rfl) ?_
  intro p e s m args below meth c A ls hx hb hr hml hts hown hlocks hA hE hP hD hS hl hAe
  obtain ⟨Qx, hQ⟩ : ∃ Qx : State → Prop, Qx = MQ below (QcG g (wM g m0 m1 m2 m3 m4 m5 m6 m7 m8 m9 m10 m11 m12 now kept aside ik found carried T S) (wM g m0 m1 m2 m3 m4 m5 m6 m7 m8 m9 m10 m11 m12 now kept aside ik (found') carried T (S')) (some (.int r)) s.heap.size) args s 0 0 A := ⟨_, rfl⟩
  rw [← hQ]
  have hown : s.vm.findClass RX7 = some m.cls := hown
  have hl : lv_has ls 5 [(0, .ref m0), (1, .int a1), (2, .int a2), (3, .int a3)] := hl
  have w1 := hts (.constant RX7 63 (-1000001)) (List.mem_of_getElem? (i := 1) rfl)
  have w2 := hts (.fieldLink RX7 51 "RainVaultModel" "widths" "[I") (List.mem_of_getElem? (i := 3) rfl)
  have w3 := hts (.fieldLink RX7 54 "RainVaultModel" "sizes" "[I") (List.mem_of_getElem? (i := 4) rfl)
  have w4 := hts (.fieldLink RX7 57 "RainVaultModel" "numbers" "[I") (List.mem_of_getElem? (i := 5) rfl)
  have w5 := hts (.constant RX7 322 (-1000007)) (List.mem_of_getElem? (i := 2) rfl)
  have L86 : ∀ (found : Nat → Int32) (x1 : Int32) (kx : Ms → Option (Int32 × (Nat → Int32) × Ms)) (k : Nat) (S : Ms) (x4 : Int32) (H : Heap) (locs : List Loc) (ls : Array Slot), fX7_sheet_L86 x1 kx k S x4 = some (r, found', S') → va_P g.1 vwK (wM g m0 m1 m2 m3 m4 m5 m6 m7 m8 m9 m10 m11 m12 now kept aside ik found carried T S) H → va_D A (wM g m0 m1 m2 m3 m4 m5 m6 m7 m8 m9 m10 m11 m12 now kept aside ik found carried T S) → va_S A s.heap H locs → lv_has ls 5 [(0, .ref m0), (1, .int x1), (4, .int x4)] → (∀ (S : Ms) (H : Heap) (locs : List Loc) (ls : Array Slot), kx S = some (r, found', S') → va_P g.1 vwK (wM g m0 m1 m2 m3 m4 m5 m6 m7 m8 m9 m10 m11 m12 now kept aside ik found carried T S) H → va_D A (wM g m0 m1 m2 m3 m4 m5 m6 m7 m8 m9 m10 m11 m12 now kept aside ik found carried T S) → va_S A s.heap H locs → lv_has ls 5 [(0, .ref m0), (1, .int x1)] → W p l e (rmm 2 42) s m args below meth c H locs 0 0 Qx (F0 m 112 ls [])) → W p l e (rmm 2 42) s m args below meth c H locs 0 0 Qx (F0 m 86 ls []) := by
    intro found x1 kx k
    induction k with
    | zero => intro S x4 H locs ls hf; exact nomatch (show (none : Option (Int32 × (Nat → Int32) × Ms)) = some _ from hf)
    | succ k ih =>
      intro S x4 H locs ls hf hP hD hS hl hk
      rw [fX7_sheet_L86] at hf
      refine lv_iload hx hb dX7_sheet_86 (lv_at hl 2 rfl) ?_
      refine lv_bipush (v := (40 : Int32)) hx hb dX7_sheet_88 (by decide) ?_
      refine lv_icmp_ge (tgt := 112) hx hb dX7_sheet_90 (by decide) (fun hc => ?_) (fun hc => ?_)
      · have hf := if_t hf hc
        exact hk _ _ _ _  hf hP hD hS (lv_sub hl [0, 1] rfl)
      · have hf := if_f hf hc
        refine lv_aload_n hx hb dX7_sheet_93 rfl (lv_at hl 0 rfl) ?_
        refine va_get (D := g.1) (ci := 7) (v := .ref m11) (C := RX7) (T := TX7) (N := 22) hx hb hts i_X7_sheet_X7 hown hE.1 hP 0 rfl rfl 20 (by decide) w4 (fun _ h9 => h9) rfl dX7_sheet_94 ?_
        refine lv_bipush (v := (40 : Int32)) hx hb dX7_sheet_97 (by decide) ?_
        refine lv_iload_n hx hb dX7_sheet_99 rfl (lv_at hl 1 rfl) ?_
        refine lv_imul hx hb dX7_sheet_100 ?_
        refine lv_iload hx hb dX7_sheet_101 (lv_at hl 2 rfl) ?_
        refine lv_iadd hx hb dX7_sheet_103 ?_
        refine lv_iconst (v := (0 : Int32)) hx hb dX7_sheet_104 (by decide) ?_
        obtain ⟨f107, ef, hin, hf⟩ := wr_s hf
        refine st_iast (ws' := wM g m0 m1 m2 m3 m4 m5 m6 m7 m8 m9 m10 m11 m12 now kept aside ik found carried T (S.1, S.2.1, f107, S.2.2.2)) (f := S.2.2.1) (f2 := f107) hx hb hE.1 hP hD hS 11 0 rfl rfl hin ef rfl dX7_sheet_105 (fun H locs hP hD hS => ?_)
        refine lv_iinc (v := (x4 + (1 : Int32))) (lv' := [(4, .int (x4 + (1 : Int32))), (0, .ref m0), (1, .int x1)]) hx hb dX7_sheet_106 hl (k := 2) rfl rfl (by decide) rfl (fun ls hl => ?_)
        refine lv_goto (tgt := 86) hx hb dX7_sheet_109 (by decide) ?_
        exact ih _ _ _ _ _  hf hP hD hS (lv_sub hl [1, 2, 0] rfl) hk
  have J36 : ∀ (found : Nat → Int32) (S : Ms) (x1 : Int32) (x2 : Int32) (x3 : Int32) (H : Heap) (locs : List Loc) (ls : Array Slot), fX7_sheet_J36 found S x1 x2 x3 = some (r, found', S') → va_P g.1 vwK (wM g m0 m1 m2 m3 m4 m5 m6 m7 m8 m9 m10 m11 m12 now kept aside ik found carried T S) H → va_D A (wM g m0 m1 m2 m3 m4 m5 m6 m7 m8 m9 m10 m11 m12 now kept aside ik found carried T S) → va_S A s.heap H locs → lv_has ls 5 [(0, .ref m0), (1, .int x1), (2, .int x2), (3, .int x3)] → W p l e (rmm 2 42) s m args below meth c H locs 0 0 Qx (F0 m 36 ls []) := by
    intro found S x1 x2 x3 H locs ls hf hP hD hS hl
    unfold fX7_sheet_J36 at hf
    refine lv_iload_n hx hb dX7_sheet_36 rfl (lv_at hl 3 rfl) ?_
    refine lv_if_ge (tgt := 48) hx hb dX7_sheet_37 (by decide) (fun hc => ?_) (fun hc => ?_)
    · have hf := if_t hf hc
      refine lv_iload_n hx hb dX7_sheet_48 rfl (lv_at hl 3 rfl) ?_
      refine lv_bipush (v := (40 : Int32)) hx hb dX7_sheet_49 (by decide) ?_
      refine lv_icmp_le (tgt := 61) hx hb dX7_sheet_51 (by decide) (fun hc => ?_) (fun hc => ?_)
      · have hf := if_t hf hc
        refine lv_aload_n hx hb dX7_sheet_61 rfl (lv_at hl 0 rfl) ?_
        refine va_get (D := g.1) (ci := 7) (v := .ref m9) (C := RX7) (T := TX7) (N := 22) hx hb hts i_X7_sheet_X7 hown hE.1 hP 0 rfl rfl 18 (by decide) w2 (fun _ h9 => h9) rfl dX7_sheet_62 ?_
        refine lv_iload_n hx hb dX7_sheet_65 rfl (lv_at hl 1 rfl) ?_
        refine lv_iload_n hx hb dX7_sheet_66 rfl (lv_at hl 2 rfl) ?_
        obtain ⟨f104, ef, hin, hf⟩ := wr_s hf
        refine st_iast (ws' := wM g m0 m1 m2 m3 m4 m5 m6 m7 m8 m9 m10 m11 m12 now kept aside ik found carried T (f104, S.2.1, S.2.2.1, S.2.2.2)) (f := S.1) (f2 := f104) hx hb hE.1 hP hD hS 9 0 rfl rfl hin ef rfl dX7_sheet_67 (fun H locs hP hD hS => ?_)
        refine lv_aload_n hx hb dX7_sheet_68 rfl (lv_at hl 0 rfl) ?_
        refine va_get (D := g.1) (ci := 7) (v := .ref m10) (C := RX7) (T := TX7) (N := 22) hx hb hts i_X7_sheet_X7 hown hE.1 hP 0 rfl rfl 19 (by decide) w3 (fun _ h9 => h9) rfl dX7_sheet_69 ?_
        refine lv_iload_n hx hb dX7_sheet_72 rfl (lv_at hl 1 rfl) ?_
        refine lv_iload_n hx hb dX7_sheet_73 rfl (lv_at hl 2 rfl) ?_
        refine lv_if_ne (tgt := 81) hx hb dX7_sheet_74 (by decide) (fun hc => ?_) (fun hc => ?_)
        · have hf := if_f hf hc
          refine lv_iload_n hx hb dX7_sheet_81 rfl (lv_at hl 3 rfl) ?_
          obtain ⟨f105, ef, hin, hf⟩ := wr_s hf
          refine st_iast (ws' := wM g m0 m1 m2 m3 m4 m5 m6 m7 m8 m9 m10 m11 m12 now kept aside ik found carried T (f104, f105, S.2.2.1, S.2.2.2)) (f := S.2.1) (f2 := f105) hx hb hE.1 hP hD hS 10 0 rfl rfl hin ef rfl dX7_sheet_82 (fun H locs hP hD hS => ?_)
          refine lv_iconst (v := (0 : Int32)) hx hb dX7_sheet_83 (by decide) ?_
          refine lv_istore (lv' := [(4, .int (0 : Int32)), (0, .ref m0), (1, .int x1), (2, .int x2), (3, .int x3)]) hx hb dX7_sheet_84 hl (by decide) rfl (fun ls hl => ?_)
          refine L86 _ _ _ _ _ _ _ _ _  hf hP hD hS (lv_sub hl [1, 2, 0] rfl) (fun S108 H locs ls hf hP hD hS hl => ?_)
          refine lv_aload_n hx hb dX7_sheet_112 rfl (lv_at hl 0 rfl) ?_
          refine va_get (D := g.1) (ci := 7) (v := .ref m10) (C := RX7) (T := TX7) (N := 22) hx hb hts i_X7_sheet_X7 hown hE.1 hP 0 rfl rfl 19 (by decide) w3 (fun _ h9 => h9) rfl dX7_sheet_113 ?_
          refine lv_iload_n hx hb dX7_sheet_116 rfl (lv_at hl 1 rfl) ?_
          obtain ⟨x109, ex, hin, hf⟩ := rd_s hf
          refine st_iald (f := S108.2.1) hx hb hE.1 hP 10 0 rfl rfl hin ex dX7_sheet_117 ?_
          obtain ⟨rfl, rfl, rfl⟩ := some_p3 hf
          rw [hQ]; exact Ct.iret hx hb hr hlocks hAe hP hD hS dX7_sheet_118
        · have hf := if_t hf hc
          refine lv_iconst (v := (0 : Int32)) hx hb dX7_sheet_77 (by decide) ?_
          refine lv_goto (tgt := 82) hx hb dX7_sheet_78 (by decide) ?_
          obtain ⟨f110, ef, hin, hf⟩ := wr_s hf
          refine st_iast (ws' := wM g m0 m1 m2 m3 m4 m5 m6 m7 m8 m9 m10 m11 m12 now kept aside ik found carried T (f104, f110, S.2.2.1, S.2.2.2)) (f := S.2.1) (f2 := f110) hx hb hE.1 hP hD hS 10 0 rfl rfl hin ef rfl dX7_sheet_82 (fun H locs hP hD hS => ?_)
          refine lv_iconst (v := (0 : Int32)) hx hb dX7_sheet_83 (by decide) ?_
          refine lv_istore (lv' := [(4, .int (0 : Int32)), (0, .ref m0), (1, .int x1), (2, .int x2), (3, .int x3)]) hx hb dX7_sheet_84 hl (by decide) rfl (fun ls hl => ?_)
          refine L86 _ _ _ _ _ _ _ _ _  hf hP hD hS (lv_sub hl [1, 2, 0] rfl) (fun S111 H locs ls hf hP hD hS hl => ?_)
          refine lv_aload_n hx hb dX7_sheet_112 rfl (lv_at hl 0 rfl) ?_
          refine va_get (D := g.1) (ci := 7) (v := .ref m10) (C := RX7) (T := TX7) (N := 22) hx hb hts i_X7_sheet_X7 hown hE.1 hP 0 rfl rfl 19 (by decide) w3 (fun _ h9 => h9) rfl dX7_sheet_113 ?_
          refine lv_iload_n hx hb dX7_sheet_116 rfl (lv_at hl 1 rfl) ?_
          obtain ⟨x112, ex, hin, hf⟩ := rd_s hf
          refine st_iald (f := S111.2.1) hx hb hE.1 hP 10 0 rfl rfl hin ex dX7_sheet_117 ?_
          obtain ⟨rfl, rfl, rfl⟩ := some_p3 hf
          rw [hQ]; exact Ct.iret hx hb hr hlocks hAe hP hD hS dX7_sheet_118
      · have hf := if_f hf hc
        refine lv_aload_n hx hb dX7_sheet_54 rfl (lv_at hl 0 rfl) ?_
        refine lv_ldc hx hb hown w1 dX7_sheet_55 ?_
        obtain ⟨x113, found114, hg, hf⟩ := o2_s hf
        refine Ct.callV0 (ws' := wM g m0 m1 m2 m3 m4 m5 m6 m7 m8 m9 m10 m11 m12 now kept aside ik found114 carried T S) (As := [.int (-1000001 : Int32)]) (rest := []) (st1 := [.int x113]) (c_X7_finding l g m0 m1 m2 m3 m4 m5 m6 m7 m8 m9 m10 m11 m12 now kept aside ik found carried T S (-1000001 : Int32) hg) (cwV 1 hts gX7_sheet_X7_finding rfl rfl rfl q_X7_finding ⟨Nat.le_of_ble_eq_true rfl, Nat.le_of_ble_eq_true rfl⟩) ⟨hx, hb, hml, hown, hts⟩ hE hP hD hS hA 7 0 rfl rfl rfl rfl hl.1 rfl rfl (Nat.le_of_ble_eq_true rfl) dX7_sheet_57 (fun H locs hP hD hS => ?_)
        obtain ⟨rfl, rfl, rfl⟩ := some_p3 hf
        rw [hQ]; exact Ct.iret hx hb hr hlocks hAe hP hD hS dX7_sheet_60
    · have hf := if_f hf hc
      refine lv_aload_n hx hb dX7_sheet_40 rfl (lv_at hl 0 rfl) ?_
      refine lv_ldcw hx hb hown w5 dX7_sheet_41 ?_
      obtain ⟨x115, found116, hg, hf⟩ := o2_s hf
      refine Ct.callV0 (ws' := wM g m0 m1 m2 m3 m4 m5 m6 m7 m8 m9 m10 m11 m12 now kept aside ik found116 carried T S) (As := [.int (-1000007 : Int32)]) (rest := []) (st1 := [.int x115]) (c_X7_finding l g m0 m1 m2 m3 m4 m5 m6 m7 m8 m9 m10 m11 m12 now kept aside ik found carried T S (-1000007 : Int32) hg) (cwV 1 hts gX7_sheet_X7_finding rfl rfl rfl q_X7_finding ⟨Nat.le_of_ble_eq_true rfl, Nat.le_of_ble_eq_true rfl⟩) ⟨hx, hb, hml, hown, hts⟩ hE hP hD hS hA 7 0 rfl rfl rfl rfl hl.1 rfl rfl (Nat.le_of_ble_eq_true rfl) dX7_sheet_44 (fun H locs hP hD hS => ?_)
      obtain ⟨rfl, rfl, rfl⟩ := some_p3 hf
      rw [hQ]; exact Ct.iret hx hb hr hlocks hAe hP hD hS dX7_sheet_47
  unfold fX7_sheet at hf
  refine lv_iload_n hx hb dX7_sheet_0 rfl (lv_at hl 1 rfl) ?_
  obtain ⟨x101, hg, hf⟩ := o1_s hf
  refine Ct.callS (ws' := wM g m0 m1 m2 m3 m4 m5 m6 m7 m8 m9 m10 m11 m12 now kept aside ik found carried T S) (As := [.int a1]) (rest := []) (st1 := [.int x101]) (c_X7_isSheet l g a1 hg) (va_cwS 1 hts gX7_sheet_X7_isSheet rfl rfl rfl q_X7_isSheet.2 ⟨Nat.le_of_ble_eq_true rfl, Nat.le_of_ble_eq_true rfl⟩) ⟨hx, hb, hml, hown, hts⟩ hE hP hD hS hA [] rfl rfl rfl rfl rfl hl.1 rfl rfl (Nat.le_of_ble_eq_true rfl) dX7_sheet_1 (fun H locs hP hD hS => ?_)
  refine lv_if_eq (tgt := 29) hx hb dX7_sheet_4 (by decide) (fun hc => ?_) (fun hc => ?_)
  · have hf := if_t hf hc
    refine lv_aload_n hx hb dX7_sheet_29 rfl (lv_at hl 0 rfl) ?_
    refine lv_ldc hx hb hown w1 dX7_sheet_30 ?_
    obtain ⟨x102, found103, hg, hf⟩ := o2_s hf
    refine Ct.callV0 (ws' := wM g m0 m1 m2 m3 m4 m5 m6 m7 m8 m9 m10 m11 m12 now kept aside ik found103 carried T S) (As := [.int (-1000001 : Int32)]) (rest := []) (st1 := [.int x102]) (c_X7_finding l g m0 m1 m2 m3 m4 m5 m6 m7 m8 m9 m10 m11 m12 now kept aside ik found carried T S (-1000001 : Int32) hg) (cwV 1 hts gX7_sheet_X7_finding rfl rfl rfl q_X7_finding ⟨Nat.le_of_ble_eq_true rfl, Nat.le_of_ble_eq_true rfl⟩) ⟨hx, hb, hml, hown, hts⟩ hE hP hD hS hA 7 0 rfl rfl rfl rfl hl.1 rfl rfl (Nat.le_of_ble_eq_true rfl) dX7_sheet_32 (fun H locs hP hD hS => ?_)
    obtain ⟨rfl, rfl, rfl⟩ := some_p3 hf
    rw [hQ]; exact Ct.iret hx hb hr hlocks hAe hP hD hS dX7_sheet_35
  · have hf := if_f hf hc
    refine lv_iload_n hx hb dX7_sheet_7 rfl (lv_at hl 2 rfl) ?_
    refine lv_if_eq (tgt := 36) hx hb dX7_sheet_8 (by decide) (fun hc => ?_) (fun hc => ?_)
    · have hf := if_t hf hc
      exact J36 _ _ _ _ _ _ _ _  hf hP hD hS (lv_sub hl [0, 1, 2, 3] rfl)
    · have hf := if_f hf hc
      refine lv_iload_n hx hb dX7_sheet_11 rfl (lv_at hl 2 rfl) ?_
      refine lv_bipush (v := (8 : Int32)) hx hb dX7_sheet_12 (by decide) ?_
      refine lv_icmp_eq (tgt := 36) hx hb dX7_sheet_14 (by decide) (fun hc => ?_) (fun hc => ?_)
      · have hf := if_t hf hc
        exact J36 _ _ _ _ _ _ _ _  hf hP hD hS (lv_sub hl [0, 1, 2, 3] rfl)
      · have hf := if_f hf hc
        refine lv_iload_n hx hb dX7_sheet_17 rfl (lv_at hl 2 rfl) ?_
        refine lv_bipush (v := (16 : Int32)) hx hb dX7_sheet_18 (by decide) ?_
        refine lv_icmp_eq (tgt := 36) hx hb dX7_sheet_20 (by decide) (fun hc => ?_) (fun hc => ?_)
        · have hf := if_t hf hc
          exact J36 _ _ _ _ _ _ _ _  hf hP hD hS (lv_sub hl [0, 1, 2, 3] rfl)
        · have hf := if_f hf hc
          refine lv_iload_n hx hb dX7_sheet_23 rfl (lv_at hl 2 rfl) ?_
          refine lv_bipush (v := (32 : Int32)) hx hb dX7_sheet_24 (by decide) ?_
          refine lv_icmp_eq (tgt := 36) hx hb dX7_sheet_26 (by decide) (fun hc => ?_) (fun hc => ?_)
          · have hf := if_t hf hc
            exact J36 _ _ _ _ _ _ _ _  hf hP hD hS (lv_sub hl [0, 1, 2, 3] rfl)
          · have hf := if_f hf hc
            refine lv_aload_n hx hb dX7_sheet_29 rfl (lv_at hl 0 rfl) ?_
            refine lv_ldc hx hb hown w1 dX7_sheet_30 ?_
            obtain ⟨x117, found118, hg, hf⟩ := o2_s hf
            refine Ct.callV0 (ws' := wM g m0 m1 m2 m3 m4 m5 m6 m7 m8 m9 m10 m11 m12 now kept aside ik found118 carried T S) (As := [.int (-1000001 : Int32)]) (rest := []) (st1 := [.int x117]) (c_X7_finding l g m0 m1 m2 m3 m4 m5 m6 m7 m8 m9 m10 m11 m12 now kept aside ik found carried T S (-1000001 : Int32) hg) (cwV 1 hts gX7_sheet_X7_finding rfl rfl rfl q_X7_finding ⟨Nat.le_of_ble_eq_true rfl, Nat.le_of_ble_eq_true rfl⟩) ⟨hx, hb, hml, hown, hts⟩ hE hP hD hS hA 7 0 rfl rfl rfl rfl hl.1 rfl rfl (Nat.le_of_ble_eq_true rfl) dX7_sheet_32 (fun H locs hP hD hS => ?_)
            obtain ⟨rfl, rfl, rfl⟩ := some_p3 hf
            rw [hQ]; exact Ct.iret hx hb hr hlocks hAe hP hD hS dX7_sheet_35
def fX7_write (found : Nat → Int32) (S : Ms) (a1 : Int32) (a2 : Int32) (a3 : Int32) : Option (Int32 × (Nat → Int32) × Ms) := o1 (fX7_isSheet a1) (fun x101 => if x101 = 0 then (o2 (fX7_finding found (-1000001 : Int32)) (fun x112 found113 => some (x112, found113, S))) else (rd S.1 4 a1 (fun x102 => if x102 = 0 then (o2 (fX7_finding found (-1000006 : Int32)) (fun x110 found111 => some (x110, found111, S))) else (rd S.2.1 4 a1 (fun x103 => o1 (fX7_within a2 (0 : Int32) (x103 - (1 : Int32))) (fun x104 => if x104 = 0 then (o2 (fX7_finding found (-1000001 : Int32)) (fun x108 found109 => some (x108, found109, S))) else (rd S.1 4 a1 (fun x105 => o1 (fX7_cutTo a3 x105) (fun x106 => wr S.2.2.1 160 (((40 : Int32) * a1) + a2) x106 (fun f107 => some ((1 : Int32), found, (S.1, S.2.1, f107, S.2.2.2))))))))))))
theorem q_X7_write : yX7_write.cls = RX7 ∧ yX7_write.cls ≠ "java/lang/invoke/MethodHandle" ∧ yX7_write.cls ≠ "java/lang/invoke/VarHandle" ∧ (parseMethodDescriptor yX7_write.desc).map (fun d => d.parameters.length) = some 3 := by decide +kernel
theorem i_X7_write_X7 : ∀ w ∈ u_ws RX7 TX7 22, w ∈ wsX7_write := fun _ h => List.mem_cons_of_mem _ (List.mem_append_right _ (h))
set_option maxHeartbeats 4000000 in
set_option maxRecDepth 100000 in
theorem c_X7_write (l : Launch) (g : gG) (m0 m1 m2 m3 m4 m5 m6 m7 m8 m9 m10 m11 m12 : Nat) (now : Nat → Int32) (kept : Nat → Int32) (aside : Nat → Int32) (ik : Int32) (found : Nat → Int32) (carried : Nat → Int32) (T : Mt) (S : Ms) (a1 : Int32) (a2 : Int32) (a3 : Int32) {r : Int32} {found' : Nat → Int32} {S' : Ms} (hf : fX7_write found S a1 a2 a3 = some (r, found', S')) : Ct l yX7_write wsX7_write (rmm 2 42) g (wM g m0 m1 m2 m3 m4 m5 m6 m7 m8 m9 m10 m11 m12 now kept aside ik found carried T S) (wM g m0 m1 m2 m3 m4 m5 m6 m7 m8 m9 m10 m11 m12 now kept aside ik (found') carried T (S')) [.ref m0, .int a1, .int a2, .int a3] (some (.int r)) := by
  refine Ct.mk (by decide) rfl (Nat.le_of_ble_eq_true rfl) ?_
  intro p e s m args below meth c A ls hx hb hr hml hts hown hlocks hA hE hP hD hS hl hAe
  obtain ⟨Qx, hQ⟩ : ∃ Qx : State → Prop, Qx = MQ below (QcG g (wM g m0 m1 m2 m3 m4 m5 m6 m7 m8 m9 m10 m11 m12 now kept aside ik found carried T S) (wM g m0 m1 m2 m3 m4 m5 m6 m7 m8 m9 m10 m11 m12 now kept aside ik (found') carried T (S')) (some (.int r)) s.heap.size) args s 0 0 A := ⟨_, rfl⟩
  rw [← hQ]
  have hown : s.vm.findClass RX7 = some m.cls := hown
  have hl : lv_has ls 4 [(0, .ref m0), (1, .int a1), (2, .int a2), (3, .int a3)] := hl
  have w1 := hts (.fieldLink RX7 51 "RainVaultModel" "widths" "[I") (List.mem_of_getElem? (i := 2) rfl)
  have w2 := hts (.fieldLink RX7 54 "RainVaultModel" "sizes" "[I") (List.mem_of_getElem? (i := 4) rfl)
  have w3 := hts (.fieldLink RX7 57 "RainVaultModel" "numbers" "[I") (List.mem_of_getElem? (i := 5) rfl)
  have w4 := hts (.constant RX7 63 (-1000001)) (List.mem_of_getElem? (i := 1) rfl)
  have w5 := hts (.constant RX7 317 (-1000006)) (List.mem_of_getElem? (i := 3) rfl)
  unfold fX7_write at hf
  refine lv_iload_n hx hb dX7_write_0 rfl (lv_at hl 1 rfl) ?_
  obtain ⟨x101, hg, hf⟩ := o1_s hf
  refine Ct.callS (ws' := wM g m0 m1 m2 m3 m4 m5 m6 m7 m8 m9 m10 m11 m12 now kept aside ik found carried T S) (As := [.int a1]) (rest := []) (st1 := [.int x101]) (c_X7_isSheet l g a1 hg) (va_cwS 1 hts gX7_write_X7_isSheet rfl rfl rfl q_X7_isSheet.2 ⟨Nat.le_of_ble_eq_true rfl, Nat.le_of_ble_eq_true rfl⟩) ⟨hx, hb, hml, hown, hts⟩ hE hP hD hS hA [] rfl rfl rfl rfl rfl hl.1 rfl rfl (Nat.le_of_ble_eq_true rfl) dX7_write_1 (fun H locs hP hD hS => ?_)
  refine lv_if_ne (tgt := 14) hx hb dX7_write_4 (by decide) (fun hc => ?_) (fun hc => ?_)
  · have hf := if_f hf hc
    refine lv_aload_n hx hb dX7_write_14 rfl (lv_at hl 0 rfl) ?_
    refine va_get (D := g.1) (ci := 7) (v := .ref m9) (C := RX7) (T := TX7) (N := 22) hx hb hts i_X7_write_X7 hown hE.1 hP 0 rfl rfl 18 (by decide) w1 (fun _ h9 => h9) rfl dX7_write_15 ?_
    refine lv_iload_n hx hb dX7_write_18 rfl (lv_at hl 1 rfl) ?_
    obtain ⟨x102, ex, hin, hf⟩ := rd_s hf
    refine st_iald (f := S.1) hx hb hE.1 hP 9 0 rfl rfl hin ex dX7_write_19 ?_
    refine lv_if_ne (tgt := 31) hx hb dX7_write_20 (by decide) (fun hc => ?_) (fun hc => ?_)
    · have hf := if_f hf hc
      refine lv_iload_n hx hb dX7_write_31 rfl (lv_at hl 2 rfl) ?_
      refine lv_iconst (v := (0 : Int32)) hx hb dX7_write_32 (by decide) ?_
      refine lv_aload_n hx hb dX7_write_33 rfl (lv_at hl 0 rfl) ?_
      refine va_get (D := g.1) (ci := 7) (v := .ref m10) (C := RX7) (T := TX7) (N := 22) hx hb hts i_X7_write_X7 hown hE.1 hP 0 rfl rfl 19 (by decide) w2 (fun _ h9 => h9) rfl dX7_write_34 ?_
      refine lv_iload_n hx hb dX7_write_37 rfl (lv_at hl 1 rfl) ?_
      obtain ⟨x103, ex, hin, hf⟩ := rd_s hf
      refine st_iald (f := S.2.1) hx hb hE.1 hP 10 0 rfl rfl hin ex dX7_write_38 ?_
      refine lv_iconst (v := (1 : Int32)) hx hb dX7_write_39 (by decide) ?_
      refine lv_isub hx hb dX7_write_40 ?_
      obtain ⟨x104, hg, hf⟩ := o1_s hf
      refine Ct.callS (ws' := wM g m0 m1 m2 m3 m4 m5 m6 m7 m8 m9 m10 m11 m12 now kept aside ik found carried T S) (As := [.int a2, .int (0 : Int32), .int (x103 - (1 : Int32))]) (rest := []) (st1 := [.int x104]) (c_X7_within l g a2 (0 : Int32) (x103 - (1 : Int32)) hg) (va_cwS 3 hts gX7_write_X7_within rfl rfl rfl q_X7_within.2 ⟨Nat.le_of_ble_eq_true rfl, Nat.le_of_ble_eq_true rfl⟩) ⟨hx, hb, hml, hown, hts⟩ hE hP hD hS hA [] rfl rfl rfl rfl rfl hl.1 rfl rfl (Nat.le_of_ble_eq_true rfl) dX7_write_41 (fun H locs hP hD hS => ?_)
      refine lv_if_ne (tgt := 54) hx hb dX7_write_44 (by decide) (fun hc => ?_) (fun hc => ?_)
      · have hf := if_f hf hc
        refine lv_aload_n hx hb dX7_write_54 rfl (lv_at hl 0 rfl) ?_
        refine va_get (D := g.1) (ci := 7) (v := .ref m11) (C := RX7) (T := TX7) (N := 22) hx hb hts i_X7_write_X7 hown hE.1 hP 0 rfl rfl 20 (by decide) w3 (fun _ h9 => h9) rfl dX7_write_55 ?_
        refine lv_bipush (v := (40 : Int32)) hx hb dX7_write_58 (by decide) ?_
        refine lv_iload_n hx hb dX7_write_60 rfl (lv_at hl 1 rfl) ?_
        refine lv_imul hx hb dX7_write_61 ?_
        refine lv_iload_n hx hb dX7_write_62 rfl (lv_at hl 2 rfl) ?_
        refine lv_iadd hx hb dX7_write_63 ?_
        refine lv_iload_n hx hb dX7_write_64 rfl (lv_at hl 3 rfl) ?_
        refine lv_aload_n hx hb dX7_write_65 rfl (lv_at hl 0 rfl) ?_
        refine va_get (D := g.1) (ci := 7) (v := .ref m9) (C := RX7) (T := TX7) (N := 22) hx hb hts i_X7_write_X7 hown hE.1 hP 0 rfl rfl 18 (by decide) w1 (fun _ h9 => h9) rfl dX7_write_66 ?_
        refine lv_iload_n hx hb dX7_write_69 rfl (lv_at hl 1 rfl) ?_
        obtain ⟨x105, ex, hin, hf⟩ := rd_s hf
        refine st_iald (f := S.1) hx hb hE.1 hP 9 0 rfl rfl hin ex dX7_write_70 ?_
        obtain ⟨x106, hg, hf⟩ := o1_s hf
        refine Ct.callS (ws' := wM g m0 m1 m2 m3 m4 m5 m6 m7 m8 m9 m10 m11 m12 now kept aside ik found carried T S) (As := [.int a3, .int x105]) (rest := [.int (((40 : Int32) * a1) + a2), .ref m11]) (st1 := [.int x106, .int (((40 : Int32) * a1) + a2), .ref m11]) (c_X7_cutTo l g a3 x105 hg) (va_cwS 2 hts gX7_write_X7_cutTo rfl rfl rfl q_X7_cutTo.2 ⟨Nat.le_of_ble_eq_true rfl, Nat.le_of_ble_eq_true rfl⟩) ⟨hx, hb, hml, hown, hts⟩ hE hP hD hS hA [] rfl rfl rfl rfl rfl hl.1 rfl rfl (Nat.le_of_ble_eq_true rfl) dX7_write_71 (fun H locs hP hD hS => ?_)
        obtain ⟨f107, ef, hin, hf⟩ := wr_s hf
        refine st_iast (ws' := wM g m0 m1 m2 m3 m4 m5 m6 m7 m8 m9 m10 m11 m12 now kept aside ik found carried T (S.1, S.2.1, f107, S.2.2.2)) (f := S.2.2.1) (f2 := f107) hx hb hE.1 hP hD hS 11 0 rfl rfl hin ef rfl dX7_write_74 (fun H locs hP hD hS => ?_)
        refine lv_iconst (v := (1 : Int32)) hx hb dX7_write_75 (by decide) ?_
        obtain ⟨rfl, rfl, rfl⟩ := some_p3 hf
        rw [hQ]; exact Ct.iret hx hb hr hlocks hAe hP hD hS dX7_write_76
      · have hf := if_t hf hc
        refine lv_aload_n hx hb dX7_write_47 rfl (lv_at hl 0 rfl) ?_
        refine lv_ldc hx hb hown w4 dX7_write_48 ?_
        obtain ⟨x108, found109, hg, hf⟩ := o2_s hf
        refine Ct.callV0 (ws' := wM g m0 m1 m2 m3 m4 m5 m6 m7 m8 m9 m10 m11 m12 now kept aside ik found109 carried T S) (As := [.int (-1000001 : Int32)]) (rest := []) (st1 := [.int x108]) (c_X7_finding l g m0 m1 m2 m3 m4 m5 m6 m7 m8 m9 m10 m11 m12 now kept aside ik found carried T S (-1000001 : Int32) hg) (cwV 1 hts gX7_write_X7_finding rfl rfl rfl q_X7_finding ⟨Nat.le_of_ble_eq_true rfl, Nat.le_of_ble_eq_true rfl⟩) ⟨hx, hb, hml, hown, hts⟩ hE hP hD hS hA 7 0 rfl rfl rfl rfl hl.1 rfl rfl (Nat.le_of_ble_eq_true rfl) dX7_write_50 (fun H locs hP hD hS => ?_)
        obtain ⟨rfl, rfl, rfl⟩ := some_p3 hf
        rw [hQ]; exact Ct.iret hx hb hr hlocks hAe hP hD hS dX7_write_53
    · have hf := if_t hf hc
      refine lv_aload_n hx hb dX7_write_23 rfl (lv_at hl 0 rfl) ?_
      refine lv_ldcw hx hb hown w5 dX7_write_24 ?_
      obtain ⟨x110, found111, hg, hf⟩ := o2_s hf
      refine Ct.callV0 (ws' := wM g m0 m1 m2 m3 m4 m5 m6 m7 m8 m9 m10 m11 m12 now kept aside ik found111 carried T S) (As := [.int (-1000006 : Int32)]) (rest := []) (st1 := [.int x110]) (c_X7_finding l g m0 m1 m2 m3 m4 m5 m6 m7 m8 m9 m10 m11 m12 now kept aside ik found carried T S (-1000006 : Int32) hg) (cwV 1 hts gX7_write_X7_finding rfl rfl rfl q_X7_finding ⟨Nat.le_of_ble_eq_true rfl, Nat.le_of_ble_eq_true rfl⟩) ⟨hx, hb, hml, hown, hts⟩ hE hP hD hS hA 7 0 rfl rfl rfl rfl hl.1 rfl rfl (Nat.le_of_ble_eq_true rfl) dX7_write_27 (fun H locs hP hD hS => ?_)
      obtain ⟨rfl, rfl, rfl⟩ := some_p3 hf
      rw [hQ]; exact Ct.iret hx hb hr hlocks hAe hP hD hS dX7_write_30
  · have hf := if_t hf hc
    refine lv_aload_n hx hb dX7_write_7 rfl (lv_at hl 0 rfl) ?_
    refine lv_ldc hx hb hown w4 dX7_write_8 ?_
    obtain ⟨x112, found113, hg, hf⟩ := o2_s hf
    refine Ct.callV0 (ws' := wM g m0 m1 m2 m3 m4 m5 m6 m7 m8 m9 m10 m11 m12 now kept aside ik found113 carried T S) (As := [.int (-1000001 : Int32)]) (rest := []) (st1 := [.int x112]) (c_X7_finding l g m0 m1 m2 m3 m4 m5 m6 m7 m8 m9 m10 m11 m12 now kept aside ik found carried T S (-1000001 : Int32) hg) (cwV 1 hts gX7_write_X7_finding rfl rfl rfl q_X7_finding ⟨Nat.le_of_ble_eq_true rfl, Nat.le_of_ble_eq_true rfl⟩) ⟨hx, hb, hml, hown, hts⟩ hE hP hD hS hA 7 0 rfl rfl rfl rfl hl.1 rfl rfl (Nat.le_of_ble_eq_true rfl) dX7_write_10 (fun H locs hP hD hS => ?_)
    obtain ⟨rfl, rfl, rfl⟩ := some_p3 hf
    rw [hQ]; exact Ct.iret hx hb hr hlocks hAe hP hD hS dX7_write_13
def fX7_copy_L129 (x1 : Int32) (x2 : Int32) (x5 : Int32) (kx : Ms → Option (Int32 × (Nat → Int32) × Ms)) : Nat → Ms → Int32 → Option (Int32 × (Nat → Int32) × Ms)
  | 0, _, _ => none
  | k + 1, S, x6 => if x5 ≤ x6 then (kx S) else (rd S.2.2.1 160 ((((40 : Int32) * x1) + x2) + x6) (fun x123 => wr S.2.2.2 40 x6 x123 (fun f124 => fX7_copy_L129 x1 x2 x5 kx k (S.1, S.2.1, S.2.2.1, f124) (x6 + (1 : Int32)))))
def fX7_copy_L166 (x3 : Int32) (x4 : Int32) (x5 : Int32) (kx : Ms → Option (Int32 × (Nat → Int32) × Ms)) : Nat → Ms → Int32 → Option (Int32 × (Nat → Int32) × Ms)
  | 0, _, _ => none
  | k + 1, S, x6 => if x5 ≤ x6 then (kx S) else (rd S.2.2.2 40 x6 (fun x128 => wr S.2.2.1 160 ((((40 : Int32) * x3) + x4) + x6) x128 (fun f129 => fX7_copy_L166 x3 x4 x5 kx k (S.1, S.2.1, f129, S.2.2.2) (x6 + (1 : Int32)))))
def fX7_copy (found : Nat → Int32) (S : Ms) (a1 : Int32) (a2 : Int32) (a3 : Int32) (a4 : Int32) (a5 : Int32) : Option (Int32 × (Nat → Int32) × Ms) := o1 (fX7_isSheet a1) (fun x101 => if x101 = 0 then (o2 (fX7_finding found (-1000001 : Int32)) (fun x102 found103 => some (x102, found103, S))) else (o1 (fX7_isSheet a3) (fun x104 => if x104 = 0 then (o2 (fX7_finding found (-1000001 : Int32)) (fun x137 found138 => some (x137, found138, S))) else (rd S.1 4 a1 (fun x105 => if x105 = 0 then (o2 (fX7_finding found (-1000006 : Int32)) (fun x106 found107 => some (x106, found107, S))) else (rd S.1 4 a3 (fun x108 => if x108 = 0 then (o2 (fX7_finding found (-1000006 : Int32)) (fun x135 found136 => some (x135, found136, S))) else (rd S.1 4 a1 (fun x109 => rd S.1 4 a3 (fun x110 => if x109 = x110 then (if a2 < 0 then (o2 (fX7_finding found (-1000001 : Int32)) (fun x111 found112 => some (x111, found112, S))) else (if a4 < 0 then (o2 (fX7_finding found (-1000001 : Int32)) (fun x113 found114 => some (x113, found114, S))) else (if a5 < 0 then (o2 (fX7_finding found (-1000001 : Int32)) (fun x115 found116 => some (x115, found116, S))) else (rd S.2.1 4 a1 (fun x117 => if 0 < (lg_cmp (a2.toInt64 + a5.toInt64) x117.toInt64) then (o2 (fX7_finding found (-1000001 : Int32)) (fun x118 found119 => some (x118, found119, S))) else (rd S.2.1 4 a3 (fun x120 => if (lg_cmp (a4.toInt64 + a5.toInt64) x120.toInt64) ≤ 0 then (fX7_copy_L129 a1 a2 a5 (fun S125 => fX7_copy_L166 a3 a4 a5 (fun S130 => some (a5, found, S130)) fu S125 (0 : Int32)) fu S (0 : Int32)) else (o2 (fX7_finding found (-1000001 : Int32)) (fun x131 found132 => some (x131, found132, S)))))))))) else (o2 (fX7_finding found (-1000003 : Int32)) (fun x133 found134 => some (x133, found134, S)))))))))))))
theorem q_X7_copy : yX7_copy.cls = RX7 ∧ yX7_copy.cls ≠ "java/lang/invoke/MethodHandle" ∧ yX7_copy.cls ≠ "java/lang/invoke/VarHandle" ∧ (parseMethodDescriptor yX7_copy.desc).map (fun d => d.parameters.length) = some 5 := by decide +kernel
theorem i_X7_copy_X7 : ∀ w ∈ u_ws RX7 TX7 22, w ∈ wsX7_copy := fun _ h => List.mem_cons_of_mem _ (List.mem_append_right _ (h))
set_option maxHeartbeats 4000000 in
set_option maxRecDepth 100000 in
theorem c_X7_copy (l : Launch) (g : gG) (m0 m1 m2 m3 m4 m5 m6 m7 m8 m9 m10 m11 m12 : Nat) (now : Nat → Int32) (kept : Nat → Int32) (aside : Nat → Int32) (ik : Int32) (found : Nat → Int32) (carried : Nat → Int32) (T : Mt) (S : Ms) (a1 : Int32) (a2 : Int32) (a3 : Int32) (a4 : Int32) (a5 : Int32) {r : Int32} {found' : Nat → Int32} {S' : Ms} (hf : fX7_copy found S a1 a2 a3 a4 a5 = some (r, found', S')) : Ct l yX7_copy wsX7_copy (rmm 2 42) g (wM g m0 m1 m2 m3 m4 m5 m6 m7 m8 m9 m10 m11 m12 now kept aside ik found carried T S) (wM g m0 m1 m2 m3 m4 m5 m6 m7 m8 m9 m10 m11 m12 now kept aside ik (found') carried T (S')) [.ref m0, .int a1, .int a2, .int a3, .int a4, .int a5] (some (.int r)) := by
  refine Ct.mk (by decide) rfl (Nat.le_of_ble_eq_true rfl) ?_
  intro p e s m args below meth c A ls hx hb hr hml hts hown hlocks hA hE hP hD hS hl hAe
  obtain ⟨Qx, hQ⟩ : ∃ Qx : State → Prop, Qx = MQ below (QcG g (wM g m0 m1 m2 m3 m4 m5 m6 m7 m8 m9 m10 m11 m12 now kept aside ik found carried T S) (wM g m0 m1 m2 m3 m4 m5 m6 m7 m8 m9 m10 m11 m12 now kept aside ik (found') carried T (S')) (some (.int r)) s.heap.size) args s 0 0 A := ⟨_, rfl⟩
  rw [← hQ]
  have hown : s.vm.findClass RX7 = some m.cls := hown
  have hl : lv_has ls 7 [(0, .ref m0), (1, .int a1), (2, .int a2), (3, .int a3), (4, .int a4), (5, .int a5)] := hl
  have w1 := hts (.constant RX7 63 (-1000001)) (List.mem_of_getElem? (i := 1) rfl)
  have w2 := hts (.fieldLink RX7 51 "RainVaultModel" "widths" "[I") (List.mem_of_getElem? (i := 2) rfl)
  have w3 := hts (.constant RX7 317 (-1000006)) (List.mem_of_getElem? (i := 3) rfl)
  have w4 := hts (.fieldLink RX7 54 "RainVaultModel" "sizes" "[I") (List.mem_of_getElem? (i := 5) rfl)
  have w5 := hts (.fieldLink RX7 60 "RainVaultModel" "moved" "[I") (List.mem_of_getElem? (i := 6) rfl)
  have w6 := hts (.fieldLink RX7 57 "RainVaultModel" "numbers" "[I") (List.mem_of_getElem? (i := 7) rfl)
  have w7 := hts (.constant RX7 318 (-1000003)) (List.mem_of_getElem? (i := 4) rfl)
  have L129 : ∀ (found : Nat → Int32) (x1 : Int32) (x2 : Int32) (x3 : Int32) (x4 : Int32) (x5 : Int32) (kx : Ms → Option (Int32 × (Nat → Int32) × Ms)) (k : Nat) (S : Ms) (x6 : Int32) (H : Heap) (locs : List Loc) (ls : Array Slot), fX7_copy_L129 x1 x2 x5 kx k S x6 = some (r, found', S') → va_P g.1 vwK (wM g m0 m1 m2 m3 m4 m5 m6 m7 m8 m9 m10 m11 m12 now kept aside ik found carried T S) H → va_D A (wM g m0 m1 m2 m3 m4 m5 m6 m7 m8 m9 m10 m11 m12 now kept aside ik found carried T S) → va_S A s.heap H locs → lv_has ls 7 [(0, .ref m0), (1, .int x1), (2, .int x2), (3, .int x3), (4, .int x4), (5, .int x5), (6, .int x6)] → (∀ (S : Ms) (H : Heap) (locs : List Loc) (ls : Array Slot), kx S = some (r, found', S') → va_P g.1 vwK (wM g m0 m1 m2 m3 m4 m5 m6 m7 m8 m9 m10 m11 m12 now kept aside ik found carried T S) H → va_D A (wM g m0 m1 m2 m3 m4 m5 m6 m7 m8 m9 m10 m11 m12 now kept aside ik found carried T S) → va_S A s.heap H locs → lv_has ls 7 [(0, .ref m0), (3, .int x3), (4, .int x4), (5, .int x5)] → W p l e (rmm 2 42) s m args below meth c H locs 0 0 Qx (F0 m 163 ls [])) → W p l e (rmm 2 42) s m args below meth c H locs 0 0 Qx (F0 m 129 ls []) := by
    intro found x1 x2 x3 x4 x5 kx k
    induction k with
    | zero => intro S x6 H locs ls hf; exact nomatch (show (none : Option (Int32 × (Nat → Int32) × Ms)) = some _ from hf)
    | succ k ih =>
      intro S x6 H locs ls hf hP hD hS hl hk
      rw [fX7_copy_L129] at hf
      refine lv_iload hx hb dX7_copy_129 (lv_at hl 6 rfl) ?_
      refine lv_iload hx hb dX7_copy_131 (lv_at hl 5 rfl) ?_
      refine lv_icmp_ge (tgt := 163) hx hb dX7_copy_133 (by decide) (fun hc => ?_) (fun hc => ?_)
      · have hf := if_t hf hc
        exact hk _ _ _ _  hf hP hD hS (lv_sub hl [0, 3, 4, 5] rfl)
      · have hf := if_f hf hc
        refine lv_aload_n hx hb dX7_copy_136 rfl (lv_at hl 0 rfl) ?_
        refine va_get (D := g.1) (ci := 7) (v := .ref m12) (C := RX7) (T := TX7) (N := 22) hx hb hts i_X7_copy_X7 hown hE.1 hP 0 rfl rfl 21 (by decide) w5 (fun _ h9 => h9) rfl dX7_copy_137 ?_
        refine lv_iload hx hb dX7_copy_140 (lv_at hl 6 rfl) ?_
        refine lv_aload_n hx hb dX7_copy_142 rfl (lv_at hl 0 rfl) ?_
        refine va_get (D := g.1) (ci := 7) (v := .ref m11) (C := RX7) (T := TX7) (N := 22) hx hb hts i_X7_copy_X7 hown hE.1 hP 0 rfl rfl 20 (by decide) w6 (fun _ h9 => h9) rfl dX7_copy_143 ?_
        refine lv_bipush (v := (40 : Int32)) hx hb dX7_copy_146 (by decide) ?_
        refine lv_iload_n hx hb dX7_copy_148 rfl (lv_at hl 1 rfl) ?_
        refine lv_imul hx hb dX7_copy_149 ?_
        refine lv_iload_n hx hb dX7_copy_150 rfl (lv_at hl 2 rfl) ?_
        refine lv_iadd hx hb dX7_copy_151 ?_
        refine lv_iload hx hb dX7_copy_152 (lv_at hl 6 rfl) ?_
        refine lv_iadd hx hb dX7_copy_154 ?_
        obtain ⟨x123, ex, hin, hf⟩ := rd_s hf
        refine st_iald (f := S.2.2.1) hx hb hE.1 hP 11 0 rfl rfl hin ex dX7_copy_155 ?_
        obtain ⟨f124, ef, hin, hf⟩ := wr_s hf
        refine st_iast (ws' := wM g m0 m1 m2 m3 m4 m5 m6 m7 m8 m9 m10 m11 m12 now kept aside ik found carried T (S.1, S.2.1, S.2.2.1, f124)) (f := S.2.2.2) (f2 := f124) hx hb hE.1 hP hD hS 12 0 rfl rfl hin ef rfl dX7_copy_156 (fun H locs hP hD hS => ?_)
        refine lv_iinc (v := (x6 + (1 : Int32))) (lv' := [(6, .int (x6 + (1 : Int32))), (0, .ref m0), (1, .int x1), (2, .int x2), (3, .int x3), (4, .int x4), (5, .int x5)]) hx hb dX7_copy_157 hl (k := 6) rfl rfl (by decide) rfl (fun ls hl => ?_)
        refine lv_goto (tgt := 129) hx hb dX7_copy_160 (by decide) ?_
        exact ih _ _ _ _ _  hf hP hD hS (lv_sub hl [1, 2, 3, 4, 5, 6, 0] rfl) hk
  have L166 : ∀ (found : Nat → Int32) (x3 : Int32) (x4 : Int32) (x5 : Int32) (kx : Ms → Option (Int32 × (Nat → Int32) × Ms)) (k : Nat) (S : Ms) (x6 : Int32) (H : Heap) (locs : List Loc) (ls : Array Slot), fX7_copy_L166 x3 x4 x5 kx k S x6 = some (r, found', S') → va_P g.1 vwK (wM g m0 m1 m2 m3 m4 m5 m6 m7 m8 m9 m10 m11 m12 now kept aside ik found carried T S) H → va_D A (wM g m0 m1 m2 m3 m4 m5 m6 m7 m8 m9 m10 m11 m12 now kept aside ik found carried T S) → va_S A s.heap H locs → lv_has ls 7 [(0, .ref m0), (3, .int x3), (4, .int x4), (5, .int x5), (6, .int x6)] → (∀ (S : Ms) (H : Heap) (locs : List Loc) (ls : Array Slot), kx S = some (r, found', S') → va_P g.1 vwK (wM g m0 m1 m2 m3 m4 m5 m6 m7 m8 m9 m10 m11 m12 now kept aside ik found carried T S) H → va_D A (wM g m0 m1 m2 m3 m4 m5 m6 m7 m8 m9 m10 m11 m12 now kept aside ik found carried T S) → va_S A s.heap H locs → lv_has ls 7 [(5, .int x5)] → W p l e (rmm 2 42) s m args below meth c H locs 0 0 Qx (F0 m 201 ls [])) → W p l e (rmm 2 42) s m args below meth c H locs 0 0 Qx (F0 m 166 ls []) := by
    intro found x3 x4 x5 kx k
    induction k with
    | zero => intro S x6 H locs ls hf; exact nomatch (show (none : Option (Int32 × (Nat → Int32) × Ms)) = some _ from hf)
    | succ k ih =>
      intro S x6 H locs ls hf hP hD hS hl hk
      rw [fX7_copy_L166] at hf
      refine lv_iload hx hb dX7_copy_166 (lv_at hl 4 rfl) ?_
      refine lv_iload hx hb dX7_copy_168 (lv_at hl 3 rfl) ?_
      refine lv_icmp_ge (tgt := 201) hx hb dX7_copy_170 (by decide) (fun hc => ?_) (fun hc => ?_)
      · have hf := if_t hf hc
        exact hk _ _ _ _  hf hP hD hS (lv_sub hl [3] rfl)
      · have hf := if_f hf hc
        refine lv_aload_n hx hb dX7_copy_173 rfl (lv_at hl 0 rfl) ?_
        refine va_get (D := g.1) (ci := 7) (v := .ref m11) (C := RX7) (T := TX7) (N := 22) hx hb hts i_X7_copy_X7 hown hE.1 hP 0 rfl rfl 20 (by decide) w6 (fun _ h9 => h9) rfl dX7_copy_174 ?_
        refine lv_bipush (v := (40 : Int32)) hx hb dX7_copy_177 (by decide) ?_
        refine lv_iload_n hx hb dX7_copy_179 rfl (lv_at hl 1 rfl) ?_
        refine lv_imul hx hb dX7_copy_180 ?_
        refine lv_iload hx hb dX7_copy_181 (lv_at hl 2 rfl) ?_
        refine lv_iadd hx hb dX7_copy_183 ?_
        refine lv_iload hx hb dX7_copy_184 (lv_at hl 4 rfl) ?_
        refine lv_iadd hx hb dX7_copy_186 ?_
        refine lv_aload_n hx hb dX7_copy_187 rfl (lv_at hl 0 rfl) ?_
        refine va_get (D := g.1) (ci := 7) (v := .ref m12) (C := RX7) (T := TX7) (N := 22) hx hb hts i_X7_copy_X7 hown hE.1 hP 0 rfl rfl 21 (by decide) w5 (fun _ h9 => h9) rfl dX7_copy_188 ?_
        refine lv_iload hx hb dX7_copy_191 (lv_at hl 4 rfl) ?_
        obtain ⟨x128, ex, hin, hf⟩ := rd_s hf
        refine st_iald (f := S.2.2.2) hx hb hE.1 hP 12 0 rfl rfl hin ex dX7_copy_193 ?_
        obtain ⟨f129, ef, hin, hf⟩ := wr_s hf
        refine st_iast (ws' := wM g m0 m1 m2 m3 m4 m5 m6 m7 m8 m9 m10 m11 m12 now kept aside ik found carried T (S.1, S.2.1, f129, S.2.2.2)) (f := S.2.2.1) (f2 := f129) hx hb hE.1 hP hD hS 11 0 rfl rfl hin ef rfl dX7_copy_194 (fun H locs hP hD hS => ?_)
        refine lv_iinc (v := (x6 + (1 : Int32))) (lv' := [(6, .int (x6 + (1 : Int32))), (0, .ref m0), (3, .int x3), (4, .int x4), (5, .int x5)]) hx hb dX7_copy_195 hl (k := 4) rfl rfl (by decide) rfl (fun ls hl => ?_)
        refine lv_goto (tgt := 166) hx hb dX7_copy_198 (by decide) ?_
        exact ih _ _ _ _ _  hf hP hD hS (lv_sub hl [1, 2, 3, 4, 0] rfl) hk
  unfold fX7_copy at hf
  refine lv_iload_n hx hb dX7_copy_0 rfl (lv_at hl 1 rfl) ?_
  obtain ⟨x101, hg, hf⟩ := o1_s hf
  refine Ct.callS (ws' := wM g m0 m1 m2 m3 m4 m5 m6 m7 m8 m9 m10 m11 m12 now kept aside ik found carried T S) (As := [.int a1]) (rest := []) (st1 := [.int x101]) (c_X7_isSheet l g a1 hg) (va_cwS 1 hts gX7_copy_X7_isSheet rfl rfl rfl q_X7_isSheet.2 ⟨Nat.le_of_ble_eq_true rfl, Nat.le_of_ble_eq_true rfl⟩) ⟨hx, hb, hml, hown, hts⟩ hE hP hD hS hA [] rfl rfl rfl rfl rfl hl.1 rfl rfl (Nat.le_of_ble_eq_true rfl) dX7_copy_1 (fun H locs hP hD hS => ?_)
  refine lv_if_eq (tgt := 14) hx hb dX7_copy_4 (by decide) (fun hc => ?_) (fun hc => ?_)
  · have hf := if_t hf hc
    refine lv_aload_n hx hb dX7_copy_14 rfl (lv_at hl 0 rfl) ?_
    refine lv_ldc hx hb hown w1 dX7_copy_15 ?_
    obtain ⟨x102, found103, hg, hf⟩ := o2_s hf
    refine Ct.callV0 (ws' := wM g m0 m1 m2 m3 m4 m5 m6 m7 m8 m9 m10 m11 m12 now kept aside ik found103 carried T S) (As := [.int (-1000001 : Int32)]) (rest := []) (st1 := [.int x102]) (c_X7_finding l g m0 m1 m2 m3 m4 m5 m6 m7 m8 m9 m10 m11 m12 now kept aside ik found carried T S (-1000001 : Int32) hg) (cwV 1 hts gX7_copy_X7_finding rfl rfl rfl q_X7_finding ⟨Nat.le_of_ble_eq_true rfl, Nat.le_of_ble_eq_true rfl⟩) ⟨hx, hb, hml, hown, hts⟩ hE hP hD hS hA 7 0 rfl rfl rfl rfl hl.1 rfl rfl (Nat.le_of_ble_eq_true rfl) dX7_copy_17 (fun H locs hP hD hS => ?_)
    obtain ⟨rfl, rfl, rfl⟩ := some_p3 hf
    rw [hQ]; exact Ct.iret hx hb hr hlocks hAe hP hD hS dX7_copy_20
  · have hf := if_f hf hc
    refine lv_iload_n hx hb dX7_copy_7 rfl (lv_at hl 3 rfl) ?_
    obtain ⟨x104, hg, hf⟩ := o1_s hf
    refine Ct.callS (ws' := wM g m0 m1 m2 m3 m4 m5 m6 m7 m8 m9 m10 m11 m12 now kept aside ik found carried T S) (As := [.int a3]) (rest := []) (st1 := [.int x104]) (c_X7_isSheet l g a3 hg) (va_cwS 1 hts gX7_copy_X7_isSheet rfl rfl rfl q_X7_isSheet.2 ⟨Nat.le_of_ble_eq_true rfl, Nat.le_of_ble_eq_true rfl⟩) ⟨hx, hb, hml, hown, hts⟩ hE hP hD hS hA [] rfl rfl rfl rfl rfl hl.1 rfl rfl (Nat.le_of_ble_eq_true rfl) dX7_copy_8 (fun H locs hP hD hS => ?_)
    refine lv_if_ne (tgt := 21) hx hb dX7_copy_11 (by decide) (fun hc => ?_) (fun hc => ?_)
    · have hf := if_f hf hc
      refine lv_aload_n hx hb dX7_copy_21 rfl (lv_at hl 0 rfl) ?_
      refine va_get (D := g.1) (ci := 7) (v := .ref m9) (C := RX7) (T := TX7) (N := 22) hx hb hts i_X7_copy_X7 hown hE.1 hP 0 rfl rfl 18 (by decide) w2 (fun _ h9 => h9) rfl dX7_copy_22 ?_
      refine lv_iload_n hx hb dX7_copy_25 rfl (lv_at hl 1 rfl) ?_
      obtain ⟨x105, ex, hin, hf⟩ := rd_s hf
      refine st_iald (f := S.1) hx hb hE.1 hP 9 0 rfl rfl hin ex dX7_copy_26 ?_
      refine lv_if_eq (tgt := 39) hx hb dX7_copy_27 (by decide) (fun hc => ?_) (fun hc => ?_)
      · have hf := if_t hf hc
        refine lv_aload_n hx hb dX7_copy_39 rfl (lv_at hl 0 rfl) ?_
        refine lv_ldcw hx hb hown w3 dX7_copy_40 ?_
        obtain ⟨x106, found107, hg, hf⟩ := o2_s hf
        refine Ct.callV0 (ws' := wM g m0 m1 m2 m3 m4 m5 m6 m7 m8 m9 m10 m11 m12 now kept aside ik found107 carried T S) (As := [.int (-1000006 : Int32)]) (rest := []) (st1 := [.int x106]) (c_X7_finding l g m0 m1 m2 m3 m4 m5 m6 m7 m8 m9 m10 m11 m12 now kept aside ik found carried T S (-1000006 : Int32) hg) (cwV 1 hts gX7_copy_X7_finding rfl rfl rfl q_X7_finding ⟨Nat.le_of_ble_eq_true rfl, Nat.le_of_ble_eq_true rfl⟩) ⟨hx, hb, hml, hown, hts⟩ hE hP hD hS hA 7 0 rfl rfl rfl rfl hl.1 rfl rfl (Nat.le_of_ble_eq_true rfl) dX7_copy_43 (fun H locs hP hD hS => ?_)
        obtain ⟨rfl, rfl, rfl⟩ := some_p3 hf
        rw [hQ]; exact Ct.iret hx hb hr hlocks hAe hP hD hS dX7_copy_46
      · have hf := if_f hf hc
        refine lv_aload_n hx hb dX7_copy_30 rfl (lv_at hl 0 rfl) ?_
        refine va_get (D := g.1) (ci := 7) (v := .ref m9) (C := RX7) (T := TX7) (N := 22) hx hb hts i_X7_copy_X7 hown hE.1 hP 0 rfl rfl 18 (by decide) w2 (fun _ h9 => h9) rfl dX7_copy_31 ?_
        refine lv_iload_n hx hb dX7_copy_34 rfl (lv_at hl 3 rfl) ?_
        obtain ⟨x108, ex, hin, hf⟩ := rd_s hf
        refine st_iald (f := S.1) hx hb hE.1 hP 9 0 rfl rfl hin ex dX7_copy_35 ?_
        refine lv_if_ne (tgt := 47) hx hb dX7_copy_36 (by decide) (fun hc => ?_) (fun hc => ?_)
        · have hf := if_f hf hc
          refine lv_aload_n hx hb dX7_copy_47 rfl (lv_at hl 0 rfl) ?_
          refine va_get (D := g.1) (ci := 7) (v := .ref m9) (C := RX7) (T := TX7) (N := 22) hx hb hts i_X7_copy_X7 hown hE.1 hP 0 rfl rfl 18 (by decide) w2 (fun _ h9 => h9) rfl dX7_copy_48 ?_
          refine lv_iload_n hx hb dX7_copy_51 rfl (lv_at hl 1 rfl) ?_
          obtain ⟨x109, ex, hin, hf⟩ := rd_s hf
          refine st_iald (f := S.1) hx hb hE.1 hP 9 0 rfl rfl hin ex dX7_copy_52 ?_
          refine lv_aload_n hx hb dX7_copy_53 rfl (lv_at hl 0 rfl) ?_
          refine va_get (D := g.1) (ci := 7) (v := .ref m9) (C := RX7) (T := TX7) (N := 22) hx hb hts i_X7_copy_X7 hown hE.1 hP 0 rfl rfl 18 (by decide) w2 (fun _ h9 => h9) rfl dX7_copy_54 ?_
          refine lv_iload_n hx hb dX7_copy_57 rfl (lv_at hl 3 rfl) ?_
          obtain ⟨x110, ex, hin, hf⟩ := rd_s hf
          refine st_iald (f := S.1) hx hb hE.1 hP 9 0 rfl rfl hin ex dX7_copy_58 ?_
          refine lv_icmp_eq (tgt := 70) hx hb dX7_copy_59 (by decide) (fun hc => ?_) (fun hc => ?_)
          · have hf := if_t hf hc
            refine lv_iload_n hx hb dX7_copy_70 rfl (lv_at hl 2 rfl) ?_
            refine lv_if_lt (tgt := 119) hx hb dX7_copy_71 (by decide) (fun hc => ?_) (fun hc => ?_)
            · have hf := if_t hf hc
              refine lv_aload_n hx hb dX7_copy_119 rfl (lv_at hl 0 rfl) ?_
              refine lv_ldc hx hb hown w1 dX7_copy_120 ?_
              obtain ⟨x111, found112, hg, hf⟩ := o2_s hf
              refine Ct.callV0 (ws' := wM g m0 m1 m2 m3 m4 m5 m6 m7 m8 m9 m10 m11 m12 now kept aside ik found112 carried T S) (As := [.int (-1000001 : Int32)]) (rest := []) (st1 := [.int x111]) (c_X7_finding l g m0 m1 m2 m3 m4 m5 m6 m7 m8 m9 m10 m11 m12 now kept aside ik found carried T S (-1000001 : Int32) hg) (cwV 1 hts gX7_copy_X7_finding rfl rfl rfl q_X7_finding ⟨Nat.le_of_ble_eq_true rfl, Nat.le_of_ble_eq_true rfl⟩) ⟨hx, hb, hml, hown, hts⟩ hE hP hD hS hA 7 0 rfl rfl rfl rfl hl.1 rfl rfl (Nat.le_of_ble_eq_true rfl) dX7_copy_122 (fun H locs hP hD hS => ?_)
              obtain ⟨rfl, rfl, rfl⟩ := some_p3 hf
              rw [hQ]; exact Ct.iret hx hb hr hlocks hAe hP hD hS dX7_copy_125
            · have hf := if_f hf hc
              refine lv_iload hx hb dX7_copy_74 (lv_at hl 4 rfl) ?_
              refine lv_if_lt (tgt := 119) hx hb dX7_copy_76 (by decide) (fun hc => ?_) (fun hc => ?_)
              · have hf := if_t hf hc
                refine lv_aload_n hx hb dX7_copy_119 rfl (lv_at hl 0 rfl) ?_
                refine lv_ldc hx hb hown w1 dX7_copy_120 ?_
                obtain ⟨x113, found114, hg, hf⟩ := o2_s hf
                refine Ct.callV0 (ws' := wM g m0 m1 m2 m3 m4 m5 m6 m7 m8 m9 m10 m11 m12 now kept aside ik found114 carried T S) (As := [.int (-1000001 : Int32)]) (rest := []) (st1 := [.int x113]) (c_X7_finding l g m0 m1 m2 m3 m4 m5 m6 m7 m8 m9 m10 m11 m12 now kept aside ik found carried T S (-1000001 : Int32) hg) (cwV 1 hts gX7_copy_X7_finding rfl rfl rfl q_X7_finding ⟨Nat.le_of_ble_eq_true rfl, Nat.le_of_ble_eq_true rfl⟩) ⟨hx, hb, hml, hown, hts⟩ hE hP hD hS hA 7 0 rfl rfl rfl rfl hl.1 rfl rfl (Nat.le_of_ble_eq_true rfl) dX7_copy_122 (fun H locs hP hD hS => ?_)
                obtain ⟨rfl, rfl, rfl⟩ := some_p3 hf
                rw [hQ]; exact Ct.iret hx hb hr hlocks hAe hP hD hS dX7_copy_125
              · have hf := if_f hf hc
                refine lv_iload hx hb dX7_copy_79 (lv_at hl 5 rfl) ?_
                refine lv_if_lt (tgt := 119) hx hb dX7_copy_81 (by decide) (fun hc => ?_) (fun hc => ?_)
                · have hf := if_t hf hc
                  refine lv_aload_n hx hb dX7_copy_119 rfl (lv_at hl 0 rfl) ?_
                  refine lv_ldc hx hb hown w1 dX7_copy_120 ?_
                  obtain ⟨x115, found116, hg, hf⟩ := o2_s hf
                  refine Ct.callV0 (ws' := wM g m0 m1 m2 m3 m4 m5 m6 m7 m8 m9 m10 m11 m12 now kept aside ik found116 carried T S) (As := [.int (-1000001 : Int32)]) (rest := []) (st1 := [.int x115]) (c_X7_finding l g m0 m1 m2 m3 m4 m5 m6 m7 m8 m9 m10 m11 m12 now kept aside ik found carried T S (-1000001 : Int32) hg) (cwV 1 hts gX7_copy_X7_finding rfl rfl rfl q_X7_finding ⟨Nat.le_of_ble_eq_true rfl, Nat.le_of_ble_eq_true rfl⟩) ⟨hx, hb, hml, hown, hts⟩ hE hP hD hS hA 7 0 rfl rfl rfl rfl hl.1 rfl rfl (Nat.le_of_ble_eq_true rfl) dX7_copy_122 (fun H locs hP hD hS => ?_)
                  obtain ⟨rfl, rfl, rfl⟩ := some_p3 hf
                  rw [hQ]; exact Ct.iret hx hb hr hlocks hAe hP hD hS dX7_copy_125
                · have hf := if_f hf hc
                  refine lv_iload_n hx hb dX7_copy_84 rfl (lv_at hl 2 rfl) ?_
                  refine lv_i2l (v := a2.toInt64) hx hb dX7_copy_85 rfl ?_
                  refine lv_iload hx hb dX7_copy_86 (lv_at hl 5 rfl) ?_
                  refine lv_i2l (v := a5.toInt64) hx hb dX7_copy_88 rfl ?_
                  refine lv_ladd hx hb dX7_copy_89 ?_
                  refine lv_aload_n hx hb dX7_copy_90 rfl (lv_at hl 0 rfl) ?_
                  refine va_get (D := g.1) (ci := 7) (v := .ref m10) (C := RX7) (T := TX7) (N := 22) hx hb hts i_X7_copy_X7 hown hE.1 hP 0 rfl rfl 19 (by decide) w4 (fun _ h9 => h9) rfl dX7_copy_91 ?_
                  refine lv_iload_n hx hb dX7_copy_94 rfl (lv_at hl 1 rfl) ?_
                  obtain ⟨x117, ex, hin, hf⟩ := rd_s hf
                  refine st_iald (f := S.2.1) hx hb hE.1 hP 10 0 rfl rfl hin ex dX7_copy_95 ?_
                  refine lv_i2l (v := x117.toInt64) hx hb dX7_copy_96 rfl ?_
                  refine W.lcmp hx hb dX7_copy_97 ?_
                  refine lv_if_gt (tgt := 119) hx hb dX7_copy_98 (by decide) (fun hc => ?_) (fun hc => ?_)
                  · have hf := if_t hf hc
                    refine lv_aload_n hx hb dX7_copy_119 rfl (lv_at hl 0 rfl) ?_
                    refine lv_ldc hx hb hown w1 dX7_copy_120 ?_
                    obtain ⟨x118, found119, hg, hf⟩ := o2_s hf
                    refine Ct.callV0 (ws' := wM g m0 m1 m2 m3 m4 m5 m6 m7 m8 m9 m10 m11 m12 now kept aside ik found119 carried T S) (As := [.int (-1000001 : Int32)]) (rest := []) (st1 := [.int x118]) (c_X7_finding l g m0 m1 m2 m3 m4 m5 m6 m7 m8 m9 m10 m11 m12 now kept aside ik found carried T S (-1000001 : Int32) hg) (cwV 1 hts gX7_copy_X7_finding rfl rfl rfl q_X7_finding ⟨Nat.le_of_ble_eq_true rfl, Nat.le_of_ble_eq_true rfl⟩) ⟨hx, hb, hml, hown, hts⟩ hE hP hD hS hA 7 0 rfl rfl rfl rfl hl.1 rfl rfl (Nat.le_of_ble_eq_true rfl) dX7_copy_122 (fun H locs hP hD hS => ?_)
                    obtain ⟨rfl, rfl, rfl⟩ := some_p3 hf
                    rw [hQ]; exact Ct.iret hx hb hr hlocks hAe hP hD hS dX7_copy_125
                  · have hf := if_f hf hc
                    refine lv_iload hx hb dX7_copy_101 (lv_at hl 4 rfl) ?_
                    refine lv_i2l (v := a4.toInt64) hx hb dX7_copy_103 rfl ?_
                    refine lv_iload hx hb dX7_copy_104 (lv_at hl 5 rfl) ?_
                    refine lv_i2l (v := a5.toInt64) hx hb dX7_copy_106 rfl ?_
                    refine lv_ladd hx hb dX7_copy_107 ?_
                    refine lv_aload_n hx hb dX7_copy_108 rfl (lv_at hl 0 rfl) ?_
                    refine va_get (D := g.1) (ci := 7) (v := .ref m10) (C := RX7) (T := TX7) (N := 22) hx hb hts i_X7_copy_X7 hown hE.1 hP 0 rfl rfl 19 (by decide) w4 (fun _ h9 => h9) rfl dX7_copy_109 ?_
                    refine lv_iload_n hx hb dX7_copy_112 rfl (lv_at hl 3 rfl) ?_
                    obtain ⟨x120, ex, hin, hf⟩ := rd_s hf
                    refine st_iald (f := S.2.1) hx hb hE.1 hP 10 0 rfl rfl hin ex dX7_copy_113 ?_
                    refine lv_i2l (v := x120.toInt64) hx hb dX7_copy_114 rfl ?_
                    refine W.lcmp hx hb dX7_copy_115 ?_
                    refine lv_if_le (tgt := 126) hx hb dX7_copy_116 (by decide) (fun hc => ?_) (fun hc => ?_)
                    · have hf := if_t hf hc
                      refine lv_iconst (v := (0 : Int32)) hx hb dX7_copy_126 (by decide) ?_
                      refine lv_istore (lv' := [(6, .int (0 : Int32)), (0, .ref m0), (1, .int a1), (2, .int a2), (3, .int a3), (4, .int a4), (5, .int a5)]) hx hb dX7_copy_127 hl (by decide) rfl (fun ls hl => ?_)
                      refine L129 _ _ _ _ _ _ _ _ _ _ _ _ _  hf hP hD hS (lv_sub hl [1, 2, 3, 4, 5, 6, 0] rfl) (fun S125 H locs ls hf hP hD hS hl => ?_)
                      refine lv_iconst (v := (0 : Int32)) hx hb dX7_copy_163 (by decide) ?_
                      refine lv_istore (lv' := [(6, .int (0 : Int32)), (0, .ref m0), (3, .int a3), (4, .int a4), (5, .int a5)]) hx hb dX7_copy_164 hl (by decide) rfl (fun ls hl => ?_)
                      refine L166 _ _ _ _ _ _ _ _ _ _ _  hf hP hD hS (lv_sub hl [1, 2, 3, 4, 0] rfl) (fun S130 H locs ls hf hP hD hS hl => ?_)
                      refine lv_iload hx hb dX7_copy_201 (lv_at hl 0 rfl) ?_
                      obtain ⟨rfl, rfl, rfl⟩ := some_p3 hf
                      rw [hQ]; exact Ct.iret hx hb hr hlocks hAe hP hD hS dX7_copy_203
                    · have hf := if_f hf hc
                      refine lv_aload_n hx hb dX7_copy_119 rfl (lv_at hl 0 rfl) ?_
                      refine lv_ldc hx hb hown w1 dX7_copy_120 ?_
                      obtain ⟨x131, found132, hg, hf⟩ := o2_s hf
                      refine Ct.callV0 (ws' := wM g m0 m1 m2 m3 m4 m5 m6 m7 m8 m9 m10 m11 m12 now kept aside ik found132 carried T S) (As := [.int (-1000001 : Int32)]) (rest := []) (st1 := [.int x131]) (c_X7_finding l g m0 m1 m2 m3 m4 m5 m6 m7 m8 m9 m10 m11 m12 now kept aside ik found carried T S (-1000001 : Int32) hg) (cwV 1 hts gX7_copy_X7_finding rfl rfl rfl q_X7_finding ⟨Nat.le_of_ble_eq_true rfl, Nat.le_of_ble_eq_true rfl⟩) ⟨hx, hb, hml, hown, hts⟩ hE hP hD hS hA 7 0 rfl rfl rfl rfl hl.1 rfl rfl (Nat.le_of_ble_eq_true rfl) dX7_copy_122 (fun H locs hP hD hS => ?_)
                      obtain ⟨rfl, rfl, rfl⟩ := some_p3 hf
                      rw [hQ]; exact Ct.iret hx hb hr hlocks hAe hP hD hS dX7_copy_125
          · have hf := if_f hf hc
            refine lv_aload_n hx hb dX7_copy_62 rfl (lv_at hl 0 rfl) ?_
            refine lv_ldcw hx hb hown w7 dX7_copy_63 ?_
            obtain ⟨x133, found134, hg, hf⟩ := o2_s hf
            refine Ct.callV0 (ws' := wM g m0 m1 m2 m3 m4 m5 m6 m7 m8 m9 m10 m11 m12 now kept aside ik found134 carried T S) (As := [.int (-1000003 : Int32)]) (rest := []) (st1 := [.int x133]) (c_X7_finding l g m0 m1 m2 m3 m4 m5 m6 m7 m8 m9 m10 m11 m12 now kept aside ik found carried T S (-1000003 : Int32) hg) (cwV 1 hts gX7_copy_X7_finding rfl rfl rfl q_X7_finding ⟨Nat.le_of_ble_eq_true rfl, Nat.le_of_ble_eq_true rfl⟩) ⟨hx, hb, hml, hown, hts⟩ hE hP hD hS hA 7 0 rfl rfl rfl rfl hl.1 rfl rfl (Nat.le_of_ble_eq_true rfl) dX7_copy_66 (fun H locs hP hD hS => ?_)
            obtain ⟨rfl, rfl, rfl⟩ := some_p3 hf
            rw [hQ]; exact Ct.iret hx hb hr hlocks hAe hP hD hS dX7_copy_69
        · have hf := if_t hf hc
          refine lv_aload_n hx hb dX7_copy_39 rfl (lv_at hl 0 rfl) ?_
          refine lv_ldcw hx hb hown w3 dX7_copy_40 ?_
          obtain ⟨x135, found136, hg, hf⟩ := o2_s hf
          refine Ct.callV0 (ws' := wM g m0 m1 m2 m3 m4 m5 m6 m7 m8 m9 m10 m11 m12 now kept aside ik found136 carried T S) (As := [.int (-1000006 : Int32)]) (rest := []) (st1 := [.int x135]) (c_X7_finding l g m0 m1 m2 m3 m4 m5 m6 m7 m8 m9 m10 m11 m12 now kept aside ik found carried T S (-1000006 : Int32) hg) (cwV 1 hts gX7_copy_X7_finding rfl rfl rfl q_X7_finding ⟨Nat.le_of_ble_eq_true rfl, Nat.le_of_ble_eq_true rfl⟩) ⟨hx, hb, hml, hown, hts⟩ hE hP hD hS hA 7 0 rfl rfl rfl rfl hl.1 rfl rfl (Nat.le_of_ble_eq_true rfl) dX7_copy_43 (fun H locs hP hD hS => ?_)
          obtain ⟨rfl, rfl, rfl⟩ := some_p3 hf
          rw [hQ]; exact Ct.iret hx hb hr hlocks hAe hP hD hS dX7_copy_46
    · have hf := if_t hf hc
      refine lv_aload_n hx hb dX7_copy_14 rfl (lv_at hl 0 rfl) ?_
      refine lv_ldc hx hb hown w1 dX7_copy_15 ?_
      obtain ⟨x137, found138, hg, hf⟩ := o2_s hf
      refine Ct.callV0 (ws' := wM g m0 m1 m2 m3 m4 m5 m6 m7 m8 m9 m10 m11 m12 now kept aside ik found138 carried T S) (As := [.int (-1000001 : Int32)]) (rest := []) (st1 := [.int x137]) (c_X7_finding l g m0 m1 m2 m3 m4 m5 m6 m7 m8 m9 m10 m11 m12 now kept aside ik found carried T S (-1000001 : Int32) hg) (cwV 1 hts gX7_copy_X7_finding rfl rfl rfl q_X7_finding ⟨Nat.le_of_ble_eq_true rfl, Nat.le_of_ble_eq_true rfl⟩) ⟨hx, hb, hml, hown, hts⟩ hE hP hD hS hA 7 0 rfl rfl rfl rfl hl.1 rfl rfl (Nat.le_of_ble_eq_true rfl) dX7_copy_17 (fun H locs hP hD hS => ?_)
      obtain ⟨rfl, rfl, rfl⟩ := some_p3 hf
      rw [hQ]; exact Ct.iret hx hb hr hlocks hAe hP hD hS dX7_copy_20
