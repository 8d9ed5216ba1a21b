def fX7_copyRow_raw_L2 (n : Nat) (f : Nat → Int32) (kx : (Nat → Int32) → Option ((Nat → Int32))) : Nat → (Nat → Int32) → Int32 → Option ((Nat → Int32))
  | 0, _, _ => none
  | k + 1, f2, x2 => if (120 : Int32) ≤ x2 then (kx f2) else (rd f n x2 (fun x103 => wr f2 n x2 x103 (fun f104 => fX7_copyRow_raw_L2 n f kx k f104 (x2 + (1 : Int32)))))
def fX7_copyRow_raw (n : Nat) (f : Nat → Int32) (f2 : Nat → Int32) : Option ((Nat → Int32)) := fX7_copyRow_raw_L2 n f (fun f2105 => some f2105) fu f2 (0 : Int32)
theorem q_X7_copyRow : yX7_copyRow.cls = RX7 ∧ yX7_copyRow.cls ≠ "java/lang/invoke/MethodHandle" ∧ yX7_copyRow.cls ≠ "java/lang/invoke/VarHandle" ∧ (parseMethodDescriptor yX7_copyRow.desc).map (fun d => d.parameters.length) = some 2 := by decide +kernel
set_option maxHeartbeats 4000000 in
set_option maxRecDepth 100000 in
theorem c_X7_copyRow_raw (l : Launch) (g : gG) (a0 a1 : Nat) (n : Nat) (f : Nat → Int32) (f2 : Nat → Int32) {f2' : Nat → Int32} (hf : fX7_copyRow_raw n f f2 = some f2') : Ct l yX7_copyRow wsX7_copyRow (rmm 0 0) g (wRow2 g a0 a1 n f f2) (wRow2 g a0 a1 n f (f2')) [.ref a0, .ref a1] none := by
  refine Ct.mk (by decide) rfl (Nat.le_of_ble_eq_true rfl) ?_
  intro p e s m args below meth c A ls hx hb hr hml hts hown hlocks hA hE hP hD hS hl hAe
  obtain ⟨Qx, hQ⟩ : ∃ Qx : State → Prop, Qx = MQ below (QcG g (wRow2 g a0 a1 n f f2) (wRow2 g a0 a1 n f (f2')) none s.heap.size) args s 0 0 A := ⟨_, rfl⟩
  rw [← hQ]
  have hown : s.vm.findClass RX7 = some m.cls := hown
  have hl : lv_has ls 3 [(0, .ref a0), (1, .ref a1)] := hl
  have L2 : ∀ (kx : (Nat → Int32) → Option ((Nat → Int32))) (k : Nat) (f2 : Nat → Int32) (x2 : Int32) (H : Heap) (locs : List Loc) (ls : Array Slot), fX7_copyRow_raw_L2 n f kx k f2 x2 = some f2' → va_P g.1 vwK (wRow2 g a0 a1 n f f2) H → va_D A (wRow2 g a0 a1 n f f2) → va_S A s.heap H locs → lv_has ls 3 [(0, .ref a0), (1, .ref a1), (2, .int x2)] → (∀ (f2 : Nat → Int32) (H : Heap) (locs : List Loc) (ls : Array Slot), kx f2 = some f2' → va_P g.1 vwK (wRow2 g a0 a1 n f f2) H → va_D A (wRow2 g a0 a1 n f f2) → va_S A s.heap H locs → lv_has ls 3 [] → W p l e (rmm 0 0) s m args below meth c H locs 0 0 Qx (F0 m 20 ls [])) → W p l e (rmm 0 0) s m args below meth c H locs 0 0 Qx (F0 m 2 ls []) := by
    intro kx k
    induction k with
    | zero => intro f2 x2 H locs ls hf; exact nomatch (show (none : Option ((Nat → Int32))) = some _ from hf)
    | succ k ih =>
      intro f2 x2 H locs ls hf hP hD hS hl hk
      rw [fX7_copyRow_raw_L2] at hf
      refine lv_iload_n hx hb dX7_copyRow_2 rfl (lv_at hl 2 rfl) ?_
      refine lv_bipush (v := (120 : Int32)) hx hb dX7_copyRow_3 (by decide) ?_
      refine lv_icmp_ge (tgt := 20) hx hb dX7_copyRow_5 (by decide) (fun hc => ?_) (fun hc => ?_)
      · have hf := if_t hf hc
        exact hk _ _ _ _  hf hP hD hS (lv_sub hl [] rfl)
      · have hf := if_f hf hc
        refine lv_aload_n hx hb dX7_copyRow_8 rfl (lv_at hl 1 rfl) ?_
        refine lv_iload_n hx hb dX7_copyRow_9 rfl (lv_at hl 2 rfl) ?_
        refine lv_aload_n hx hb dX7_copyRow_10 rfl (lv_at hl 0 rfl) ?_
        refine lv_iload_n hx hb dX7_copyRow_11 rfl (lv_at hl 2 rfl) ?_
        obtain ⟨x103, ex, hin, hf⟩ := rd_s hf
        refine st_iald (f := f) hx hb hE.1 hP 0 0 rfl rfl hin ex dX7_copyRow_12 ?_
        obtain ⟨f104, ef, hin, hf⟩ := wr_s hf
        refine st_iast (ws' := wRow2 g a0 a1 n f f104) (f := f2) (f2 := f104) hx hb hE.1 hP hD hS 1 0 rfl rfl hin ef rfl dX7_copyRow_13 (fun H locs hP hD hS => ?_)
        refine lv_iinc (v := (x2 + (1 : Int32))) (lv' := [(2, .int (x2 + (1 : Int32))), (0, .ref a0), (1, .ref a1)]) hx hb dX7_copyRow_14 hl (k := 2) rfl rfl (by decide) rfl (fun ls hl => ?_)
        refine lv_goto (tgt := 2) hx hb dX7_copyRow_17 (by decide) ?_
        exact ih _ _ _ _ _  hf hP hD hS (lv_sub hl [1, 2, 0] rfl) hk
  unfold fX7_copyRow_raw at hf
  refine lv_iconst (v := (0 : Int32)) hx hb dX7_copyRow_0 (by decide) ?_
  refine lv_istore_n (lv' := [(2, .int (0 : Int32)), (0, .ref a0), (1, .ref a1)]) hx hb dX7_copyRow_1 rfl hl (by decide) rfl (fun ls hl => ?_)
  refine L2 _ _ _ _ _ _ _  hf hP hD hS (lv_sub hl [1, 2, 0] rfl) (fun f2105 H locs ls hf hP hD hS hl => ?_)
  obtain rfl := Option.some.inj hf
  rw [hQ]; exact Ct.vret hx hb hr hlocks hAe hP hD hS dX7_copyRow_20
def fX7_copyRow (n : Nat) (f : Nat → Int32) : Option (Nat → Int32) := if n = 120 then some f else none
theorem fX7_copyRow_raw_go (f : Nat → Int32) (kx : (Nat → Int32) → Option (Nat → Int32)) : ∀ (d i k : Nat) (f2 : Nat → Int32), i + d = 120 → d < k → (∀ j, j < i → f2 j = f j) → ∃ f3, (∀ j, j < 120 → f3 j = f j) ∧ fX7_copyRow_raw_L2 120 f kx k f2 (Int32.ofNat i) = kx f3 := by
  intro d
  induction d with
  | zero =>
    intro i k f2 hi hk hj
    obtain ⟨k, rfl⟩ : ∃ k', k = k' + 1 := ⟨k - 1, by omega⟩
    refine ⟨f2, fun j h => hj j (by omega), ?_⟩
    rw [fX7_copyRow_raw_L2, if_pos (show (120 : Int32) ≤ Int32.ofNat i from nI_le (a := 120) (b := i) (by omega) (by omega))]
  | succ d ih =>
    intro i k f2 hi hk hj
    obtain ⟨k, rfl⟩ : ∃ k', k = k' + 1 := ⟨k - 1, by omega⟩
    have hin : ¬ (Int32.ofNat i < 0 ∨ 120 ≤ (Int32.ofNat i).toNatClampNeg) := nI_in (by omega) (by omega)
    have hc : (Int32.ofNat i).toNatClampNeg = i := nI_clamp (by omega)
    obtain ⟨f3, h1, h2⟩ := ih (i + 1) k (upd f2 i (f i)) (by omega) (by omega) (fun j h => by
      by_cases e : j = i
      · subst e; exact pk_us
      · rw [pk_un e]; exact hj j (by omega))
    refine ⟨f3, h1, ?_⟩
    rw [fX7_copyRow_raw_L2, if_neg (show ¬ (120 : Int32) ≤ Int32.ofNat i from nI_ge (a := i) (b := 120) (by omega) (by omega))]
    unfold rd wr
    rw [if_pos hin]
    dsimp only
    rw [if_pos hin, hc, ← h2]
    exact congrArg _ (nI_1 i)
theorem c_X7_copyRow (l : Launch) (g : gG) (a0 a1 : Nat) (n : Nat) (f f2 : Nat → Int32) {f2' : Nat → Int32} (hf : fX7_copyRow n f = some f2') : Ct l yX7_copyRow wsX7_copyRow (rmm 0 0) g (wRow2 g a0 a1 n f f2) (wRow2 g a0 a1 n f f2') [.ref a0, .ref a1] none := by
  unfold fX7_copyRow at hf
  by_cases hn : n = 120
  · rw [if_pos hn] at hf
    cases hf
    subst hn
    obtain ⟨f3, h1, h2⟩ := fX7_copyRow_raw_go f (fun f => some f) 120 0 fu f2 rfl (by unfold fu; omega) (fun j h => absurd h (Nat.not_lt_zero _))
    refine (c_X7_copyRow_raw l g a0 a1 120 f f2 (f2' := f3) h2).conv (fun H hP k q hk => ?_) rfl
    match k, hk with
    | 0, hk => exact hP 0 q hk
    | 1, hk =>
      cases hk
      exact row_eq (f := f3) h1 (hP 1 _ rfl)
    | k + 2, hk => cases hk
  · rw [if_neg hn] at hf; cases hf
def fX7_finding (found : Nat → Int32) (a1 : Int32) : Option (Int32 × (Nat → Int32)) := rd found 8 (((-1000001 : Int32) - a1) + (1 : Int32)) (fun x101 => wr found 8 (((-1000001 : Int32) - a1) + (1 : Int32)) (x101 + (1 : Int32)) (fun f102 => rd f102 8 (0 : Int32) (fun x103 => wr f102 8 (0 : Int32) (x103 + (1 : Int32)) (fun f104 => some (a1, f104)))))
theorem q_X7_finding : yX7_finding.cls = RX7 ∧ yX7_finding.cls ≠ "java/lang/invoke/MethodHandle" ∧ yX7_finding.cls ≠ "java/lang/invoke/VarHandle" ∧ (parseMethodDescriptor yX7_finding.desc).map (fun d => d.parameters.length) = some 1 := by decide +kernel
theorem i_X7_finding_X7 : ∀ w ∈ u_ws RX7 TX7 22, w ∈ wsX7_finding := fun _ h => List.mem_cons_of_mem _ (List.mem_append_right _ (h))
set_option maxHeartbeats 4000000 in
set_option maxRecDepth 100000 in
theorem c_X7_finding (l : Launch) (g : gG) (m0 m1 m2 m3 m4 m5 m6 m7 m8 m9 m10 m11 m12 : Nat) (now : Nat → Int32) (kept : Nat → Int32) (aside : Nat → Int32) (ik : Int32) (found : Nat → Int32) (carried : Nat → Int32) (T : Mt) (S : Ms) (a1 : Int32) {r : Int32} {found' : Nat → Int32} (hf : fX7_finding found a1 = some (r, found')) : Ct l yX7_finding wsX7_finding (rmm 0 0) g (wM g m0 m1 m2 m3 m4 m5 m6 m7 m8 m9 m10 m11 m12 now kept aside ik found carried T S) (wM g m0 m1 m2 m3 m4 m5 m6 m7 m8 m9 m10 m11 m12 now kept aside ik (found') carried T S) [.ref m0, .int a1] (some (.int r)) := by
  refine Ct.mk (by decide) rfl (Nat.le_of_ble_eq_true rfl) ?_
  intro p e s m args below meth c A ls hx hb hr hml hts hown hlocks hA hE hP hD hS hl hAe
  obtain ⟨Qx, hQ⟩ : ∃ Qx : State → Prop, Qx = MQ below (QcG g (wM g m0 m1 m2 m3 m4 m5 m6 m7 m8 m9 m10 m11 m12 now kept aside ik found carried T S) (wM g m0 m1 m2 m3 m4 m5 m6 m7 m8 m9 m10 m11 m12 now kept aside ik (found') carried T S) (some (.int r)) s.heap.size) args s 0 0 A := ⟨_, rfl⟩
  rw [← hQ]
  have hown : s.vm.findClass RX7 = some m.cls := hown
  have hl : lv_has ls 2 [(0, .ref m0), (1, .int a1)] := hl
  have w1 := hts (.fieldLink RX7 19 "RainVaultModel" "found" "[I") (List.mem_of_getElem? (i := 1) rfl)
  have w2 := hts (.constant RX7 63 (-1000001)) (List.mem_of_getElem? (i := 2) rfl)
  unfold fX7_finding at hf
  refine lv_aload_n hx hb dX7_finding_0 rfl (lv_at hl 0 rfl) ?_
  refine va_get (D := g.1) (ci := 7) (v := .ref m4) (C := RX7) (T := TX7) (N := 22) hx hb hts i_X7_finding_X7 hown hE.1 hP 0 rfl rfl 4 (by decide) w1 (fun _ h9 => h9) rfl dX7_finding_1 ?_
  refine lv_ldc hx hb hown w2 dX7_finding_4 ?_
  refine lv_iload_n hx hb dX7_finding_6 rfl (lv_at hl 1 rfl) ?_
  refine lv_isub hx hb dX7_finding_7 ?_
  refine lv_iconst (v := (1 : Int32)) hx hb dX7_finding_8 (by decide) ?_
  refine lv_iadd hx hb dX7_finding_9 ?_
  refine lv_dup2_11 hx hb dX7_finding_10 rfl rfl ?_
  obtain ⟨x101, ex, hin, hf⟩ := rd_s hf
  refine st_iald (f := found) hx hb hE.1 hP 4 0 rfl rfl hin ex dX7_finding_11 ?_
  refine lv_iconst (v := (1 : Int32)) hx hb dX7_finding_12 (by decide) ?_
  refine lv_iadd hx hb dX7_finding_13 ?_
  obtain ⟨f102, ef, hin, hf⟩ := wr_s hf
  refine st_iast (ws' := wM g m0 m1 m2 m3 m4 m5 m6 m7 m8 m9 m10 m11 m12 now kept aside ik f102 carried T S) (f := found) (f2 := f102) hx hb hE.1 hP hD hS 4 0 rfl rfl hin ef rfl dX7_finding_14 (fun H locs hP hD hS => ?_)
  refine lv_aload_n hx hb dX7_finding_15 rfl (lv_at hl 0 rfl) ?_
  refine va_get (D := g.1) (ci := 7) (v := .ref m4) (C := RX7) (T := TX7) (N := 22) hx hb hts i_X7_finding_X7 hown hE.1 hP 0 rfl rfl 4 (by decide) w1 (fun _ h9 => h9) rfl dX7_finding_16 ?_
  refine lv_iconst (v := (0 : Int32)) hx hb dX7_finding_19 (by decide) ?_
  refine lv_dup2_11 hx hb dX7_finding_20 rfl rfl ?_
  obtain ⟨x103, ex, hin, hf⟩ := rd_s hf
  refine st_iald (f := f102) hx hb hE.1 hP 4 0 rfl rfl hin ex dX7_finding_21 ?_
  refine lv_iconst (v := (1 : Int32)) hx hb dX7_finding_22 (by decide) ?_
  refine lv_iadd hx hb dX7_finding_23 ?_
  obtain ⟨f104, ef, hin, hf⟩ := wr_s hf
  refine st_iast (ws' := wM g m0 m1 m2 m3 m4 m5 m6 m7 m8 m9 m10 m11 m12 now kept aside ik f104 carried T S) (f := f102) (f2 := f104) hx hb hE.1 hP hD hS 4 0 rfl rfl hin ef rfl dX7_finding_24 (fun H locs hP hD hS => ?_)
  refine lv_iload_n hx hb dX7_finding_25 rfl (lv_at hl 1 rfl) ?_
  obtain ⟨rfl, rfl⟩ := some_p2 hf
  rw [hQ]; exact Ct.iret hx hb hr hlocks hAe hP hD hS dX7_finding_26
def fX7_within (a1 : Int32) (a2 : Int32) (a3 : Int32) : Option (Int32) := if a1 < a2 then (some (0 : Int32)) else (if a3 < a1 then (some (0 : Int32)) else (some (1 : Int32)))
theorem q_X7_within : yX7_within.cls = RX7 ∧ yX7_within.cls ≠ "java/lang/invoke/MethodHandle" ∧ yX7_within.cls ≠ "java/lang/invoke/VarHandle" ∧ (parseMethodDescriptor yX7_within.desc).map (fun d => d.parameters.length) = some 3 := by decide +kernel
set_option maxHeartbeats 4000000 in
set_option maxRecDepth 100000 in
theorem c_X7_within (l : Launch) (g : gG) (a1 : Int32) (a2 : Int32) (a3 : Int32) {r : Int32} (hf : fX7_within a1 a2 a3 = some r) : Ct l yX7_within wsX7_within (rmm 0 0) g (wNil g  ) (wNil g  ) [.int a1, .int a2, .int a3] (some (.int r)) := by
  refine Ct.mk (by decide) rfl (Nat.le_of_ble_eq_true rfl) ?_
  intro p e s m args below meth c A ls hx hb hr hml hts hown hlocks hA hE hP hD hS hl hAe
  obtain ⟨Qx, hQ⟩ : ∃ Qx : State → Prop, Qx = MQ below (QcG g (wNil g  ) (wNil g  ) (some (.int r)) s.heap.size) args s 0 0 A := ⟨_, rfl⟩
  rw [← hQ]
  have hown : s.vm.findClass RX7 = some m.cls := hown
  have hl : lv_has ls 3 [(0, .int a1), (1, .int a2), (2, .int a3)] := hl
  unfold fX7_within at hf
  refine lv_iload_n hx hb dX7_within_0 rfl (lv_at hl 0 rfl) ?_
  refine lv_iload_n hx hb dX7_within_1 rfl (lv_at hl 1 rfl) ?_
  refine lv_icmp_lt (tgt := 14) hx hb dX7_within_2 (by decide) (fun hc => ?_) (fun hc => ?_)
  · have hf := if_t hf hc
    refine lv_iconst (v := (0 : Int32)) hx hb dX7_within_14 (by decide) ?_
    obtain rfl := Option.some.inj hf
    rw [hQ]; exact Ct.zret hx hb hr (by decide) hlocks hAe hP hD hS dX7_within_15
  · have hf := if_f hf hc
    refine lv_iload_n hx hb dX7_within_5 rfl (lv_at hl 0 rfl) ?_
    refine lv_iload_n hx hb dX7_within_6 rfl (lv_at hl 2 rfl) ?_
    refine lv_icmp_gt (tgt := 14) hx hb dX7_within_7 (by decide) (fun hc => ?_) (fun hc => ?_)
    · have hf := if_t hf hc
      refine lv_iconst (v := (0 : Int32)) hx hb dX7_within_14 (by decide) ?_
      obtain rfl := Option.some.inj hf
      rw [hQ]; exact Ct.zret hx hb hr (by decide) hlocks hAe hP hD hS dX7_within_15
    · have hf := if_f hf hc
      refine lv_iconst (v := (1 : Int32)) hx hb dX7_within_10 (by decide) ?_
      refine lv_goto (tgt := 15) hx hb dX7_within_11 (by decide) ?_
      obtain rfl := Option.some.inj hf
      rw [hQ]; exact Ct.zret hx hb hr (by decide) hlocks hAe hP hD hS dX7_within_15
def fX7_become (now : Nat → Int32) (a1 : Int32) (a2 : Int32) : Option (Int32 × (Nat → Int32)) := rd now 120 a1 (fun x101 => wr now 120 a1 a2 (fun f102 => some (x101, f102)))
theorem q_X7_become : yX7_become.cls = RX7 ∧ yX7_become.cls ≠ "java/lang/invoke/MethodHandle" ∧ yX7_become.cls ≠ "java/lang/invoke/VarHandle" ∧ (parseMethodDescriptor yX7_become.desc).map (fun d => d.parameters.length) = some 2 := by decide +kernel
theorem i_X7_become_X7 : ∀ w ∈ u_ws RX7 TX7 22, w ∈ wsX7_become := fun _ h => List.mem_cons_of_mem _ (List.mem_append_right _ (h))
set_option maxHeartbeats 4000000 in
set_option maxRecDepth 100000 in
theorem c_X7_become (l : Launch) (g : gG) (m0 m1 m2 m3 m4 m5 m6 m7 m8 m9 m10 m11 m12 : Nat) (now : Nat → Int32) (kept : Nat → Int32) (aside : Nat → Int32) (ik : Int32) (found : Nat → Int32) (carried : Nat → Int32) (T : Mt) (S : Ms) (a1 : Int32) (a2 : Int32) {r : Int32} {now' : Nat → Int32} (hf : fX7_become now a1 a2 = some (r, now')) : Ct l yX7_become wsX7_become (rmm 0 0) g (wM g m0 m1 m2 m3 m4 m5 m6 m7 m8 m9 m10 m11 m12 now kept aside ik found carried T S) (wM g m0 m1 m2 m3 m4 m5 m6 m7 m8 m9 m10 m11 m12 (now') kept aside ik found carried T S) [.ref m0, .int a1, .int a2] (some (.int r)) := by
  refine Ct.mk (by decide) rfl (Nat.le_of_ble_eq_true rfl) ?_
  intro p e s m args below meth c A ls hx hb hr hml hts hown hlocks hA hE hP hD hS hl hAe
  obtain ⟨Qx, hQ⟩ : ∃ Qx : State → Prop, Qx = MQ below (QcG g (wM g m0 m1 m2 m3 m4 m5 m6 m7 m8 m9 m10 m11 m12 now kept aside ik found carried T S) (wM g m0 m1 m2 m3 m4 m5 m6 m7 m8 m9 m10 m11 m12 (now') kept aside ik found carried T S) (some (.int r)) s.heap.size) args s 0 0 A := ⟨_, rfl⟩
  rw [← hQ]
  have hown : s.vm.findClass RX7 = some m.cls := hown
  have hl : lv_has ls 4 [(0, .ref m0), (1, .int a1), (2, .int a2)] := hl
  have w1 := hts (.fieldLink RX7 9 "RainVaultModel" "now" "[I") (List.mem_of_getElem? (i := 1) rfl)
  unfold fX7_become at hf
  refine lv_aload_n hx hb dX7_become_0 rfl (lv_at hl 0 rfl) ?_
  refine va_get (D := g.1) (ci := 7) (v := .ref m1) (C := RX7) (T := TX7) (N := 22) hx hb hts i_X7_become_X7 hown hE.1 hP 0 rfl rfl 0 (by decide) w1 (fun _ h9 => h9) rfl dX7_become_1 ?_
  refine lv_iload_n hx hb dX7_become_4 rfl (lv_at hl 1 rfl) ?_
  obtain ⟨x101, ex, hin, hf⟩ := rd_s hf
  refine st_iald (f := now) hx hb hE.1 hP 1 0 rfl rfl hin ex dX7_become_5 ?_
  refine lv_istore_n (lv' := [(3, .int x101), (0, .ref m0), (1, .int a1), (2, .int a2)]) hx hb dX7_become_6 rfl hl (by decide) rfl (fun ls hl => ?_)
  refine lv_aload_n hx hb dX7_become_7 rfl (lv_at hl 1 rfl) ?_
  refine va_get (D := g.1) (ci := 7) (v := .ref m1) (C := RX7) (T := TX7) (N := 22) hx hb hts i_X7_become_X7 hown hE.1 hP 0 rfl rfl 0 (by decide) w1 (fun _ h9 => h9) rfl dX7_become_8 ?_
  refine lv_iload_n hx hb dX7_become_11 rfl (lv_at hl 2 rfl) ?_
  refine lv_iload_n hx hb dX7_become_12 rfl (lv_at hl 3 rfl) ?_
  obtain ⟨f102, ef, hin, hf⟩ := wr_s hf
  refine st_iast (ws' := wM g m0 m1 m2 m3 m4 m5 m6 m7 m8 m9 m10 m11 m12 f102 kept aside ik found carried T S) (f := now) (f2 := f102) hx hb hE.1 hP hD hS 1 0 rfl rfl hin ef rfl dX7_become_13 (fun H locs hP hD hS => ?_)
  refine lv_iload_n hx hb dX7_become_14 rfl (lv_at hl 0 rfl) ?_
  obtain ⟨rfl, rfl⟩ := some_p2 hf
  rw [hQ]; exact Ct.iret hx hb hr hlocks hAe hP hD hS dX7_become_15
def fX7_putBack (now : Nat → Int32) (aside : Nat → Int32) (a1 : Int32) : Option (Int32 × (Nat → Int32)) := o1 (fX7_copyRow 120 aside) (fun f2101 => some (a1, f2101))
theorem q_X7_putBack : yX7_putBack.cls = RX7 ∧ yX7_putBack.cls ≠ "java/lang/invoke/MethodHandle" ∧ yX7_putBack.cls ≠ "java/lang/invoke/VarHandle" ∧ (parseMethodDescriptor yX7_putBack.desc).map (fun d => d.parameters.length) = some 1 := by decide +kernel
theorem i_X7_putBack_X7 : ∀ w ∈ u_ws RX7 TX7 22, w ∈ wsX7_putBack := fun _ h => List.mem_cons_of_mem _ (List.mem_append_right _ (h))
set_option maxHeartbeats 4000000 in
set_option maxRecDepth 100000 in
theorem c_X7_putBack (l : Launch) (g : gG) (m0 m1 m2 m3 m4 m5 m6 m7 m8 m9 m10 m11 m12 : Nat) (now : Nat → Int32) (kept : Nat → Int32) (aside : Nat → Int32) (ik : Int32) (found : Nat → Int32) (carried : Nat → Int32) (T : Mt) (S : Ms) (a1 : Int32) {r : Int32} {now' : Nat → Int32} (hf : fX7_putBack now aside a1 = some (r, now')) : Ct l yX7_putBack wsX7_putBack (rmm 1 22) g (wM g m0 m1 m2 m3 m4 m5 m6 m7 m8 m9 m10 m11 m12 now kept aside ik found carried T S) (wM g m0 m1 m2 m3 m4 m5 m6 m7 m8 m9 m10 m11 m12 (now') kept aside ik found carried T S) [.ref m0, .int a1] (some (.int r)) := by
  refine Ct.mk (by decide) rfl (Nat.le_of_ble_eq_true rfl) ?_
  intro p e s m args below meth c A ls hx hb hr hml hts hown hlocks hA hE hP hD hS hl hAe
  obtain ⟨Qx, hQ⟩ : ∃ Qx : State → Prop, Qx = MQ below (QcG g (wM g m0 m1 m2 m3 m4 m5 m6 m7 m8 m9 m10 m11 m12 now kept aside ik found carried T S) (wM g m0 m1 m2 m3 m4 m5 m6 m7 m8 m9 m10 m11 m12 (now') kept aside ik found carried T S) (some (.int r)) s.heap.size) args s 0 0 A := ⟨_, rfl⟩
  rw [← hQ]
  have hown : s.vm.findClass RX7 = some m.cls := hown
  have hl : lv_has ls 2 [(0, .ref m0), (1, .int a1)] := hl
  have w1 := hts (.fieldLink RX7 16 "RainVaultModel" "aside" "[I") (List.mem_of_getElem? (i := 1) rfl)
  have w2 := hts (.fieldLink RX7 9 "RainVaultModel" "now" "[I") (List.mem_of_getElem? (i := 2) rfl)
  unfold fX7_putBack at hf
  refine lv_aload_n hx hb dX7_putBack_0 rfl (lv_at hl 0 rfl) ?_
  refine va_get (D := g.1) (ci := 7) (v := .ref m3) (C := RX7) (T := TX7) (N := 22) hx hb hts i_X7_putBack_X7 hown hE.1 hP 0 rfl rfl 2 (by decide) w1 (fun _ h9 => h9) rfl dX7_putBack_1 ?_
  refine lv_aload_n hx hb dX7_putBack_4 rfl (lv_at hl 0 rfl) ?_
  refine va_get (D := g.1) (ci := 7) (v := .ref m1) (C := RX7) (T := TX7) (N := 22) hx hb hts i_X7_putBack_X7 hown hE.1 hP 0 rfl rfl 0 (by decide) w2 (fun _ h9 => h9) rfl dX7_putBack_5 ?_
  obtain ⟨f2101, hg, hf⟩ := o1_s hf
  refine Ct.callS (ws' := wM g m0 m1 m2 m3 m4 m5 m6 m7 m8 m9 m10 m11 m12 f2101 kept aside ik found carried T S) (As := [.ref m3, .ref m1]) (rest := []) (st1 := []) (c_X7_copyRow l g m3 m1 120 aside now hg) (va_cwS 2 hts gX7_putBack_X7_copyRow rfl rfl rfl q_X7_copyRow.2 ⟨Nat.le_of_ble_eq_true rfl, Nat.le_of_ble_eq_true rfl⟩) ⟨hx, hb, hml, hown, hts⟩ hE hP hD hS hA [3, 1] rfl rfl rfl rfl rfl hl.1 rfl rfl (Nat.le_of_ble_eq_true rfl) dX7_putBack_8 (fun H locs hP hD hS => ?_)
  refine lv_iload_n hx hb dX7_putBack_11 rfl (lv_at hl 1 rfl) ?_
  obtain ⟨rfl, rfl⟩ := some_p2 hf
  rw [hQ]; exact Ct.iret hx hb hr hlocks hAe hP hD hS dX7_putBack_12
def fX7_isCistern (now : Nat → Int32) (a1 : Int32) : Option (Int32) := rd now 120 (2 : Int32) (fun x101 => o1 (fX7_within a1 (0 : Int32) (x101 - (1 : Int32))) (fun x102 => nb x102 (some x102)))
theorem q_X7_isCistern : yX7_isCistern.cls = RX7 ∧ yX7_isCistern.cls ≠ "java/lang/invoke/MethodHandle" ∧ yX7_isCistern.cls ≠ "java/lang/invoke/VarHandle" ∧ (parseMethodDescriptor yX7_isCistern.desc).map (fun d => d.parameters.length) = some 1 := by decide +kernel
theorem i_X7_isCistern_X7 : ∀ w ∈ u_ws RX7 TX7 22, w ∈ wsX7_isCistern := fun _ h => List.mem_cons_of_mem _ (List.mem_append_right _ (h))
set_option maxHeartbeats 4000000 in
set_option maxRecDepth 100000 in
theorem c_X7_isCistern (l : Launch) (g : gG) (m0 m1 m2 m3 m4 m5 m6 m7 m8 m9 m10 m11 m12 : Nat) (now : Nat → Int32) (kept : Nat → Int32) (aside : Nat → Int32) (ik : Int32) (found : Nat → Int32) (carried : Nat → Int32) (T : Mt) (S : Ms) (a1 : Int32) {r : Int32} (hf : fX7_isCistern now a1 = some r) : Ct l yX7_isCistern wsX7_isCistern (rmm 1 22) g (wM g m0 m1 m2 m3 m4 m5 m6 m7 m8 m9 m10 m11 m12 now kept aside ik found carried T S) (wM g m0 m1 m2 m3 m4 m5 m6 m7 m8 m9 m10 m11 m12 now kept aside ik found carried T S) [.ref m0, .int a1] (some (.int r)) := by
  refine Ct.mk (by decide) rfl (Nat.le_of_ble_eq_true rfl) ?_
  intro p e s m args below meth c A ls hx hb hr hml hts hown hlocks hA hE hP hD hS hl hAe
  obtain ⟨Qx, hQ⟩ : ∃ Qx : State → Prop, Qx = MQ below (QcG g (wM g m0 m1 m2 m3 m4 m5 m6 m7 m8 m9 m10 m11 m12 now kept aside ik found carried T S) (wM g m0 m1 m2 m3 m4 m5 m6 m7 m8 m9 m10 m11 m12 now kept aside ik found carried T S) (some (.int r)) s.heap.size) args s 0 0 A := ⟨_, rfl⟩
  rw [← hQ]
  have hown : s.vm.findClass RX7 = some m.cls := hown
  have hl : lv_has ls 2 [(0, .ref m0), (1, .int a1)] := hl
  have w1 := hts (.fieldLink RX7 9 "RainVaultModel" "now" "[I") (List.mem_of_getElem? (i := 1) rfl)
  unfold fX7_isCistern at hf
  refine lv_iload_n hx hb dX7_isCistern_0 rfl (lv_at hl 1 rfl) ?_
  refine lv_iconst (v := (0 : Int32)) hx hb dX7_isCistern_1 (by decide) ?_
  refine lv_aload_n hx hb dX7_isCistern_2 rfl (lv_at hl 0 rfl) ?_
  refine va_get (D := g.1) (ci := 7) (v := .ref m1) (C := RX7) (T := TX7) (N := 22) hx hb hts i_X7_isCistern_X7 hown hE.1 hP 0 rfl rfl 0 (by decide) w1 (fun _ h9 => h9) rfl dX7_isCistern_3 ?_
  refine lv_iconst (v := (2 : Int32)) hx hb dX7_isCistern_6 (by decide) ?_
  obtain ⟨x101, ex, hin, hf⟩ := rd_s hf
  refine st_iald (f := now) hx hb hE.1 hP 1 0 rfl rfl hin ex dX7_isCistern_7 ?_
  refine lv_iconst (v := (1 : Int32)) hx hb dX7_isCistern_8 (by decide) ?_
  refine lv_isub hx hb dX7_isCistern_9 ?_
  obtain ⟨x102, hg, hf⟩ := o1_s hf
  refine Ct.callS (ws' := wM g m0 m1 m2 m3 m4 m5 m6 m7 m8 m9 m10 m11 m12 now kept aside ik found carried T S) (As := [.int a1, .int (0 : Int32), .int (x101 - (1 : Int32))]) (rest := []) (st1 := [.int x102]) (c_X7_within l g a1 (0 : Int32) (x101 - (1 : Int32)) hg) (va_cwS 3 hts gX7_isCistern_X7_within rfl rfl rfl q_X7_within.2 ⟨Nat.le_of_ble_eq_true rfl, Nat.le_of_ble_eq_true rfl⟩) ⟨hx, hb, hml, hown, hts⟩ hE hP hD hS hA [] rfl rfl rfl rfl rfl hl.1 rfl rfl (Nat.le_of_ble_eq_true rfl) dX7_isCistern_10 (fun H locs hP hD hS => ?_)
  obtain ⟨hn, hf⟩ := nb_s hf
  obtain rfl := Option.some.inj hf
  rw [hQ]; exact Ct.zret hx hb hr hn hlocks hAe hP hD hS dX7_isCistern_13
def fX7_at (a1 : Int32) (a2 : Int32) : Option (Int32) := some (((16 : Int32) + ((10 : Int32) * a1)) + a2)
theorem q_X7_at : yX7_at.cls = RX7 ∧ yX7_at.cls ≠ "java/lang/invoke/MethodHandle" ∧ yX7_at.cls ≠ "java/lang/invoke/VarHandle" ∧ (parseMethodDescriptor yX7_at.desc).map (fun d => d.parameters.length) = some 2 := by decide +kernel
set_option maxHeartbeats 4000000 in
set_option maxRecDepth 100000 in
theorem c_X7_at (l : Launch) (g : gG) (a1 : Int32) (a2 : Int32) {r : Int32} (hf : fX7_at a1 a2 = some r) : Ct l yX7_at wsX7_at (rmm 0 0) g (wNil g  ) (wNil g  ) [.int a1, .int a2] (some (.int r)) := by
  refine Ct.mk (by decide) rfl (Nat.le_of_ble_eq_true rfl) ?_
  intro p e s m args below meth c A ls hx hb hr hml hts hown hlocks hA hE hP hD hS hl hAe
  obtain ⟨Qx, hQ⟩ : ∃ Qx : State → Prop, Qx = MQ below (QcG g (wNil g  ) (wNil g  ) (some (.int r)) s.heap.size) args s 0 0 A := ⟨_, rfl⟩
  rw [← hQ]
  have hown : s.vm.findClass RX7 = some m.cls := hown
  have hl : lv_has ls 2 [(0, .int a1), (1, .int a2)] := hl
  unfold fX7_at at hf
  refine lv_bipush (v := (16 : Int32)) hx hb dX7_at_0 (by decide) ?_
  refine lv_bipush (v := (10 : Int32)) hx hb dX7_at_2 (by decide) ?_
  refine lv_iload_n hx hb dX7_at_4 rfl (lv_at hl 0 rfl) ?_
  refine lv_imul hx hb dX7_at_5 ?_
  refine lv_iadd hx hb dX7_at_6 ?_
  refine lv_iload_n hx hb dX7_at_7 rfl (lv_at hl 1 rfl) ?_
  refine lv_iadd hx hb dX7_at_8 ?_
  obtain rfl := Option.some.inj hf
  rw [hQ]; exact Ct.iret hx hb hr hlocks hAe hP hD hS dX7_at_9
def fX7_cisternIs (now : Nat → Int32) (a1 : Int32) (a2 : Int32) : Option (Int32) := o1 (fX7_at a1 a2) (fun x101 => rd now 120 x101 (fun x102 => some x102))
theorem q_X7_cisternIs : yX7_cisternIs.cls = RX7 ∧ yX7_cisternIs.cls ≠ "java/lang/invoke/MethodHandle" ∧ yX7_cisternIs.cls ≠ "java/lang/invoke/VarHandle" ∧ (parseMethodDescriptor yX7_cisternIs.desc).map (fun d => d.parameters.length) = some 2 := by decide +kernel
theorem i_X7_cisternIs_X7 : ∀ w ∈ u_ws RX7 TX7 22, w ∈ wsX7_cisternIs := fun _ h => List.mem_cons_of_mem _ (List.mem_append_right _ (h))
set_option maxHeartbeats 4000000 in
set_option maxRecDepth 100000 in
theorem c_X7_cisternIs (l : Launch) (g : gG) (m0 m1 m2 m3 m4 m5 m6 m7 m8 m9 m10 m11 m12 : Nat) (now : Nat → Int32) (kept : Nat → Int32) (aside : Nat → Int32) (ik : Int32) (found : Nat → Int32) (carried : Nat → Int32) (T : Mt) (S : Ms) (a1 : Int32) (a2 : Int32) {r : Int32} (hf : fX7_cisternIs now a1 a2 = some r) : Ct l yX7_cisternIs wsX7_cisternIs (rmm 1 21) g (wM g m0 m1 m2 m3 m4 m5 m6 m7 m8 m9 m10 m11 m12 now kept aside ik found carried T S) (wM g m0 m1 m2 m3 m4 m5 m6 m7 m8 m9 m10 m11 m12 now kept aside ik found carried T S) [.ref m0, .int a1, .int a2] (some (.int r)) := by
  refine Ct.mk (by decide) rfl (Nat.le_of_ble_eq_true rfl) ?_
  intro p e s m args below meth c A ls hx hb hr hml hts hown hlocks hA hE hP hD hS hl hAe
  obtain ⟨Qx, hQ⟩ : ∃ Qx : State → Prop, Qx = MQ below (QcG g (wM g m0 m1 m2 m3 m4 m5 m6 m7 m8 m9 m10 m11 m12 now kept aside ik found carried T S) (wM g m0 m1 m2 m3 m4 m5 m6 m7 m8 m9 m10 m11 m12 now kept aside ik found carried T S) (some (.int r)) s.heap.size) args s 0 0 A := ⟨_, rfl⟩
  rw [← hQ]
  have hown : s.vm.findClass RX7 = some m.cls := hown
  have hl : lv_has ls 3 [(0, .ref m0), (1, .int a1), (2, .int a2)] := hl
  have w1 := hts (.fieldLink RX7 9 "RainVaultModel" "now" "[I") (List.mem_of_getElem? (i := 1) rfl)
  unfold fX7_cisternIs at hf
  refine lv_aload_n hx hb dX7_cisternIs_0 rfl (lv_at hl 0 rfl) ?_
  refine va_get (D := g.1) (ci := 7) (v := .ref m1) (C := RX7) (T := TX7) (N := 22) hx hb hts i_X7_cisternIs_X7 hown hE.1 hP 0 rfl rfl 0 (by decide) w1 (fun _ h9 => h9) rfl dX7_cisternIs_1 ?_
  refine lv_iload_n hx hb dX7_cisternIs_4 rfl (lv_at hl 1 rfl) ?_
  refine lv_iload_n hx hb dX7_cisternIs_5 rfl (lv_at hl 2 rfl) ?_
  obtain ⟨x101, hg, hf⟩ := o1_s hf
  refine Ct.callS (ws' := wM g m0 m1 m2 m3 m4 m5 m6 m7 m8 m9 m10 m11 m12 now kept aside ik found carried T S) (As := [.int a1, .int a2]) (rest := [.ref m1]) (st1 := [.int x101, .ref m1]) (c_X7_at l g a1 a2 hg) (va_cwS 2 hts gX7_cisternIs_X7_at rfl rfl rfl q_X7_at.2 ⟨Nat.le_of_ble_eq_true rfl, Nat.le_of_ble_eq_true rfl⟩) ⟨hx, hb, hml, hown, hts⟩ hE hP hD hS hA [] rfl rfl rfl rfl rfl hl.1 rfl rfl (Nat.le_of_ble_eq_true rfl) dX7_cisternIs_6 (fun H locs hP hD hS => ?_)
  obtain ⟨x102, ex, hin, hf⟩ := rd_s hf
  refine st_iald (f := now) hx hb hE.1 hP 1 0 rfl rfl hin ex dX7_cisternIs_9 ?_
  obtain rfl := Option.some.inj hf
  rw [hQ]; exact Ct.iret hx hb hr hlocks hAe hP hD hS dX7_cisternIs_10
def fX7_isKind (a1 : Int32) : Option (Int32) := o1 (fX7_within a1 (0 : Int32) (6 : Int32)) (fun x101 => nb x101 (some x101))
theorem q_X7_isKind : yX7_isKind.cls = RX7 ∧ yX7_isKind.cls ≠ "java/lang/invoke/MethodHandle" ∧ yX7_isKind.cls ≠ "java/lang/invoke/VarHandle" ∧ (parseMethodDescriptor yX7_isKind.desc).map (fun d => d.parameters.length) = some 1 := by decide +kernel
set_option maxHeartbeats 4000000 in
set_option maxRecDepth 100000 in
theorem c_X7_isKind (l : Launch) (g : gG) (a1 : Int32) {r : Int32} (hf : fX7_isKind a1 = some r) : Ct l yX7_isKind wsX7_isKind (rmm 1 22) g (wNil g  ) (wNil g  ) [.int a1] (some (.int r)) := by
  refine Ct.mk (by decide) rfl (Nat.le_of_ble_eq_true rfl) ?_
  intro p e s m args below meth c A ls hx hb hr hml hts hown hlocks hA hE hP hD hS hl hAe
  obtain ⟨Qx, hQ⟩ : ∃ Qx : State → Prop, Qx = MQ below (QcG g (wNil g  ) (wNil g  ) (some (.int r)) s.heap.size) args s 0 0 A := ⟨_, rfl⟩
  rw [← hQ]
  have hown : s.vm.findClass RX7 = some m.cls := hown
  have hl : lv_has ls 1 [(0, .int a1)] := hl
  unfold fX7_isKind at hf
  refine lv_iload_n hx hb dX7_isKind_0 rfl (lv_at hl 0 rfl) ?_
  refine lv_iconst (v := (0 : Int32)) hx hb dX7_isKind_1 (by decide) ?_
  refine lv_bipush (v := (6 : Int32)) hx hb dX7_isKind_2 (by decide) ?_
  obtain ⟨x101, hg, hf⟩ := o1_s hf
  refine Ct.callS (ws' := wNil g  ) (As := [.int a1, .int (0 : Int32), .int (6 : Int32)]) (rest := []) (st1 := [.int x101]) (c_X7_within l g a1 (0 : Int32) (6 : Int32) hg) (va_cwS 3 hts gX7_isKind_X7_within rfl rfl rfl q_X7_within.2 ⟨Nat.le_of_ble_eq_true rfl, Nat.le_of_ble_eq_true rfl⟩) ⟨hx, hb, hml, hown, hts⟩ hE hP hD hS hA [] rfl rfl rfl rfl rfl hl.1 rfl rfl (Nat.le_of_ble_eq_true rfl) dX7_isKind_4 (fun H locs hP hD hS => ?_)
  obtain ⟨hn, hf⟩ := nb_s hf
  obtain rfl := Option.some.inj hf
  rw [hQ]; exact Ct.zret hx hb hr hn hlocks hAe hP hD hS dX7_isKind_7
def fX7_built_L85 (x6 : Int32) (kx : (Nat → Int32) → Option (Int32 × (Nat → Int32))) : Nat → (Nat → Int32) → Int32 → Option (Int32 × (Nat → Int32))
  | 0, _, _ => none
  | k + 1, now, x7 => if (4 : Int32) ≤ x7 then (kx now) else (o1 (fX7_at x6 ((6 : Int32) + x7)) (fun x116 => wr now 120 x116 (1 : Int32) (fun f117 => fX7_built_L85 x6 kx k f117 (x7 + (1 : Int32)))))
def fX7_built (now : Nat → Int32) (a1 : Int32) (a2 : Int32) (a3 : Int32) (a4 : Int32) (a5 : Int32) : Option (Int32 × (Nat → Int32)) := rd now 120 (2 : Int32) (fun x101 => o1 (fX7_at x101 (0 : Int32)) (fun x102 => wr now 120 x102 a1 (fun f103 => o1 (fX7_at x101 (1 : Int32)) (fun x104 => wr f103 120 x104 a2 (fun f105 => o1 (fX7_at x101 (2 : Int32)) (fun x106 => wr f105 120 x106 a3 (fun f107 => o1 (fX7_at x101 (3 : Int32)) (fun x108 => wr f107 120 x108 a4 (fun f109 => o1 (fX7_at x101 (4 : Int32)) (fun x110 => wr f109 120 x110 a5 (fun f111 => o1 (fX7_at x101 (5 : Int32)) (fun x112 => wr f111 120 x112 (0 : Int32) (fun f113 => fX7_built_L85 x101 (fun now118 => rd now118 120 (2 : Int32) (fun x119 => wr now118 120 (2 : Int32) (x119 + (1 : Int32)) (fun f120 => some (x101, f120)))) fu f113 (0 : Int32))))))))))))))
theorem q_X7_built : yX7_built.cls = RX7 ∧ yX7_built.cls ≠ "java/lang/invoke/MethodHandle" ∧ yX7_built.cls ≠ "java/lang/invoke/VarHandle" ∧ (parseMethodDescriptor yX7_built.desc).map (fun d => d.parameters.length) = some 5 := by decide +kernel
theorem i_X7_built_X7 : ∀ w ∈ u_ws RX7 TX7 22, w ∈ wsX7_built := fun _ h => List.mem_cons_of_mem _ (List.mem_append_right _ (h))
set_option maxHeartbeats 4000000 in
set_option maxRecDepth 100000 in
theorem c_X7_built (l : Launch) (g : gG) (m0 m1 m2 m3 m4 m5 m6 m7 m8 m9 m10 m11 m12 : Nat) (now : Nat → Int32) (kept : Nat → Int32) (aside : Nat → Int32) (ik : Int32) (found : Nat → Int32) (carried : Nat → Int32) (T : Mt) (S : Ms) (a1 : Int32) (a2 : Int32) (a3 : Int32) (a4 : Int32) (a5 : Int32) {r : Int32} {now' : Nat → Int32} (hf : fX7_built now a1 a2 a3 a4 a5 = some (r, now')) : Ct l yX7_built wsX7_built (rmm 1 21) g (wM g m0 m1 m2 m3 m4 m5 m6 m7 m8 m9 m10 m11 m12 now kept aside ik found carried T S) (wM g m0 m1 m2 m3 m4 m5 m6 m7 m8 m9 m10 m11 m12 (now') kept aside ik found carried T S) [.ref m0, .int a1, .int a2, .int a3, .int a4, .int a5] (some (.int r)) := by
  refine Ct.mk (by decide) rfl (Nat.le_of_ble_eq_true rfl) ?_
  intro p e s m args below meth c A ls hx hb hr hml hts hown hlocks hA hE hP hD hS hl hAe
  obtain ⟨Qx, hQ⟩ : ∃ Qx : State → Prop, Qx = MQ below (QcG g (wM g m0 m1 m2 m3 m4 m5 m6 m7 m8 m9 m10 m11 m12 now kept aside ik found carried T S) (wM g m0 m1 m2 m3 m4 m5 m6 m7 m8 m9 m10 m11 m12 (now') kept aside ik found carried T S) (some (.int r)) s.heap.size) args s 0 0 A := ⟨_, rfl⟩
  rw [← hQ]
  have hown : s.vm.findClass RX7 = some m.cls := hown
  have hl : lv_has ls 8 [(0, .ref m0), (1, .int a1), (2, .int a2), (3, .int a3), (4, .int a4), (5, .int a5)] := hl
  have w1 := hts (.fieldLink RX7 9 "RainVaultModel" "now" "[I") (List.mem_of_getElem? (i := 1) rfl)
  have L85 : ∀ (x6 : Int32) (kx : (Nat → Int32) → Option (Int32 × (Nat → Int32))) (k : Nat) (now : Nat → Int32) (x7 : Int32) (H : Heap) (locs : List Loc) (ls : Array Slot), fX7_built_L85 x6 kx k now x7 = some (r, now') → va_P g.1 vwK (wM g m0 m1 m2 m3 m4 m5 m6 m7 m8 m9 m10 m11 m12 now kept aside ik found carried T S) H → va_D A (wM g m0 m1 m2 m3 m4 m5 m6 m7 m8 m9 m10 m11 m12 now kept aside ik found carried T S) → va_S A s.heap H locs → lv_has ls 8 [(0, .ref m0), (6, .int x6), (7, .int x7)] → (∀ (now : Nat → Int32) (H : Heap) (locs : List Loc) (ls : Array Slot), kx now = some (r, now') → va_P g.1 vwK (wM g m0 m1 m2 m3 m4 m5 m6 m7 m8 m9 m10 m11 m12 now kept aside ik found carried T S) H → va_D A (wM g m0 m1 m2 m3 m4 m5 m6 m7 m8 m9 m10 m11 m12 now kept aside ik found carried T S) → va_S A s.heap H locs → lv_has ls 8 [(0, .ref m0), (6, .int x6)] → W p l e (rmm 1 21) s m args below meth c H locs 0 0 Qx (F0 m 113 ls [])) → W p l e (rmm 1 21) s m args below meth c H locs 0 0 Qx (F0 m 85 ls []) := by
    intro x6 kx k
    induction k with
    | zero => intro now x7 H locs ls hf; exact nomatch (show (none : Option (Int32 × (Nat → Int32))) = some _ from hf)
    | succ k ih =>
      intro now x7 H locs ls hf hP hD hS hl hk
      rw [fX7_built_L85] at hf
      refine lv_iload hx hb dX7_built_85 (lv_at hl 2 rfl) ?_
      refine lv_iconst (v := (4 : Int32)) hx hb dX7_built_87 (by decide) ?_
      refine lv_icmp_ge (tgt := 113) hx hb dX7_built_88 (by decide) (fun hc => ?_) (fun hc => ?_)
      · have hf := if_t hf hc
        exact hk _ _ _ _  hf hP hD hS (lv_sub hl [0, 1] rfl)
      · have hf := if_f hf hc
        refine lv_aload_n hx hb dX7_built_91 rfl (lv_at hl 0 rfl) ?_
        refine va_get (D := g.1) (ci := 7) (v := .ref m1) (C := RX7) (T := TX7) (N := 22) hx hb hts i_X7_built_X7 hown hE.1 hP 0 rfl rfl 0 (by decide) w1 (fun _ h9 => h9) rfl dX7_built_92 ?_
        refine lv_iload hx hb dX7_built_95 (lv_at hl 1 rfl) ?_
        refine lv_bipush (v := (6 : Int32)) hx hb dX7_built_97 (by decide) ?_
        refine lv_iload hx hb dX7_built_99 (lv_at hl 2 rfl) ?_
        refine lv_iadd hx hb dX7_built_101 ?_
        obtain ⟨x116, hg, hf⟩ := o1_s hf
        refine Ct.callS (ws' := wM g m0 m1 m2 m3 m4 m5 m6 m7 m8 m9 m10 m11 m12 now kept aside ik found carried T S) (As := [.int x6, .int ((6 : Int32) + x7)]) (rest := [.ref m1]) (st1 := [.int x116, .ref m1]) (c_X7_at l g x6 ((6 : Int32) + x7) hg) (va_cwS 2 hts gX7_built_X7_at rfl rfl rfl q_X7_at.2 ⟨Nat.le_of_ble_eq_true rfl, Nat.le_of_ble_eq_true rfl⟩) ⟨hx, hb, hml, hown, hts⟩ hE hP hD hS hA [] rfl rfl rfl rfl rfl hl.1 rfl rfl (Nat.le_of_ble_eq_true rfl) dX7_built_102 (fun H locs hP hD hS => ?_)
        refine lv_iconst (v := (1 : Int32)) hx hb dX7_built_105 (by decide) ?_
        obtain ⟨f117, ef, hin, hf⟩ := wr_s hf
        refine st_iast (ws' := wM g m0 m1 m2 m3 m4 m5 m6 m7 m8 m9 m10 m11 m12 f117 kept aside ik found carried T S) (f := now) (f2 := f117) hx hb hE.1 hP hD hS 1 0 rfl rfl hin ef rfl dX7_built_106 (fun H locs hP hD hS => ?_)
        refine lv_iinc (v := (x7 + (1 : Int32))) (lv' := [(7, .int (x7 + (1 : Int32))), (0, .ref m0), (6, .int x6)]) hx hb dX7_built_107 hl (k := 2) rfl rfl (by decide) rfl (fun ls hl => ?_)
        refine lv_goto (tgt := 85) hx hb dX7_built_110 (by decide) ?_
        exact ih _ _ _ _ _  hf hP hD hS (lv_sub hl [1, 2, 0] rfl) hk
  unfold fX7_built at hf
  refine lv_aload_n hx hb dX7_built_0 rfl (lv_at hl 0 rfl) ?_
  refine va_get (D := g.1) (ci := 7) (v := .ref m1) (C := RX7) (T := TX7) (N := 22) hx hb hts i_X7_built_X7 hown hE.1 hP 0 rfl rfl 0 (by decide) w1 (fun _ h9 => h9) rfl dX7_built_1 ?_
  refine lv_iconst (v := (2 : Int32)) hx hb dX7_built_4 (by decide) ?_
  obtain ⟨x101, ex, hin, hf⟩ := rd_s hf
  refine st_iald (f := now) hx hb hE.1 hP 1 0 rfl rfl hin ex dX7_built_5 ?_
  refine lv_istore (lv' := [(6, .int x101), (0, .ref m0), (1, .int a1), (2, .int a2), (3, .int a3), (4, .int a4), (5, .int a5)]) hx hb dX7_built_6 hl (by decide) rfl (fun ls hl => ?_)
  refine lv_aload_n hx hb dX7_built_8 rfl (lv_at hl 1 rfl) ?_
  refine va_get (D := g.1) (ci := 7) (v := .ref m1) (C := RX7) (T := TX7) (N := 22) hx hb hts i_X7_built_X7 hown hE.1 hP 0 rfl rfl 0 (by decide) w1 (fun _ h9 => h9) rfl dX7_built_9 ?_
  refine lv_iload hx hb dX7_built_12 (lv_at hl 0 rfl) ?_
  refine lv_iconst (v := (0 : Int32)) hx hb dX7_built_14 (by decide) ?_
  obtain ⟨x102, hg, hf⟩ := o1_s hf
  refine Ct.callS (ws' := wM g m0 m1 m2 m3 m4 m5 m6 m7 m8 m9 m10 m11 m12 now kept aside ik found carried T S) (As := [.int x101, .int (0 : Int32)]) (rest := [.ref m1]) (st1 := [.int x102, .ref m1]) (c_X7_at l g x101 (0 : Int32) hg) (va_cwS 2 hts gX7_built_X7_at rfl rfl rfl q_X7_at.2 ⟨Nat.le_of_ble_eq_true rfl, Nat.le_of_ble_eq_true rfl⟩) ⟨hx, hb, hml, hown, hts⟩ hE hP hD hS hA [] rfl rfl rfl rfl rfl hl.1 rfl rfl (Nat.le_of_ble_eq_true rfl) dX7_built_15 (fun H locs hP hD hS => ?_)
  refine lv_iload_n hx hb dX7_built_18 rfl (lv_at hl 2 rfl) ?_
  obtain ⟨f103, ef, hin, hf⟩ := wr_s hf
  refine st_iast (ws' := wM g m0 m1 m2 m3 m4 m5 m6 m7 m8 m9 m10 m11 m12 f103 kept aside ik found carried T S) (f := now) (f2 := f103) hx hb hE.1 hP hD hS 1 0 rfl rfl hin ef rfl dX7_built_19 (fun H locs hP hD hS => ?_)
  refine lv_aload_n hx hb dX7_built_20 rfl (lv_at hl 1 rfl) ?_
  refine va_get (D := g.1) (ci := 7) (v := .ref m1) (C := RX7) (T := TX7) (N := 22) hx hb hts i_X7_built_X7 hown hE.1 hP 0 rfl rfl 0 (by decide) w1 (fun _ h9 => h9) rfl dX7_built_21 ?_
  refine lv_iload hx hb dX7_built_24 (lv_at hl 0 rfl) ?_
  refine lv_iconst (v := (1 : Int32)) hx hb dX7_built_26 (by decide) ?_
  obtain ⟨x104, hg, hf⟩ := o1_s hf
  refine Ct.callS (ws' := wM g m0 m1 m2 m3 m4 m5 m6 m7 m8 m9 m10 m11 m12 f103 kept aside ik found carried T S) (As := [.int x101, .int (1 : Int32)]) (rest := [.ref m1]) (st1 := [.int x104, .ref m1]) (c_X7_at l g x101 (1 : Int32) hg) (va_cwS 2 hts gX7_built_X7_at rfl rfl rfl q_X7_at.2 ⟨Nat.le_of_ble_eq_true rfl, Nat.le_of_ble_eq_true rfl⟩) ⟨hx, hb, hml, hown, hts⟩ hE hP hD hS hA [] rfl rfl rfl rfl rfl hl.1 rfl rfl (Nat.le_of_ble_eq_true rfl) dX7_built_27 (fun H locs hP hD hS => ?_)
  refine lv_iload_n hx hb dX7_built_30 rfl (lv_at hl 3 rfl) ?_
  obtain ⟨f105, ef, hin, hf⟩ := wr_s hf
  refine st_iast (ws' := wM g m0 m1 m2 m3 m4 m5 m6 m7 m8 m9 m10 m11 m12 f105 kept aside ik found carried T S) (f := f103) (f2 := f105) hx hb hE.1 hP hD hS 1 0 rfl rfl hin ef rfl dX7_built_31 (fun H locs hP hD hS => ?_)
  refine lv_aload_n hx hb dX7_built_32 rfl (lv_at hl 1 rfl) ?_
  refine va_get (D := g.1) (ci := 7) (v := .ref m1) (C := RX7) (T := TX7) (N := 22) hx hb hts i_X7_built_X7 hown hE.1 hP 0 rfl rfl 0 (by decide) w1 (fun _ h9 => h9) rfl dX7_built_33 ?_
  refine lv_iload hx hb dX7_built_36 (lv_at hl 0 rfl) ?_
  refine lv_iconst (v := (2 : Int32)) hx hb dX7_built_38 (by decide) ?_
  obtain ⟨x106, hg, hf⟩ := o1_s hf
  refine Ct.callS (ws' := wM g m0 m1 m2 m3 m4 m5 m6 m7 m8 m9 m10 m11 m12 f105 kept aside ik found carried T S) (As := [.int x101, .int (2 : Int32)]) (rest := [.ref m1]) (st1 := [.int x106, .ref m1]) (c_X7_at l g x101 (2 : Int32) hg) (va_cwS 2 hts gX7_built_X7_at rfl rfl rfl q_X7_at.2 ⟨Nat.le_of_ble_eq_true rfl, Nat.le_of_ble_eq_true rfl⟩) ⟨hx, hb, hml, hown, hts⟩ hE hP hD hS hA [] rfl rfl rfl rfl rfl hl.1 rfl rfl (Nat.le_of_ble_eq_true rfl) dX7_built_39 (fun H locs hP hD hS => ?_)
  refine lv_iload_n hx hb dX7_built_42 rfl (lv_at hl 4 rfl) ?_
  obtain ⟨f107, ef, hin, hf⟩ := wr_s hf
  refine st_iast (ws' := wM g m0 m1 m2 m3 m4 m5 m6 m7 m8 m9 m10 m11 m12 f107 kept aside ik found carried T S) (f := f105) (f2 := f107) hx hb hE.1 hP hD hS 1 0 rfl rfl hin ef rfl dX7_built_43 (fun H locs hP hD hS => ?_)
  refine lv_aload_n hx hb dX7_built_44 rfl (lv_at hl 1 rfl) ?_
  refine va_get (D := g.1) (ci := 7) (v := .ref m1) (C := RX7) (T := TX7) (N := 22) hx hb hts i_X7_built_X7 hown hE.1 hP 0 rfl rfl 0 (by decide) w1 (fun _ h9 => h9) rfl dX7_built_45 ?_
  refine lv_iload hx hb dX7_built_48 (lv_at hl 0 rfl) ?_
  refine lv_iconst (v := (3 : Int32)) hx hb dX7_built_50 (by decide) ?_
  obtain ⟨x108, hg, hf⟩ := o1_s hf
  refine Ct.callS (ws' := wM g m0 m1 m2 m3 m4 m5 m6 m7 m8 m9 m10 m11 m12 f107 kept aside ik found carried T S) (As := [.int x101, .int (3 : Int32)]) (rest := [.ref m1]) (st1 := [.int x108, .ref m1]) (c_X7_at l g x101 (3 : Int32) hg) (va_cwS 2 hts gX7_built_X7_at rfl rfl rfl q_X7_at.2 ⟨Nat.le_of_ble_eq_true rfl, Nat.le_of_ble_eq_true rfl⟩) ⟨hx, hb, hml, hown, hts⟩ hE hP hD hS hA [] rfl rfl rfl rfl rfl hl.1 rfl rfl (Nat.le_of_ble_eq_true rfl) dX7_built_51 (fun H locs hP hD hS => ?_)
  refine lv_iload hx hb dX7_built_54 (lv_at hl 5 rfl) ?_
  obtain ⟨f109, ef, hin, hf⟩ := wr_s hf
  refine st_iast (ws' := wM g m0 m1 m2 m3 m4 m5 m6 m7 m8 m9 m10 m11 m12 f109 kept aside ik found carried T S) (f := f107) (f2 := f109) hx hb hE.1 hP hD hS 1 0 rfl rfl hin ef rfl dX7_built_56 (fun H locs hP hD hS => ?_)
  refine lv_aload_n hx hb dX7_built_57 rfl (lv_at hl 1 rfl) ?_
  refine va_get (D := g.1) (ci := 7) (v := .ref m1) (C := RX7) (T := TX7) (N := 22) hx hb hts i_X7_built_X7 hown hE.1 hP 0 rfl rfl 0 (by decide) w1 (fun _ h9 => h9) rfl dX7_built_58 ?_
  refine lv_iload hx hb dX7_built_61 (lv_at hl 0 rfl) ?_
  refine lv_iconst (v := (4 : Int32)) hx hb dX7_built_63 (by decide) ?_
  obtain ⟨x110, hg, hf⟩ := o1_s hf
  refine Ct.callS (ws' := wM g m0 m1 m2 m3 m4 m5 m6 m7 m8 m9 m10 m11 m12 f109 kept aside ik found carried T S) (As := [.int x101, .int (4 : Int32)]) (rest := [.ref m1]) (st1 := [.int x110, .ref m1]) (c_X7_at l g x101 (4 : Int32) hg) (va_cwS 2 hts gX7_built_X7_at rfl rfl rfl q_X7_at.2 ⟨Nat.le_of_ble_eq_true rfl, Nat.le_of_ble_eq_true rfl⟩) ⟨hx, hb, hml, hown, hts⟩ hE hP hD hS hA [] rfl rfl rfl rfl rfl hl.1 rfl rfl (Nat.le_of_ble_eq_true rfl) dX7_built_64 (fun H locs hP hD hS => ?_)
  refine lv_iload hx hb dX7_built_67 (lv_at hl 6 rfl) ?_
  obtain ⟨f111, ef, hin, hf⟩ := wr_s hf
  refine st_iast (ws' := wM g m0 m1 m2 m3 m4 m5 m6 m7 m8 m9 m10 m11 m12 f111 kept aside ik found carried T S) (f := f109) (f2 := f111) hx hb hE.1 hP hD hS 1 0 rfl rfl hin ef rfl dX7_built_69 (fun H locs hP hD hS => ?_)
  refine lv_aload_n hx hb dX7_built_70 rfl (lv_at hl 1 rfl) ?_
  refine va_get (D := g.1) (ci := 7) (v := .ref m1) (C := RX7) (T := TX7) (N := 22) hx hb hts i_X7_built_X7 hown hE.1 hP 0 rfl rfl 0 (by decide) w1 (fun _ h9 => h9) rfl dX7_built_71 ?_
  refine lv_iload hx hb dX7_built_74 (lv_at hl 0 rfl) ?_
  refine lv_iconst (v := (5 : Int32)) hx hb dX7_built_76 (by decide) ?_
  obtain ⟨x112, hg, hf⟩ := o1_s hf
  refine Ct.callS (ws' := wM g m0 m1 m2 m3 m4 m5 m6 m7 m8 m9 m10 m11 m12 f111 kept aside ik found carried T S) (As := [.int x101, .int (5 : Int32)]) (rest := [.ref m1]) (st1 := [.int x112, .ref m1]) (c_X7_at l g x101 (5 : Int32) hg) (va_cwS 2 hts gX7_built_X7_at rfl rfl rfl q_X7_at.2 ⟨Nat.le_of_ble_eq_true rfl, Nat.le_of_ble_eq_true rfl⟩) ⟨hx, hb, hml, hown, hts⟩ hE hP hD hS hA [] rfl rfl rfl rfl rfl hl.1 rfl rfl (Nat.le_of_ble_eq_true rfl) dX7_built_77 (fun H locs hP hD hS => ?_)
  refine lv_iconst (v := (0 : Int32)) hx hb dX7_built_80 (by decide) ?_
  obtain ⟨f113, ef, hin, hf⟩ := wr_s hf
  refine st_iast (ws' := wM g m0 m1 m2 m3 m4 m5 m6 m7 m8 m9 m10 m11 m12 f113 kept aside ik found carried T S) (f := f111) (f2 := f113) hx hb hE.1 hP hD hS 1 0 rfl rfl hin ef rfl dX7_built_81 (fun H locs hP hD hS => ?_)
  refine lv_iconst (v := (0 : Int32)) hx hb dX7_built_82 (by decide) ?_
  refine lv_istore (lv' := [(7, .int (0 : Int32)), (6, .int x101), (0, .ref m0), (1, .int a1), (2, .int a2), (3, .int a3), (4, .int a4), (5, .int a5)]) hx hb dX7_built_83 hl (by decide) rfl (fun ls hl => ?_)
  refine L85 _ _ _ _ _ _ _ _  hf hP hD hS (lv_sub hl [2, 1, 0] rfl) (fun now118 H locs ls hf hP hD hS hl => ?_)
  refine lv_aload_n hx hb dX7_built_113 rfl (lv_at hl 0 rfl) ?_
  refine va_get (D := g.1) (ci := 7) (v := .ref m1) (C := RX7) (T := TX7) (N := 22) hx hb hts i_X7_built_X7 hown hE.1 hP 0 rfl rfl 0 (by decide) w1 (fun _ h9 => h9) rfl dX7_built_114 ?_
  refine lv_iconst (v := (2 : Int32)) hx hb dX7_built_117 (by decide) ?_
  refine lv_dup2_11 hx hb dX7_built_118 rfl rfl ?_
  obtain ⟨x119, ex, hin, hf⟩ := rd_s hf
  refine st_iald (f := now118) hx hb hE.1 hP 1 0 rfl rfl hin ex dX7_built_119 ?_
  refine lv_iconst (v := (1 : Int32)) hx hb dX7_built_120 (by decide) ?_
  refine lv_iadd hx hb dX7_built_121 ?_
  obtain ⟨f120, ef, hin, hf⟩ := wr_s hf
  refine st_iast (ws' := wM g m0 m1 m2 m3 m4 m5 m6 m7 m8 m9 m10 m11 m12 f120 kept aside ik found carried T S) (f := now118) (f2 := f120) hx hb hE.1 hP hD hS 1 0 rfl rfl hin ef rfl dX7_built_122 (fun H locs hP hD hS => ?_)
  refine lv_iload hx hb dX7_built_123 (lv_at hl 1 rfl) ?_
  obtain ⟨rfl, rfl⟩ := some_p2 hf
  rw [hQ]; exact Ct.iret hx hb hr hlocks hAe hP hD hS dX7_built_125
def fX7_cistern (now : Nat → Int32) (found : Nat → Int32) (a1 : Int32) (a2 : Int32) : Option (Int32 × (Nat → Int32) × (Nat → Int32)) := o1 (fX7_isKind a1) (fun x101 => if x101 = 0 then (o2 (fX7_finding found (-1000001 : Int32)) (fun x102 found103 => some (x102, now, found103))) else (o1 (fX7_within a2 (1 : Int32) (40 : Int32)) (fun x104 => if x104 = 0 then (o2 (fX7_finding found (-1000001 : Int32)) (fun x110 found111 => some (x110, now, found111))) else (rd now 120 (2 : Int32) (fun x105 => if x105 = (8 : Int32) then (o2 (fX7_finding found (-1000002 : Int32)) (fun x108 found109 => some (x108, now, found109))) else (o2 (fX7_built now a1 a2 (0 : Int32) (1 : Int32) (-1 : Int32)) (fun x106 now107 => some (x106, now107, found))))))))
theorem q_X7_cistern : yX7_cistern.cls = RX7 ∧ yX7_cistern.cls ≠ "java/lang/invoke/MethodHandle" ∧ yX7_cistern.cls ≠ "java/lang/invoke/VarHandle" ∧ (parseMethodDescriptor yX7_cistern.desc).map (fun d => d.parameters.length) = some 2 := by decide +kernel
theorem i_X7_cistern_X7 : ∀ w ∈ u_ws RX7 TX7 22, w ∈ wsX7_cistern := fun _ h => List.mem_cons_of_mem _ (List.mem_append_right _ (h))
set_option maxHeartbeats 4000000 in
set_option maxRecDepth 100000 in
theorem c_X7_cistern (l : Launch) (g : gG) (m0 m1 m2 m3 m4 m5 m6 m7 m8 m9 m10 m11 m12 : Nat) (now : Nat → Int32) (kept : Nat → Int32) (aside : Nat → Int32) (ik : Int32) (found : Nat → Int32) (carried : Nat → Int32) (T : Mt) (S : Ms) (a1 : Int32) (a2 : Int32) {r : Int32} {now' : Nat → Int32} {found' : Nat → Int32} (hf : fX7_cistern now found a1 a2 = some (r, now', found')) : Ct l yX7_cistern wsX7_cistern (rmm 2 48) g (wM g m0 m1 m2 m3 m4 m5 m6 m7 m8 m9 m10 m11 m12 now kept aside ik found carried T S) (wM g m0 m1 m2 m3 m4 m5 m6 m7 m8 m9 m10 m11 m12 (now') kept aside ik (found') carried T S) [.ref m0, .int a1, .int a2] (some (.int r)) := by
  refine Ct.mk (by decide) rfl (Nat.le_of_ble_eq_true rfl) ?_
  intro p e s m args below meth c A ls hx hb hr hml hts hown hlocks hA hE hP hD hS hl hAe
  obtain ⟨Qx, hQ⟩ : ∃ Qx : State → Prop, Qx = MQ below (QcG g (wM g m0 m1 m2 m3 m4 m5 m6 m7 m8 m9 m10 m11 m12 now kept aside ik found carried T S) (wM g m0 m1 m2 m3 m4 m5 m6 m7 m8 m9 m10 m11 m12 (now') kept aside ik (found') carried T S) (some (.int r)) s.heap.size) args s 0 0 A := ⟨_, rfl⟩
  rw [← hQ]
  have hown : s.vm.findClass RX7 = some m.cls := hown
  have hl : lv_has ls 3 [(0, .ref m0), (1, .int a1), (2, .int a2)] := hl
  have w1 := hts (.constant RX7 63 (-1000001)) (List.mem_of_getElem? (i := 1) rfl)
  have w2 := hts (.fieldLink RX7 9 "RainVaultModel" "now" "[I") (List.mem_of_getElem? (i := 2) rfl)
  have w3 := hts (.constant RX7 84 (-1000002)) (List.mem_of_getElem? (i := 3) rfl)
  unfold fX7_cistern at hf
  refine lv_iload_n hx hb dX7_cistern_0 rfl (lv_at hl 1 rfl) ?_
  obtain ⟨x101, hg, hf⟩ := o1_s hf
  refine Ct.callS (ws' := wM g m0 m1 m2 m3 m4 m5 m6 m7 m8 m9 m10 m11 m12 now kept aside ik found carried T S) (As := [.int a1]) (rest := []) (st1 := [.int x101]) (c_X7_isKind l g a1 hg) (va_cwS 1 hts gX7_cistern_X7_isKind rfl rfl rfl q_X7_isKind.2 ⟨Nat.le_of_ble_eq_true rfl, Nat.le_of_ble_eq_true rfl⟩) ⟨hx, hb, hml, hown, hts⟩ hE hP hD hS hA [] rfl rfl rfl rfl rfl hl.1 rfl rfl (Nat.le_of_ble_eq_true rfl) dX7_cistern_1 (fun H locs hP hD hS => ?_)
  refine lv_if_eq (tgt := 17) hx hb dX7_cistern_4 (by decide) (fun hc => ?_) (fun hc => ?_)
  · have hf := if_t hf hc
    refine lv_aload_n hx hb dX7_cistern_17 rfl (lv_at hl 0 rfl) ?_
    refine lv_ldc hx hb hown w1 dX7_cistern_18 ?_
    obtain ⟨x102, found103, hg, hf⟩ := o2_s hf
    refine Ct.callV0 (ws' := wM g m0 m1 m2 m3 m4 m5 m6 m7 m8 m9 m10 m11 m12 now kept aside ik found103 carried T S) (As := [.int (-1000001 : Int32)]) (rest := []) (st1 := [.int x102]) (c_X7_finding l g m0 m1 m2 m3 m4 m5 m6 m7 m8 m9 m10 m11 m12 now kept aside ik found carried T S (-1000001 : Int32) hg) (cwV 1 hts gX7_cistern_X7_finding rfl rfl rfl q_X7_finding ⟨Nat.le_of_ble_eq_true rfl, Nat.le_of_ble_eq_true rfl⟩) ⟨hx, hb, hml, hown, hts⟩ hE hP hD hS hA 7 0 rfl rfl rfl rfl hl.1 rfl rfl (Nat.le_of_ble_eq_true rfl) dX7_cistern_20 (fun H locs hP hD hS => ?_)
    obtain ⟨rfl, rfl, rfl⟩ := some_p3 hf
    rw [hQ]; exact Ct.iret hx hb hr hlocks hAe hP hD hS dX7_cistern_23
  · have hf := if_f hf hc
    refine lv_iload_n hx hb dX7_cistern_7 rfl (lv_at hl 2 rfl) ?_
    refine lv_iconst (v := (1 : Int32)) hx hb dX7_cistern_8 (by decide) ?_
    refine lv_bipush (v := (40 : Int32)) hx hb dX7_cistern_9 (by decide) ?_
    obtain ⟨x104, hg, hf⟩ := o1_s hf
    refine Ct.callS (ws' := wM g m0 m1 m2 m3 m4 m5 m6 m7 m8 m9 m10 m11 m12 now kept aside ik found carried T S) (As := [.int a2, .int (1 : Int32), .int (40 : Int32)]) (rest := []) (st1 := [.int x104]) (c_X7_within l g a2 (1 : Int32) (40 : Int32) hg) (va_cwS 3 hts gX7_cistern_X7_within rfl rfl rfl q_X7_within.2 ⟨Nat.le_of_ble_eq_true rfl, Nat.le_of_ble_eq_true rfl⟩) ⟨hx, hb, hml, hown, hts⟩ hE hP hD hS hA [] rfl rfl rfl rfl rfl hl.1 rfl rfl (Nat.le_of_ble_eq_true rfl) dX7_cistern_11 (fun H locs hP hD hS => ?_)
    refine lv_if_ne (tgt := 24) hx hb dX7_cistern_14 (by decide) (fun hc => ?_) (fun hc => ?_)
    · have hf := if_f hf hc
      refine lv_aload_n hx hb dX7_cistern_24 rfl (lv_at hl 0 rfl) ?_
      refine va_get (D := g.1) (ci := 7) (v := .ref m1) (C := RX7) (T := TX7) (N := 22) hx hb hts i_X7_cistern_X7 hown hE.1 hP 0 rfl rfl 0 (by decide) w2 (fun _ h9 => h9) rfl dX7_cistern_25 ?_
      refine lv_iconst (v := (2 : Int32)) hx hb dX7_cistern_28 (by decide) ?_
      obtain ⟨x105, ex, hin, hf⟩ := rd_s hf
      refine st_iald (f := now) hx hb hE.1 hP 1 0 rfl rfl hin ex dX7_cistern_29 ?_
      refine lv_bipush (v := (8 : Int32)) hx hb dX7_cistern_30 (by decide) ?_
      refine lv_icmp_ne (tgt := 44) hx hb dX7_cistern_32 (by decide) (fun hc => ?_) (fun hc => ?_)
      · have hf := if_f hf hc
        refine lv_aload_n hx hb dX7_cistern_44 rfl (lv_at hl 0 rfl) ?_
        refine lv_iload_n hx hb dX7_cistern_45 rfl (lv_at hl 1 rfl) ?_
        refine lv_iload_n hx hb dX7_cistern_46 rfl (lv_at hl 2 rfl) ?_
        refine lv_iconst (v := (0 : Int32)) hx hb dX7_cistern_47 (by decide) ?_
        refine lv_iconst (v := (1 : Int32)) hx hb dX7_cistern_48 (by decide) ?_
        refine lv_iconst (v := (-1 : Int32)) hx hb dX7_cistern_49 (by decide) ?_
        obtain ⟨x106, now107, hg, hf⟩ := o2_s hf
        refine Ct.callV0 (ws' := wM g m0 m1 m2 m3 m4 m5 m6 m7 m8 m9 m10 m11 m12 now107 kept aside ik found carried T S) (As := [.int a1, .int a2, .int (0 : Int32), .int (1 : Int32), .int (-1 : Int32)]) (rest := []) (st1 := [.int x106]) (c_X7_built l g m0 m1 m2 m3 m4 m5 m6 m7 m8 m9 m10 m11 m12 now kept aside ik found carried T S a1 a2 (0 : Int32) (1 : Int32) (-1 : Int32) hg) (cwV 5 hts gX7_cistern_X7_built rfl rfl rfl q_X7_built ⟨Nat.le_of_ble_eq_true rfl, Nat.le_of_ble_eq_true rfl⟩) ⟨hx, hb, hml, hown, hts⟩ hE hP hD hS hA 7 0 rfl rfl rfl rfl hl.1 rfl rfl (Nat.le_of_ble_eq_true rfl) dX7_cistern_50 (fun H locs hP hD hS => ?_)
        obtain ⟨rfl, rfl, rfl⟩ := some_p3 hf
        rw [hQ]; exact Ct.iret hx hb hr hlocks hAe hP hD hS dX7_cistern_53
      · have hf := if_t hf hc
        refine lv_aload_n hx hb dX7_cistern_35 rfl (lv_at hl 0 rfl) ?_
        refine lv_ldc hx hb hown w3 dX7_cistern_36 ?_
        obtain ⟨x108, found109, hg, hf⟩ := o2_s hf
        refine Ct.callV0 (ws' := wM g m0 m1 m2 m3 m4 m5 m6 m7 m8 m9 m10 m11 m12 now kept aside ik found109 carried T S) (As := [.int (-1000002 : Int32)]) (rest := []) (st1 := [.int x108]) (c_X7_finding l g m0 m1 m2 m3 m4 m5 m6 m7 m8 m9 m10 m11 m12 now kept aside ik found carried T S (-1000002 : Int32) hg) (cwV 1 hts gX7_cistern_X7_finding rfl rfl rfl q_X7_finding ⟨Nat.le_of_ble_eq_true rfl, Nat.le_of_ble_eq_true rfl⟩) ⟨hx, hb, hml, hown, hts⟩ hE hP hD hS hA 7 0 rfl rfl rfl rfl hl.1 rfl rfl (Nat.le_of_ble_eq_true rfl) dX7_cistern_38 (fun H locs hP hD hS => ?_)
        refine lv_goto (tgt := 53) hx hb dX7_cistern_41 (by decide) ?_
        obtain ⟨rfl, rfl, rfl⟩ := some_p3 hf
        rw [hQ]; exact Ct.iret hx hb hr hlocks hAe hP hD hS dX7_cistern_53
    · have hf := if_t hf hc
      refine lv_aload_n hx hb dX7_cistern_17 rfl (lv_at hl 0 rfl) ?_
      refine lv_ldc hx hb hown w1 dX7_cistern_18 ?_
      obtain ⟨x110, found111, hg, hf⟩ := o2_s hf
      refine Ct.callV0 (ws' := wM g m0 m1 m2 m3 m4 m5 m6 m7 m8 m9 m10 m11 m12 now kept aside ik found111 carried T S) (As := [.int (-1000001 : Int32)]) (rest := []) (st1 := [.int x110]) (c_X7_finding l g m0 m1 m2 m3 m4 m5 m6 m7 m8 m9 m10 m11 m12 now kept aside ik found carried T S (-1000001 : Int32) hg) (cwV 1 hts gX7_cistern_X7_finding rfl rfl rfl q_X7_finding ⟨Nat.le_of_ble_eq_true rfl, Nat.le_of_ble_eq_true rfl⟩) ⟨hx, hb, hml, hown, hts⟩ hE hP hD hS hA 7 0 rfl rfl rfl rfl hl.1 rfl rfl (Nat.le_of_ble_eq_true rfl) dX7_cistern_20 (fun H locs hP hD hS => ?_)
      obtain ⟨rfl, rfl, rfl⟩ := some_p3 hf
      rw [hQ]; exact Ct.iret hx hb hr hlocks hAe hP hD hS dX7_cistern_23
def fX7_above (a1 : Int32) : Option (Int32) := if a1 = 0 then (some (-1 : Int32)) else (if a1 = (3 : Int32) then (some (1 : Int32)) else (if a1 = (4 : Int32) then (some (2 : Int32)) else (if a1 = (6 : Int32) then (some (5 : Int32)) else (some (0 : Int32)))))
theorem q_X7_above : yX7_above.cls = RX7 ∧ yX7_above.cls ≠ "java/lang/invoke/MethodHandle" ∧ yX7_above.cls ≠ "java/lang/invoke/VarHandle" ∧ (parseMethodDescriptor yX7_above.desc).map (fun d => d.parameters.length) = some 1 := by decide +kernel
set_option maxHeartbeats 4000000 in
set_option maxRecDepth 100000 in
theorem c_X7_above (l : Launch) (g : gG) (a1 : Int32) {r : Int32} (hf : fX7_above a1 = some r) : Ct l yX7_above wsX7_above (rmm 0 0) g (wNil g  ) (wNil g  ) [.int a1] (some (.int r)) := by
  refine Ct.mk (by decide) rfl (Nat.le_of_ble_eq_true rfl) ?_
  intro p e s m args below meth c A ls hx hb hr hml hts hown hlocks hA hE hP hD hS hl hAe
  obtain ⟨Qx, hQ⟩ : ∃ Qx : State → Prop, Qx = MQ below (QcG g (wNil g  ) (wNil g  ) (some (.int r)) s.heap.size) args s 0 0 A := ⟨_, rfl⟩
  rw [← hQ]
  have hown : s.vm.findClass RX7 = some m.cls := hown
  have hl : lv_has ls 1 [(0, .int a1)] := hl
  unfold fX7_above at hf
  refine lv_iload_n hx hb dX7_above_0 rfl (lv_at hl 0 rfl) ?_
  refine lv_if_ne (tgt := 8) hx hb dX7_above_1 (by decide) (fun hc => ?_) (fun hc => ?_)
  · have hf := if_f hf hc
    refine lv_iload_n hx hb dX7_above_8 rfl (lv_at hl 0 rfl) ?_
    refine lv_iconst (v := (3 : Int32)) hx hb dX7_above_9 (by decide) ?_
    refine lv_icmp_ne (tgt := 17) hx hb dX7_above_10 (by decide) (fun hc => ?_) (fun hc => ?_)
    · have hf := if_f hf hc
      refine lv_iload_n hx hb dX7_above_17 rfl (lv_at hl 0 rfl) ?_
      refine lv_iconst (v := (4 : Int32)) hx hb dX7_above_18 (by decide) ?_
      refine lv_icmp_ne (tgt := 26) hx hb dX7_above_19 (by decide) (fun hc => ?_) (fun hc => ?_)
      · have hf := if_f hf hc
        refine lv_iload_n hx hb dX7_above_26 rfl (lv_at hl 0 rfl) ?_
        refine lv_bipush (v := (6 : Int32)) hx hb dX7_above_27 (by decide) ?_
        refine lv_icmp_ne (tgt := 36) hx hb dX7_above_29 (by decide) (fun hc => ?_) (fun hc => ?_)
        · have hf := if_f hf hc
          refine lv_iconst (v := (0 : Int32)) hx hb dX7_above_36 (by decide) ?_
          obtain rfl := Option.some.inj hf
          rw [hQ]; exact Ct.iret hx hb hr hlocks hAe hP hD hS dX7_above_37
        · have hf := if_t hf hc
          refine lv_iconst (v := (5 : Int32)) hx hb dX7_above_32 (by decide) ?_
          refine lv_goto (tgt := 37) hx hb dX7_above_33 (by decide) ?_
          obtain rfl := Option.some.inj hf
          rw [hQ]; exact Ct.iret hx hb hr hlocks hAe hP hD hS dX7_above_37
      · have hf := if_t hf hc
        refine lv_iconst (v := (2 : Int32)) hx hb dX7_above_22 (by decide) ?_
        refine lv_goto (tgt := 37) hx hb dX7_above_23 (by decide) ?_
        obtain rfl := Option.some.inj hf
        rw [hQ]; exact Ct.iret hx hb hr hlocks hAe hP hD hS dX7_above_37
    · have hf := if_t hf hc
      refine lv_iconst (v := (1 : Int32)) hx hb dX7_above_13 (by decide) ?_
      refine lv_goto (tgt := 37) hx hb dX7_above_14 (by decide) ?_
      obtain rfl := Option.some.inj hf
      rw [hQ]; exact Ct.iret hx hb hr hlocks hAe hP hD hS dX7_above_37
  · have hf := if_t hf hc
    refine lv_iconst (v := (-1 : Int32)) hx hb dX7_above_4 (by decide) ?_
    refine lv_goto (tgt := 37) hx hb dX7_above_5 (by decide) ?_
    obtain rfl := Option.some.inj hf
    rw [hQ]; exact Ct.iret hx hb hr hlocks hAe hP hD hS dX7_above_37
def fX7_isUnder_L2 (x1 : Int32) (kx : Int32 → Option (Int32)) : Nat → Int32 → Option (Int32)
  | 0, _ => none
  | k + 1, x2 => if x2 < 0 then (kx x2) else (if x2 = x1 then (kx x2) else (o1 (fX7_above x2) (fun x102 => fX7_isUnder_L2 x1 kx k x102)))
def fX7_isUnder (a1 : Int32) (a2 : Int32) : Option (Int32) := fX7_isUnder_L2 a2 (fun x103 => if x103 < 0 then (some (0 : Int32)) else (some (1 : Int32))) fu a1
theorem q_X7_isUnder : yX7_isUnder.cls = RX7 ∧ yX7_isUnder.cls ≠ "java/lang/invoke/MethodHandle" ∧ yX7_isUnder.cls ≠ "java/lang/invoke/VarHandle" ∧ (parseMethodDescriptor yX7_isUnder.desc).map (fun d => d.parameters.length) = some 2 := by decide +kernel
set_option maxHeartbeats 4000000 in
set_option maxRecDepth 100000 in
theorem c_X7_isUnder (l : Launch) (g : gG) (a1 : Int32) (a2 : Int32) {r : Int32} (hf : fX7_isUnder a1 a2 = some r) : Ct l yX7_isUnder wsX7_isUnder (rmm 1 20) g (wNil g  ) (wNil g  ) [.int a1, .int a2] (some (.int r)) := by
  refine Ct.mk (by decide) rfl (Nat.le_of_ble_eq_true rfl) ?_
  intro p e s m args below meth c A ls hx hb hr hml hts hown hlocks hA hE hP hD hS hl hAe
  obtain ⟨Qx, hQ⟩ : ∃ Qx : State → Prop, Qx = MQ below (QcG g (wNil g  ) (wNil g  ) (some (.int r)) s.heap.size) args s 0 0 A := ⟨_, rfl⟩
  rw [← hQ]
  have hown : s.vm.findClass RX7 = some m.cls := hown
  have hl : lv_has ls 3 [(0, .int a1), (1, .int a2)] := hl
  have L2 : ∀ (x1 : Int32) (kx : Int32 → Option (Int32)) (k : Nat) (x2 : Int32) (H : Heap) (locs : List Loc) (ls : Array Slot), fX7_isUnder_L2 x1 kx k x2 = some r → va_P g.1 vwK (wNil g  ) H → va_D A (wNil g  ) → va_S A s.heap H locs → lv_has ls 3 [(1, .int x1), (2, .int x2)] → (∀ (x2 : Int32) (H : Heap) (locs : List Loc) (ls : Array Slot), kx x2 = some r → va_P g.1 vwK (wNil g  ) H → va_D A (wNil g  ) → va_S A s.heap H locs → lv_has ls 3 [(2, .int x2)] → W p l e (rmm 1 20) s m args below meth c H locs 0 0 Qx (F0 m 19 ls [])) → W p l e (rmm 1 20) s m args below meth c H locs 0 0 Qx (F0 m 2 ls []) := by
    intro x1 kx k
    induction k with
    | zero => intro x2 H locs ls hf; exact nomatch (show (none : Option (Int32)) = some _ from hf)
    | succ k ih =>
      intro x2 H locs ls hf hP hD hS hl hk
      rw [fX7_isUnder_L2] at hf
      refine lv_iload_n hx hb dX7_isUnder_2 rfl (lv_at hl 1 rfl) ?_
      refine lv_if_lt (tgt := 19) hx hb dX7_isUnder_3 (by decide) (fun hc => ?_) (fun hc => ?_)
      · have hf := if_t hf hc
        exact hk _ _ _ _  hf hP hD hS (lv_sub hl [1] rfl)
      · have hf := if_f hf hc
        refine lv_iload_n hx hb dX7_isUnder_6 rfl (lv_at hl 1 rfl) ?_
        refine lv_iload_n hx hb dX7_isUnder_7 rfl (lv_at hl 0 rfl) ?_
        refine lv_icmp_eq (tgt := 19) hx hb dX7_isUnder_8 (by decide) (fun hc => ?_) (fun hc => ?_)
        · have hf := if_t hf hc
          exact hk _ _ _ _  hf hP hD hS (lv_sub hl [1] rfl)
        · have hf := if_f hf hc
          refine lv_iload_n hx hb dX7_isUnder_11 rfl (lv_at hl 1 rfl) ?_
          obtain ⟨x102, hg, hf⟩ := o1_s hf
          refine Ct.callS (ws' := wNil g  ) (As := [.int x2]) (rest := []) (st1 := [.int x102]) (c_X7_above l g x2 hg) (va_cwS 1 hts gX7_isUnder_X7_above rfl rfl rfl q_X7_above.2 ⟨Nat.le_of_ble_eq_true rfl, Nat.le_of_ble_eq_true rfl⟩) ⟨hx, hb, hml, hown, hts⟩ hE hP hD hS hA [] rfl rfl rfl rfl rfl hl.1 rfl rfl (Nat.le_of_ble_eq_true rfl) dX7_isUnder_12 (fun H locs hP hD hS => ?_)
          refine lv_istore_n (lv' := [(2, .int x102), (1, .int x1)]) hx hb dX7_isUnder_15 rfl hl (by decide) rfl (fun ls hl => ?_)
          refine lv_goto (tgt := 2) hx hb dX7_isUnder_16 (by decide) ?_
          exact ih _ _ _ _  hf hP hD hS (lv_sub hl [1, 0] rfl) hk
  unfold fX7_isUnder at hf
  refine lv_iload_n hx hb dX7_isUnder_0 rfl (lv_at hl 0 rfl) ?_
  refine lv_istore_n (lv' := [(2, .int a1), (0, .int a1), (1, .int a2)]) hx hb dX7_isUnder_1 rfl hl (by decide) rfl (fun ls hl => ?_)
  refine L2 _ _ _ _ _ _ _  hf hP hD hS (lv_sub hl [2, 0] rfl) (fun x103 H locs ls hf hP hD hS hl => ?_)
  refine lv_iload_n hx hb dX7_isUnder_19 rfl (lv_at hl 0 rfl) ?_
  refine lv_if_lt (tgt := 27) hx hb dX7_isUnder_20 (by decide) (fun hc => ?_) (fun hc => ?_)
  · have hf := if_t hf hc
    refine lv_iconst (v := (0 : Int32)) hx hb dX7_isUnder_27 (by decide) ?_
    obtain rfl := Option.some.inj hf
    rw [hQ]; exact Ct.zret hx hb hr (by decide) hlocks hAe hP hD hS dX7_isUnder_28
  · have hf := if_f hf hc
    refine lv_iconst (v := (1 : Int32)) hx hb dX7_isUnder_23 (by decide) ?_
    refine lv_goto (tgt := 28) hx hb dX7_isUnder_24 (by decide) ?_
    obtain rfl := Option.some.inj hf
    rw [hQ]; exact Ct.zret hx hb hr (by decide) hlocks hAe hP hD hS dX7_isUnder_28
def fX7_isUnder_ (now : Nat → Int32) (a1 : Int32) (a2 : Int32) (a3 : Int32) : Option (Int32) := o1 (fX7_cisternIs now a1 a3) (fun x101 => o1 (fX7_isUnder x101 a2) (fun x102 => nb x102 (some x102)))
theorem q_X7_isUnder_ : yX7_isUnder_.cls = RX7 ∧ yX7_isUnder_.cls ≠ "java/lang/invoke/MethodHandle" ∧ yX7_isUnder_.cls ≠ "java/lang/invoke/VarHandle" ∧ (parseMethodDescriptor yX7_isUnder_.desc).map (fun d => d.parameters.length) = some 3 := by decide +kernel
set_option maxHeartbeats 4000000 in
set_option maxRecDepth 100000 in
theorem c_X7_isUnder_ (l : Launch) (g : gG) (m0 m1 m2 m3 m4 m5 m6 m7 m8 m9 m10 m11 m12 : Nat) (now : Nat → Int32) (kept : Nat → Int32) (aside : Nat → Int32) (ik : Int32) (found : Nat → Int32) (carried : Nat → Int32) (T : Mt) (S : Ms) (a1 : Int32) (a2 : Int32) (a3 : Int32) {r : Int32} (hf : fX7_isUnder_ now a1 a2 a3 = some r) : Ct l yX7_isUnder_ wsX7_isUnder_ (rmm 2 43) g (wM g m0 m1 m2 m3 m4 m5 m6 m7 m8 m9 m10 m11 m12 now kept aside ik found carried T S) (wM g m0 m1 m2 m3 m4 m5 m6 m7 m8 m9 m10 m11 m12 now kept aside ik found carried T S) [.ref m0, .int a1, .int a2, .int a3] (some (.int r)) := by
  refine Ct.mk (by decide) rfl (Nat.le_of_ble_eq_true rfl) ?_
  intro p e s m args below meth c A ls hx hb hr hml hts hown hlocks hA hE hP hD hS hl hAe
  obtain ⟨Qx, hQ⟩ : ∃ Qx : State → Prop, Qx = MQ below (QcG g (wM g m0 m1 m2 m3 m4 m5 m6 m7 m8 m9 m10 m11 m12 now kept aside ik found carried T S) (wM g m0 m1 m2 m3 m4 m5 m6 m7 m8 m9 m10 m11 m12 now kept aside ik found carried T S) (some (.int r)) s.heap.size) args s 0 0 A := ⟨_, rfl⟩
  rw [← hQ]
  have hown : s.vm.findClass RX7 = some m.cls := hown
  have hl : lv_has ls 4 [(0, .ref m0), (1, .int a1), (2, .int a2), (3, .int a3)] := hl
  unfold fX7_isUnder_ at hf
  refine lv_aload_n hx hb dX7_isUnder__0 rfl (lv_at hl 0 rfl) ?_
  refine lv_iload_n hx hb dX7_isUnder__1 rfl (lv_at hl 1 rfl) ?_
  refine lv_iload_n hx hb dX7_isUnder__2 rfl (lv_at hl 3 rfl) ?_
  obtain ⟨x101, hg, hf⟩ := o1_s hf
  refine Ct.callV0 (ws' := wM g m0 m1 m2 m3 m4 m5 m6 m7 m8 m9 m10 m11 m12 now kept aside ik found carried T S) (As := [.int a1, .int a3]) (rest := []) (st1 := [.int x101]) (c_X7_cisternIs l g m0 m1 m2 m3 m4 m5 m6 m7 m8 m9 m10 m11 m12 now kept aside ik found carried T S a1 a3 hg) (cwV 2 hts gX7_isUnder__X7_cisternIs rfl rfl rfl q_X7_cisternIs ⟨Nat.le_of_ble_eq_true rfl, Nat.le_of_ble_eq_true rfl⟩) ⟨hx, hb, hml, hown, hts⟩ hE hP hD hS hA 7 0 rfl rfl rfl rfl hl.1 rfl rfl (Nat.le_of_ble_eq_true rfl) dX7_isUnder__3 (fun H locs hP hD hS => ?_)
  refine lv_iload_n hx hb dX7_isUnder__6 rfl (lv_at hl 2 rfl) ?_
  obtain ⟨x102, hg, hf⟩ := o1_s hf
  refine Ct.callS (ws' := wM g m0 m1 m2 m3 m4 m5 m6 m7 m8 m9 m10 m11 m12 now kept aside ik found carried T S) (As := [.int x101, .int a2]) (rest := []) (st1 := [.int x102]) (c_X7_isUnder l g x101 a2 hg) (va_cwS 2 hts gX7_isUnder__X7_isUnder rfl rfl rfl q_X7_isUnder.2 ⟨Nat.le_of_ble_eq_true rfl, Nat.le_of_ble_eq_true rfl⟩) ⟨hx, hb, hml, hown, hts⟩ hE hP hD hS hA [] rfl rfl rfl rfl rfl hl.1 rfl rfl (Nat.le_of_ble_eq_true rfl) dX7_isUnder__7 (fun H locs hP hD hS => ?_)
  obtain ⟨hn, hf⟩ := nb_s hf
  obtain rfl := Option.some.inj hf
  rw [hQ]; exact Ct.zret hx hb hr hn hlocks hAe hP hD hS dX7_isUnder__10
def fX7_isStiff (now : Nat → Int32) (a1 : Int32) : Option (Int32) := o1 (fX7_isUnder_ now a1 (5 : Int32) (0 : Int32)) (fun x101 => if x101 = 0 then (some (0 : Int32)) else (rd now 120 (1 : Int32) (fun x102 => if x102 = (1 : Int32) then (some (1 : Int32)) else (some (0 : Int32)))))
theorem q_X7_isStiff : yX7_isStiff.cls = RX7 ∧ yX7_isStiff.cls ≠ "java/lang/invoke/MethodHandle" ∧ yX7_isStiff.cls ≠ "java/lang/invoke/VarHandle" ∧ (parseMethodDescriptor yX7_isStiff.desc).map (fun d => d.parameters.length) = some 1 := by decide +kernel
theorem i_X7_isStiff_X7 : ∀ w ∈ u_ws RX7 TX7 22, w ∈ wsX7_isStiff := fun _ h => List.mem_cons_of_mem _ (List.mem_append_right _ (h))
set_option maxHeartbeats 4000000 in
set_option maxRecDepth 100000 in
theorem c_X7_isStiff (l : Launch) (g : gG) (m0 m1 m2 m3 m4 m5 m6 m7 m8 m9 m10 m11 m12 : Nat) (now : Nat → Int32) (kept : Nat → Int32) (aside : Nat → Int32) (ik : Int32) (found : Nat → Int32) (carried : Nat → Int32) (T : Mt) (S : Ms) (a1 : Int32) {r : Int32} (hf : fX7_isStiff now a1 = some r) : Ct l yX7_isStiff wsX7_isStiff (rmm 3 66) g (wM g m0 m1 m2 m3 m4 m5 m6 m7 m8 m9 m10 m11 m12 now kept aside ik found carried T S) (wM g m0 m1 m2 m3 m4 m5 m6 m7 m8 m9 m10 m11 m12 now kept aside ik found carried T S) [.ref m0, .int a1] (some (.int r)) := by
  refine Ct.mk (by decide) rfl (Nat.le_of_ble_eq_true rfl) ?_
  intro p e s m args below meth c A ls hx hb hr hml hts hown hlocks hA hE hP hD hS hl hAe
  obtain ⟨Qx, hQ⟩ : ∃ Qx : State → Prop, Qx = MQ below (QcG g (wM g m0 m1 m2 m3 m4 m5 m6 m7 m8 m9 m10 m11 m12 now kept aside ik found carried T S) (wM g m0 m1 m2 m3 m4 m5 m6 m7 m8 m9 m10 m11 m12 now kept aside ik found carried T S) (some (.int r)) s.heap.size) args s 0 0 A := ⟨_, rfl⟩
  rw [← hQ]
  have hown : s.vm.findClass RX7 = some m.cls := hown
  have hl : lv_has ls 2 [(0, .ref m0), (1, .int a1)] := hl
  have w1 := hts (.fieldLink RX7 9 "RainVaultModel" "now" "[I") (List.mem_of_getElem? (i := 1) rfl)
  unfold fX7_isStiff at hf
  refine lv_aload_n hx hb dX7_isStiff_0 rfl (lv_at hl 0 rfl) ?_
  refine lv_iload_n hx hb dX7_isStiff_1 rfl (lv_at hl 1 rfl) ?_
  refine lv_iconst (v := (5 : Int32)) hx hb dX7_isStiff_2 (by decide) ?_
  refine lv_iconst (v := (0 : Int32)) hx hb dX7_isStiff_3 (by decide) ?_
  obtain ⟨x101, hg, hf⟩ := o1_s hf
  refine Ct.callV0 (ws' := wM g m0 m1 m2 m3 m4 m5 m6 m7 m8 m9 m10 m11 m12 now kept aside ik found carried T S) (As := [.int a1, .int (5 : Int32), .int (0 : Int32)]) (rest := []) (st1 := [.int x101]) (c_X7_isUnder_ l g m0 m1 m2 m3 m4 m5 m6 m7 m8 m9 m10 m11 m12 now kept aside ik found carried T S a1 (5 : Int32) (0 : Int32) hg) (cwV 3 hts gX7_isStiff_X7_isUnder_ rfl rfl rfl q_X7_isUnder_ ⟨Nat.le_of_ble_eq_true rfl, Nat.le_of_ble_eq_true rfl⟩) ⟨hx, hb, hml, hown, hts⟩ hE hP hD hS hA 7 0 rfl rfl rfl rfl hl.1 rfl rfl (Nat.le_of_ble_eq_true rfl) dX7_isStiff_4 (fun H locs hP hD hS => ?_)
  refine lv_if_eq (tgt := 24) hx hb dX7_isStiff_7 (by decide) (fun hc => ?_) (fun hc => ?_)
  · have hf := if_t hf hc
    refine lv_iconst (v := (0 : Int32)) hx hb dX7_isStiff_24 (by decide) ?_
    obtain rfl := Option.some.inj hf
    rw [hQ]; exact Ct.zret hx hb hr (by decide) hlocks hAe hP hD hS dX7_isStiff_25
  · have hf := if_f hf hc
    refine lv_aload_n hx hb dX7_isStiff_10 rfl (lv_at hl 0 rfl) ?_
    refine va_get (D := g.1) (ci := 7) (v := .ref m1) (C := RX7) (T := TX7) (N := 22) hx hb hts i_X7_isStiff_X7 hown hE.1 hP 0 rfl rfl 0 (by decide) w1 (fun _ h9 => h9) rfl dX7_isStiff_11 ?_
    refine lv_iconst (v := (1 : Int32)) hx hb dX7_isStiff_14 (by decide) ?_
    obtain ⟨x102, ex, hin, hf⟩ := rd_s hf
    refine st_iald (f := now) hx hb hE.1 hP 1 0 rfl rfl hin ex dX7_isStiff_15 ?_
    refine lv_iconst (v := (1 : Int32)) hx hb dX7_isStiff_16 (by decide) ?_
    refine lv_icmp_ne (tgt := 24) hx hb dX7_isStiff_17 (by decide) (fun hc => ?_) (fun hc => ?_)
    · have hf := if_f hf hc
      refine lv_iconst (v := (0 : Int32)) hx hb dX7_isStiff_24 (by decide) ?_
      obtain rfl := Option.some.inj hf
      rw [hQ]; exact Ct.zret hx hb hr (by decide) hlocks hAe hP hD hS dX7_isStiff_25
    · have hf := if_t hf hc
      refine lv_iconst (v := (1 : Int32)) hx hb dX7_isStiff_20 (by decide) ?_
      refine lv_goto (tgt := 25) hx hb dX7_isStiff_21 (by decide) ?_
      obtain rfl := Option.some.inj hf
      rw [hQ]; exact Ct.zret hx hb hr (by decide) hlocks hAe hP hD hS dX7_isStiff_25
def fX7_comesIn_J25 (now : Nat → Int32) (x1 : Int32) (y0 : Int32) : Option (Int32) := o1 (fX7_isStiff now x1) (fun x103 => if x103 = 0 then (o1 (fX7_isUnder_ now x1 (2 : Int32) (0 : Int32)) (fun x104 => if x104 = 0 then (some y0) else (some (y0 / (2 : Int32))))) else (some (0 : Int32)))
def fX7_comesIn (now : Nat → Int32) (a1 : Int32) (a2 : Int32) (a3 : Int32) : Option (Int32) := o1 (fX7_cisternIs now a1 (5 : Int32)) (fun x101 => if x101 = (1 : Int32) then (fX7_comesIn_J25 now a1 (0 : Int32)) else (o1 (fX7_cisternIs now a1 ((6 : Int32) + a2)) (fun x102 => fX7_comesIn_J25 now a1 (a3 * x102))))
theorem q_X7_comesIn : yX7_comesIn.cls = RX7 ∧ yX7_comesIn.cls ≠ "java/lang/invoke/MethodHandle" ∧ yX7_comesIn.cls ≠ "java/lang/invoke/VarHandle" ∧ (parseMethodDescriptor yX7_comesIn.desc).map (fun d => d.parameters.length) = some 3 := by decide +kernel
set_option maxHeartbeats 4000000 in
set_option maxRecDepth 100000 in
theorem c_X7_comesIn (l : Launch) (g : gG) (m0 m1 m2 m3 m4 m5 m6 m7 m8 m9 m10 m11 m12 : Nat) (now : Nat → Int32) (kept : Nat → Int32) (aside : Nat → Int32) (ik : Int32) (found : Nat → Int32) (carried : Nat → Int32) (T : Mt) (S : Ms) (a1 : Int32) (a2 : Int32) (a3 : Int32) {r : Int32} (hf : fX7_comesIn now a1 a2 a3 = some r) : Ct l yX7_comesIn wsX7_comesIn (rmm 4 87) g (wM g m0 m1 m2 m3 m4 m5 m6 m7 m8 m9 m10 m11 m12 now kept aside ik found carried T S) (wM g m0 m1 m2 m3 m4 m5 m6 m7 m8 m9 m10 m11 m12 now kept aside ik found carried T S) [.ref m0, .int a1, .int a2, .int a3] (some (.int r)) := by
  refine Ct.mk (by decide) rfl (Nat.le_of_ble_eq_true rfl) ?_
  intro p e s m args below meth c A ls hx hb hr hml hts hown hlocks hA hE hP hD hS hl hAe
  obtain ⟨Qx, hQ⟩ : ∃ Qx : State → Prop, Qx = MQ below (QcG g (wM g m0 m1 m2 m3 m4 m5 m6 m7 m8 m9 m10 m11 m12 now kept aside ik found carried T S) (wM g m0 m1 m2 m3 m4 m5 m6 m7 m8 m9 m10 m11 m12 now kept aside ik found carried T S) (some (.int r)) s.heap.size) args s 0 0 A := ⟨_, rfl⟩
  rw [← hQ]
  have hown : s.vm.findClass RX7 = some m.cls := hown
  have hl : lv_has ls 5 [(0, .ref m0), (1, .int a1), (2, .int a2), (3, .int a3)] := hl
  have J25 : ∀ (x1 : Int32) (y0 : Int32) (H : Heap) (locs : List Loc) (ls : Array Slot), fX7_comesIn_J25 now x1 y0 = some r → va_P g.1 vwK (wM g m0 m1 m2 m3 m4 m5 m6 m7 m8 m9 m10 m11 m12 now kept aside ik found carried T S) H → va_D A (wM g m0 m1 m2 m3 m4 m5 m6 m7 m8 m9 m10 m11 m12 now kept aside ik found carried T S) → va_S A s.heap H locs → lv_has ls 5 [(0, .ref m0), (1, .int x1)] → W p l e (rmm 4 87) s m args below meth c H locs 0 0 Qx (F0 m 25 ls [.int y0]) := by
    intro x1 y0 H locs ls hf hP hD hS hl
    unfold fX7_comesIn_J25 at hf
    refine lv_istore (lv' := [(4, .int y0), (0, .ref m0), (1, .int x1)]) hx hb dX7_comesIn_25 hl (by decide) rfl (fun ls hl => ?_)
    refine lv_aload_n hx hb dX7_comesIn_27 rfl (lv_at hl 1 rfl) ?_
    refine lv_iload_n hx hb dX7_comesIn_28 rfl (lv_at hl 2 rfl) ?_
    obtain ⟨x103, hg, hf⟩ := o1_s hf
    refine Ct.callV0 (ws' := wM g m0 m1 m2 m3 m4 m5 m6 m7 m8 m9 m10 m11 m12 now kept aside ik found carried T S) (As := [.int x1]) (rest := []) (st1 := [.int x103]) (c_X7_isStiff l g m0 m1 m2 m3 m4 m5 m6 m7 m8 m9 m10 m11 m12 now kept aside ik found carried T S x1 hg) (cwV 1 hts gX7_comesIn_X7_isStiff rfl rfl rfl q_X7_isStiff ⟨Nat.le_of_ble_eq_true rfl, Nat.le_of_ble_eq_true rfl⟩) ⟨hx, hb, hml, hown, hts⟩ hE hP hD hS hA 7 0 rfl rfl rfl rfl hl.1 rfl rfl (Nat.le_of_ble_eq_true rfl) dX7_comesIn_29 (fun H locs hP hD hS => ?_)
    refine lv_if_eq (tgt := 39) hx hb dX7_comesIn_32 (by decide) (fun hc => ?_) (fun hc => ?_)
    · have hf := if_t hf hc
      refine lv_aload_n hx hb dX7_comesIn_39 rfl (lv_at hl 1 rfl) ?_
      refine lv_iload_n hx hb dX7_comesIn_40 rfl (lv_at hl 2 rfl) ?_
      refine lv_iconst (v := (2 : Int32)) hx hb dX7_comesIn_41 (by decide) ?_
      refine lv_iconst (v := (0 : Int32)) hx hb dX7_comesIn_42 (by decide) ?_
      obtain ⟨x104, hg, hf⟩ := o1_s hf
      refine Ct.callV0 (ws' := wM g m0 m1 m2 m3 m4 m5 m6 m7 m8 m9 m10 m11 m12 now kept aside ik found carried T S) (As := [.int x1, .int (2 : Int32), .int (0 : Int32)]) (rest := []) (st1 := [.int x104]) (c_X7_isUnder_ l g m0 m1 m2 m3 m4 m5 m6 m7 m8 m9 m10 m11 m12 now kept aside ik found carried T S x1 (2 : Int32) (0 : Int32) hg) (cwV 3 hts gX7_comesIn_X7_isUnder_ rfl rfl rfl q_X7_isUnder_ ⟨Nat.le_of_ble_eq_true rfl, Nat.le_of_ble_eq_true rfl⟩) ⟨hx, hb, hml, hown, hts⟩ hE hP hD hS hA 7 0 rfl rfl rfl rfl hl.1 rfl rfl (Nat.le_of_ble_eq_true rfl) dX7_comesIn_43 (fun H locs hP hD hS => ?_)
      refine lv_if_eq (tgt := 56) hx hb dX7_comesIn_46 (by decide) (fun hc => ?_) (fun hc => ?_)
      · have hf := if_t hf hc
        refine lv_iload hx hb dX7_comesIn_56 (lv_at hl 0 rfl) ?_
        obtain rfl := Option.some.inj hf
        rw [hQ]; exact Ct.iret hx hb hr hlocks hAe hP hD hS dX7_comesIn_58
      · have hf := if_f hf hc
        refine lv_iload hx hb dX7_comesIn_49 (lv_at hl 0 rfl) ?_
        refine lv_iconst (v := (2 : Int32)) hx hb dX7_comesIn_51 (by decide) ?_
        refine lv_idiv hx hb dX7_comesIn_52 (by decide) ?_
        refine lv_goto (tgt := 58) hx hb dX7_comesIn_53 (by decide) ?_
        obtain rfl := Option.some.inj hf
        rw [hQ]; exact Ct.iret hx hb hr hlocks hAe hP hD hS dX7_comesIn_58
    · have hf := if_f hf hc
      refine lv_iconst (v := (0 : Int32)) hx hb dX7_comesIn_35 (by decide) ?_
      refine lv_goto (tgt := 58) hx hb dX7_comesIn_36 (by decide) ?_
      obtain rfl := Option.some.inj hf
      rw [hQ]; exact Ct.iret hx hb hr hlocks hAe hP hD hS dX7_comesIn_58
  unfold fX7_comesIn at hf
  refine lv_aload_n hx hb dX7_comesIn_0 rfl (lv_at hl 0 rfl) ?_
  refine lv_iload_n hx hb dX7_comesIn_1 rfl (lv_at hl 1 rfl) ?_
  refine lv_iconst (v := (5 : Int32)) hx hb dX7_comesIn_2 (by decide) ?_
  obtain ⟨x101, hg, hf⟩ := o1_s hf
  refine Ct.callV0 (ws' := wM g m0 m1 m2 m3 m4 m5 m6 m7 m8 m9 m10 m11 m12 now kept aside ik found carried T S) (As := [.int a1, .int (5 : Int32)]) (rest := []) (st1 := [.int x101]) (c_X7_cisternIs l g m0 m1 m2 m3 m4 m5 m6 m7 m8 m9 m10 m11 m12 now kept aside ik found carried T S a1 (5 : Int32) hg) (cwV 2 hts gX7_comesIn_X7_cisternIs rfl rfl rfl q_X7_cisternIs ⟨Nat.le_of_ble_eq_true rfl, Nat.le_of_ble_eq_true rfl⟩) ⟨hx, hb, hml, hown, hts⟩ hE hP hD hS hA 7 0 rfl rfl rfl rfl hl.1 rfl rfl (Nat.le_of_ble_eq_true rfl) dX7_comesIn_3 (fun H locs hP hD hS => ?_)
  refine lv_iconst (v := (1 : Int32)) hx hb dX7_comesIn_6 (by decide) ?_
  refine lv_icmp_ne (tgt := 14) hx hb dX7_comesIn_7 (by decide) (fun hc => ?_) (fun hc => ?_)
  · have hf := if_f hf hc
    refine lv_iload_n hx hb dX7_comesIn_14 rfl (lv_at hl 3 rfl) ?_
    refine lv_aload_n hx hb dX7_comesIn_15 rfl (lv_at hl 0 rfl) ?_
    refine lv_iload_n hx hb dX7_comesIn_16 rfl (lv_at hl 1 rfl) ?_
    refine lv_bipush (v := (6 : Int32)) hx hb dX7_comesIn_17 (by decide) ?_
    refine lv_iload_n hx hb dX7_comesIn_19 rfl (lv_at hl 2 rfl) ?_
    refine lv_iadd hx hb dX7_comesIn_20 ?_
    obtain ⟨x102, hg, hf⟩ := o1_s hf
    refine Ct.callV0 (ws' := wM g m0 m1 m2 m3 m4 m5 m6 m7 m8 m9 m10 m11 m12 now kept aside ik found carried T S) (As := [.int a1, .int ((6 : Int32) + a2)]) (rest := [.int a3]) (st1 := [.int x102, .int a3]) (c_X7_cisternIs l g m0 m1 m2 m3 m4 m5 m6 m7 m8 m9 m10 m11 m12 now kept aside ik found carried T S a1 ((6 : Int32) + a2) hg) (cwV 2 hts gX7_comesIn_X7_cisternIs rfl rfl rfl q_X7_cisternIs ⟨Nat.le_of_ble_eq_true rfl, Nat.le_of_ble_eq_true rfl⟩) ⟨hx, hb, hml, hown, hts⟩ hE hP hD hS hA 7 0 rfl rfl rfl rfl hl.1 rfl rfl (Nat.le_of_ble_eq_true rfl) dX7_comesIn_21 (fun H locs hP hD hS => ?_)
    refine lv_imul hx hb dX7_comesIn_24 ?_
    exact J25 _ _ _ _ _  hf hP hD hS (lv_sub hl [0, 1] rfl)
  · have hf := if_t hf hc
    refine lv_iconst (v := (0 : Int32)) hx hb dX7_comesIn_10 (by decide) ?_
    refine lv_goto (tgt := 25) hx hb dX7_comesIn_11 (by decide) ?_
    exact J25 _ _ _ _ _  hf hP hD hS (lv_sub hl [0, 1] rfl)
def fX7_leaksNow (now : Nat → Int32) (a1 : Int32) : Option (Int32) := o1 (fX7_isStiff now a1) (fun x101 => if x101 = 0 then (o1 (fX7_cisternIs now a1 (0 : Int32)) (fun x102 => if x102 = (6 : Int32) then (some (0 : Int32)) else (o1 (fX7_cisternIs now a1 (3 : Int32)) (fun x103 => o1 (fX7_cisternIs now a1 (2 : Int32)) (fun x104 => some (if x104 < x103 then x104 else x103)))))) else (some (0 : Int32)))
theorem q_X7_leaksNow : yX7_leaksNow.cls = RX7 ∧ yX7_leaksNow.cls ≠ "java/lang/invoke/MethodHandle" ∧ yX7_leaksNow.cls ≠ "java/lang/invoke/VarHandle" ∧ (parseMethodDescriptor yX7_leaksNow.desc).map (fun d => d.parameters.length) = some 1 := by decide +kernel
set_option maxHeartbeats 4000000 in
set_option maxRecDepth 100000 in
theorem c_X7_leaksNow (l : Launch) (g : gG) (m0 m1 m2 m3 m4 m5 m6 m7 m8 m9 m10 m11 m12 : Nat) (now : Nat → Int32) (kept : Nat → Int32) (aside : Nat → Int32) (ik : Int32) (found : Nat → Int32) (carried : Nat → Int32) (T : Mt) (S : Ms) (a1 : Int32) {r : Int32} (hf : fX7_leaksNow now a1 = some r) : Ct l yX7_leaksNow wsX7_leaksNow (rmm 4 87) g (wM g m0 m1 m2 m3 m4 m5 m6 m7 m8 m9 m10 m11 m12 now kept aside ik found carried T S) (wM g m0 m1 m2 m3 m4 m5 m6 m7 m8 m9 m10 m11 m12 now kept aside ik found carried T S) [.ref m0, .int a1] (some (.int r)) := by
  refine Ct.mk (by decide) rfl (Nat.le_of_ble_eq_true rfl) ?_
  intro p e s m args below meth c A ls hx hb hr hml hts hown hlocks hA hE hP hD hS hl hAe
  obtain ⟨Qx, hQ⟩ : ∃ Qx : State → Prop, Qx = MQ below (QcG g (wM g m0 m1 m2 m3 m4 m5 m6 m7 m8 m9 m10 m11 m12 now kept aside ik found carried T S) (wM g m0 m1 m2 m3 m4 m5 m6 m7 m8 m9 m10 m11 m12 now kept aside ik found carried T S) (some (.int r)) s.heap.size) args s 0 0 A := ⟨_, rfl⟩
  rw [← hQ]
  have hown : s.vm.findClass RX7 = some m.cls := hown
  have hl : lv_has ls 2 [(0, .ref m0), (1, .int a1)] := hl
  have w1 := hts (.methodLink RX7 104 Lib.Math.min.name) (List.mem_of_getElem? (i := 1) rfl)
  have w2 := hts (.static Lib.Math.min.name) (List.mem_of_getElem? (i := 2) rfl)
  have w3 := hts (.initialized "java/lang/Math") (List.mem_of_getElem? (i := 3) rfl)
  have w4 := hts (.code Lib.Math.min.name Lib.Math.min.code 2 (some .int)) (List.mem_of_getElem? (i := 4) rfl)
  unfold fX7_leaksNow at hf
  refine lv_aload_n hx hb dX7_leaksNow_0 rfl (lv_at hl 0 rfl) ?_
  refine lv_iload_n hx hb dX7_leaksNow_1 rfl (lv_at hl 1 rfl) ?_
  obtain ⟨x101, hg, hf⟩ := o1_s hf
  refine Ct.callV0 (ws' := wM g m0 m1 m2 m3 m4 m5 m6 m7 m8 m9 m10 m11 m12 now kept aside ik found carried T S) (As := [.int a1]) (rest := []) (st1 := [.int x101]) (c_X7_isStiff l g m0 m1 m2 m3 m4 m5 m6 m7 m8 m9 m10 m11 m12 now kept aside ik found carried T S a1 hg) (cwV 1 hts gX7_leaksNow_X7_isStiff rfl rfl rfl q_X7_isStiff ⟨Nat.le_of_ble_eq_true rfl, Nat.le_of_ble_eq_true rfl⟩) ⟨hx, hb, hml, hown, hts⟩ hE hP hD hS hA 7 0 rfl rfl rfl rfl hl.1 rfl rfl (Nat.le_of_ble_eq_true rfl) dX7_leaksNow_2 (fun H locs hP hD hS => ?_)
  refine lv_if_ne (tgt := 19) hx hb dX7_leaksNow_5 (by decide) (fun hc => ?_) (fun hc => ?_)
  · have hf := if_f hf hc
    refine lv_iconst (v := (0 : Int32)) hx hb dX7_leaksNow_19 (by decide) ?_
    refine lv_goto (tgt := 38) hx hb dX7_leaksNow_20 (by decide) ?_
    obtain rfl := Option.some.inj hf
    rw [hQ]; exact Ct.iret hx hb hr hlocks hAe hP hD hS dX7_leaksNow_38
  · have hf := if_t hf hc
    refine lv_aload_n hx hb dX7_leaksNow_8 rfl (lv_at hl 0 rfl) ?_
    refine lv_iload_n hx hb dX7_leaksNow_9 rfl (lv_at hl 1 rfl) ?_
    refine lv_iconst (v := (0 : Int32)) hx hb dX7_leaksNow_10 (by decide) ?_
    obtain ⟨x102, hg, hf⟩ := o1_s hf
    refine Ct.callV0 (ws' := wM g m0 m1 m2 m3 m4 m5 m6 m7 m8 m9 m10 m11 m12 now kept aside ik found carried T S) (As := [.int a1, .int (0 : Int32)]) (rest := []) (st1 := [.int x102]) (c_X7_cisternIs l g m0 m1 m2 m3 m4 m5 m6 m7 m8 m9 m10 m11 m12 now kept aside ik found carried T S a1 (0 : Int32) hg) (cwV 2 hts gX7_leaksNow_X7_cisternIs rfl rfl rfl q_X7_cisternIs ⟨Nat.le_of_ble_eq_true rfl, Nat.le_of_ble_eq_true rfl⟩) ⟨hx, hb, hml, hown, hts⟩ hE hP hD hS hA 7 0 rfl rfl rfl rfl hl.1 rfl rfl (Nat.le_of_ble_eq_true rfl) dX7_leaksNow_11 (fun H locs hP hD hS => ?_)
    refine lv_bipush (v := (6 : Int32)) hx hb dX7_leaksNow_14 (by decide) ?_
    refine lv_icmp_ne (tgt := 23) hx hb dX7_leaksNow_16 (by decide) (fun hc => ?_) (fun hc => ?_)
    · have hf := if_f hf hc
      refine lv_aload_n hx hb dX7_leaksNow_23 rfl (lv_at hl 0 rfl) ?_
      refine lv_iload_n hx hb dX7_leaksNow_24 rfl (lv_at hl 1 rfl) ?_
      refine lv_iconst (v := (3 : Int32)) hx hb dX7_leaksNow_25 (by decide) ?_
      obtain ⟨x103, hg, hf⟩ := o1_s hf
      refine Ct.callV0 (ws' := wM g m0 m1 m2 m3 m4 m5 m6 m7 m8 m9 m10 m11 m12 now kept aside ik found carried T S) (As := [.int a1, .int (3 : Int32)]) (rest := []) (st1 := [.int x103]) (c_X7_cisternIs l g m0 m1 m2 m3 m4 m5 m6 m7 m8 m9 m10 m11 m12 now kept aside ik found carried T S a1 (3 : Int32) hg) (cwV 2 hts gX7_leaksNow_X7_cisternIs rfl rfl rfl q_X7_cisternIs ⟨Nat.le_of_ble_eq_true rfl, Nat.le_of_ble_eq_true rfl⟩) ⟨hx, hb, hml, hown, hts⟩ hE hP hD hS hA 7 0 rfl rfl rfl rfl hl.1 rfl rfl (Nat.le_of_ble_eq_true rfl) dX7_leaksNow_26 (fun H locs hP hD hS => ?_)
      refine lv_aload_n hx hb dX7_leaksNow_29 rfl (lv_at hl 0 rfl) ?_
      refine lv_iload_n hx hb dX7_leaksNow_30 rfl (lv_at hl 1 rfl) ?_
      refine lv_iconst (v := (2 : Int32)) hx hb dX7_leaksNow_31 (by decide) ?_
      obtain ⟨x104, hg, hf⟩ := o1_s hf
      refine Ct.callV0 (ws' := wM g m0 m1 m2 m3 m4 m5 m6 m7 m8 m9 m10 m11 m12 now kept aside ik found carried T S) (As := [.int a1, .int (2 : Int32)]) (rest := [.int x103]) (st1 := [.int x104, .int x103]) (c_X7_cisternIs l g m0 m1 m2 m3 m4 m5 m6 m7 m8 m9 m10 m11 m12 now kept aside ik found carried T S a1 (2 : Int32) hg) (cwV 2 hts gX7_leaksNow_X7_cisternIs rfl rfl rfl q_X7_cisternIs ⟨Nat.le_of_ble_eq_true rfl, Nat.le_of_ble_eq_true rfl⟩) ⟨hx, hb, hml, hown, hts⟩ hE hP hD hS hA 7 0 rfl rfl rfl rfl hl.1 rfl rfl (Nat.le_of_ble_eq_true rfl) dX7_leaksNow_32 (fun H locs hP hD hS => ?_)
      refine va_mmin hx hb (hml.trans hl.1.symm) hown w1 w2 w3 w4 (Nat.le_of_ble_eq_true rfl) (Nat.le_of_ble_eq_true rfl) (Nat.zero_le _) (Nat.zero_le _) dX7_leaksNow_35 ?_
      obtain rfl := Option.some.inj hf
      rw [hQ]; exact Ct.iret hx hb hr hlocks hAe hP hD hS dX7_leaksNow_38
    · have hf := if_t hf hc
      refine lv_iconst (v := (0 : Int32)) hx hb dX7_leaksNow_19 (by decide) ?_
      refine lv_goto (tgt := 38) hx hb dX7_leaksNow_20 (by decide) ?_
      obtain rfl := Option.some.inj hf
      rw [hQ]; exact Ct.iret hx hb hr hlocks hAe hP hD hS dX7_leaksNow_38
def fX7_shows (now : Nat → Int32) (a1 : Int32) : Option (Int32) := o1 (fX7_cisternIs now a1 (2 : Int32)) (fun x101 => o1 (fX7_cisternIs now a1 (0 : Int32)) (fun x102 => if x102 = (4 : Int32) then (o1 (fX7_cisternIs now a1 (1 : Int32)) (fun x103 => some (x103 - x101))) else (if x102 = (3 : Int32) then (if (3 : Int32) ≤ x101 then (some x101) else (some (0 : Int32))) else (some x101))))
theorem q_X7_shows : yX7_shows.cls = RX7 ∧ yX7_shows.cls ≠ "java/lang/invoke/MethodHandle" ∧ yX7_shows.cls ≠ "java/lang/invoke/VarHandle" ∧ (parseMethodDescriptor yX7_shows.desc).map (fun d => d.parameters.length) = some 1 := by decide +kernel
set_option maxHeartbeats 4000000 in
set_option maxRecDepth 100000 in
theorem c_X7_shows (l : Launch) (g : gG) (m0 m1 m2 m3 m4 m5 m6 m7 m8 m9 m10 m11 m12 : Nat) (now : Nat → Int32) (kept : Nat → Int32) (aside : Nat → Int32) (ik : Int32) (found : Nat → Int32) (carried : Nat → Int32) (T : Mt) (S : Ms) (a1 : Int32) {r : Int32} (hf : fX7_shows now a1 = some r) : Ct l yX7_shows wsX7_shows (rmm 2 43) g (wM g m0 m1 m2 m3 m4 m5 m6 m7 m8 m9 m10 m11 m12 now kept aside ik found carried T S) (wM g m0 m1 m2 m3 m4 m5 m6 m7 m8 m9 m10 m11 m12 now kept aside ik found carried T S) [.ref m0, .int a1] (some (.int r)) := by
  refine Ct.mk (by decide) rfl (Nat.le_of_ble_eq_true rfl) ?_
  intro p e s m args below meth c A ls hx hb hr hml hts hown hlocks hA hE hP hD hS hl hAe
  obtain ⟨Qx, hQ⟩ : ∃ Qx : State → Prop, Qx = MQ below (QcG g (wM g m0 m1 m2 m3 m4 m5 m6 m7 m8 m9 m10 m11 m12 now kept aside ik found carried T S) (wM g m0 m1 m2 m3 m4 m5 m6 m7 m8 m9 m10 m11 m12 now kept aside ik found carried T S) (some (.int r)) s.heap.size) args s 0 0 A := ⟨_, rfl⟩
  rw [← hQ]
  have hown : s.vm.findClass RX7 = some m.cls := hown
  have hl : lv_has ls 4 [(0, .ref m0), (1, .int a1)] := hl
  unfold fX7_shows at hf
  refine lv_aload_n hx hb dX7_shows_0 rfl (lv_at hl 0 rfl) ?_
  refine lv_iload_n hx hb dX7_shows_1 rfl (lv_at hl 1 rfl) ?_
  refine lv_iconst (v := (2 : Int32)) hx hb dX7_shows_2 (by decide) ?_
  obtain ⟨x101, hg, hf⟩ := o1_s hf
  refine Ct.callV0 (ws' := wM g m0 m1 m2 m3 m4 m5 m6 m7 m8 m9 m10 m11 m12 now kept aside ik found carried T S) (As := [.int a1, .int (2 : Int32)]) (rest := []) (st1 := [.int x101]) (c_X7_cisternIs l g m0 m1 m2 m3 m4 m5 m6 m7 m8 m9 m10 m11 m12 now kept aside ik found carried T S a1 (2 : Int32) hg) (cwV 2 hts gX7_shows_X7_cisternIs rfl rfl rfl q_X7_cisternIs ⟨Nat.le_of_ble_eq_true rfl, Nat.le_of_ble_eq_true rfl⟩) ⟨hx, hb, hml, hown, hts⟩ hE hP hD hS hA 7 0 rfl rfl rfl rfl hl.1 rfl rfl (Nat.le_of_ble_eq_true rfl) dX7_shows_3 (fun H locs hP hD hS => ?_)
  refine lv_istore_n (lv' := [(2, .int x101), (0, .ref m0), (1, .int a1)]) hx hb dX7_shows_6 rfl hl (by decide) rfl (fun ls hl => ?_)
  refine lv_aload_n hx hb dX7_shows_7 rfl (lv_at hl 1 rfl) ?_
  refine lv_iload_n hx hb dX7_shows_8 rfl (lv_at hl 2 rfl) ?_
  refine lv_iconst (v := (0 : Int32)) hx hb dX7_shows_9 (by decide) ?_
  obtain ⟨x102, hg, hf⟩ := o1_s hf
  refine Ct.callV0 (ws' := wM g m0 m1 m2 m3 m4 m5 m6 m7 m8 m9 m10 m11 m12 now kept aside ik found carried T S) (As := [.int a1, .int (0 : Int32)]) (rest := []) (st1 := [.int x102]) (c_X7_cisternIs l g m0 m1 m2 m3 m4 m5 m6 m7 m8 m9 m10 m11 m12 now kept aside ik found carried T S a1 (0 : Int32) hg) (cwV 2 hts gX7_shows_X7_cisternIs rfl rfl rfl q_X7_cisternIs ⟨Nat.le_of_ble_eq_true rfl, Nat.le_of_ble_eq_true rfl⟩) ⟨hx, hb, hml, hown, hts⟩ hE hP hD hS hA 7 0 rfl rfl rfl rfl hl.1 rfl rfl (Nat.le_of_ble_eq_true rfl) dX7_shows_10 (fun H locs hP hD hS => ?_)
  refine lv_istore_n (lv' := [(3, .int x102), (2, .int x101), (0, .ref m0), (1, .int a1)]) hx hb dX7_shows_13 rfl hl (by decide) rfl (fun ls hl => ?_)
  refine lv_iload_n hx hb dX7_shows_14 rfl (lv_at hl 0 rfl) ?_
  refine lv_iconst (v := (4 : Int32)) hx hb dX7_shows_15 (by decide) ?_
  refine lv_icmp_ne (tgt := 30) hx hb dX7_shows_16 (by decide) (fun hc => ?_) (fun hc => ?_)
  · have hf := if_f hf hc
    refine lv_iload_n hx hb dX7_shows_30 rfl (lv_at hl 0 rfl) ?_
    refine lv_iconst (v := (3 : Int32)) hx hb dX7_shows_31 (by decide) ?_
    refine lv_icmp_ne (tgt := 44) hx hb dX7_shows_32 (by decide) (fun hc => ?_) (fun hc => ?_)
    · have hf := if_f hf hc
      refine lv_iload_n hx hb dX7_shows_44 rfl (lv_at hl 1 rfl) ?_
      obtain rfl := Option.some.inj hf
      rw [hQ]; exact Ct.iret hx hb hr hlocks hAe hP hD hS dX7_shows_45
    · have hf := if_t hf hc
      refine lv_iload_n hx hb dX7_shows_35 rfl (lv_at hl 1 rfl) ?_
      refine lv_iconst (v := (3 : Int32)) hx hb dX7_shows_36 (by decide) ?_
      refine lv_icmp_ge (tgt := 44) hx hb dX7_shows_37 (by decide) (fun hc => ?_) (fun hc => ?_)
      · have hf := if_t hf hc
        refine lv_iload_n hx hb dX7_shows_44 rfl (lv_at hl 1 rfl) ?_
        obtain rfl := Option.some.inj hf
        rw [hQ]; exact Ct.iret hx hb hr hlocks hAe hP hD hS dX7_shows_45
      · have hf := if_f hf hc
        refine lv_iconst (v := (0 : Int32)) hx hb dX7_shows_40 (by decide) ?_
        refine lv_goto (tgt := 45) hx hb dX7_shows_41 (by decide) ?_
        obtain rfl := Option.some.inj hf
        rw [hQ]; exact Ct.iret hx hb hr hlocks hAe hP hD hS dX7_shows_45
  · have hf := if_t hf hc
    refine lv_aload_n hx hb dX7_shows_19 rfl (lv_at hl 2 rfl) ?_
    refine lv_iload_n hx hb dX7_shows_20 rfl (lv_at hl 3 rfl) ?_
    refine lv_iconst (v := (1 : Int32)) hx hb dX7_shows_21 (by decide) ?_
    obtain ⟨x103, hg, hf⟩ := o1_s hf
    refine Ct.callV0 (ws' := wM g m0 m1 m2 m3 m4 m5 m6 m7 m8 m9 m10 m11 m12 now kept aside ik found carried T S) (As := [.int a1, .int (1 : Int32)]) (rest := []) (st1 := [.int x103]) (c_X7_cisternIs l g m0 m1 m2 m3 m4 m5 m6 m7 m8 m9 m10 m11 m12 now kept aside ik found carried T S a1 (1 : Int32) hg) (cwV 2 hts gX7_shows_X7_cisternIs rfl rfl rfl q_X7_cisternIs ⟨Nat.le_of_ble_eq_true rfl, Nat.le_of_ble_eq_true rfl⟩) ⟨hx, hb, hml, hown, hts⟩ hE hP hD hS hA 7 0 rfl rfl rfl rfl hl.1 rfl rfl (Nat.le_of_ble_eq_true rfl) dX7_shows_22 (fun H locs hP hD hS => ?_)
    refine lv_iload_n hx hb dX7_shows_25 rfl (lv_at hl 1 rfl) ?_
    refine lv_isub hx hb dX7_shows_26 ?_
    refine lv_goto (tgt := 45) hx hb dX7_shows_27 (by decide) ?_
    obtain rfl := Option.some.inj hf
    rw [hQ]; exact Ct.iret hx hb hr hlocks hAe hP hD hS dX7_shows_45
def fX7_runsOver (now : Nat → Int32) (a1 : Int32) : Option (Int32) := o1 (fX7_cisternIs now a1 (2 : Int32)) (fun x101 => o1 (fX7_cisternIs now a1 (1 : Int32)) (fun x102 => o1 (fX7_isUnder_ now a1 (1 : Int32) (0 : Int32)) (fun x103 => if x103 = 0 then (some (if (0 : Int32) < (x101 - x102) then (x101 - x102) else (0 : Int32))) else (if (x101 - x102) < 0 then (some (0 : Int32)) else (o1 (fX7_cisternIs now a1 (2 : Int32)) (fun x104 => some x104))))))
theorem q_X7_runsOver : yX7_runsOver.cls = RX7 ∧ yX7_runsOver.cls ≠ "java/lang/invoke/MethodHandle" ∧ yX7_runsOver.cls ≠ "java/lang/invoke/VarHandle" ∧ (parseMethodDescriptor yX7_runsOver.desc).map (fun d => d.parameters.length) = some 1 := by decide +kernel
set_option maxHeartbeats 4000000 in
set_option maxRecDepth 100000 in
theorem c_X7_runsOver (l : Launch) (g : gG) (m0 m1 m2 m3 m4 m5 m6 m7 m8 m9 m10 m11 m12 : Nat) (now : Nat → Int32) (kept : Nat → Int32) (aside : Nat → Int32) (ik : Int32) (found : Nat → Int32) (carried : Nat → Int32) (T : Mt) (S : Ms) (a1 : Int32) {r : Int32} (hf : fX7_runsOver now a1 = some r) : Ct l yX7_runsOver wsX7_runsOver (rmm 3 66) g (wM g m0 m1 m2 m3 m4 m5 m6 m7 m8 m9 m10 m11 m12 now kept aside ik found carried T S) (wM g m0 m1 m2 m3 m4 m5 m6 m7 m8 m9 m10 m11 m12 now kept aside ik found carried T S) [.ref m0, .int a1] (some (.int r)) := by
  refine Ct.mk (by decide) rfl (Nat.le_of_ble_eq_true rfl) ?_
  intro p e s m args below meth c A ls hx hb hr hml hts hown hlocks hA hE hP hD hS hl hAe
  obtain ⟨Qx, hQ⟩ : ∃ Qx : State → Prop, Qx = MQ below (QcG g (wM g m0 m1 m2 m3 m4 m5 m6 m7 m8 m9 m10 m11 m12 now kept aside ik found carried T S) (wM g m0 m1 m2 m3 m4 m5 m6 m7 m8 m9 m10 m11 m12 now kept aside ik found carried T S) (some (.int r)) s.heap.size) args s 0 0 A := ⟨_, rfl⟩
  rw [← hQ]
  have hown : s.vm.findClass RX7 = some m.cls := hown
  have hl : lv_has ls 3 [(0, .ref m0), (1, .int a1)] := hl
  have w1 := hts (.methodLink RX7 109 Lib.Math.max.name) (List.mem_of_getElem? (i := 1) rfl)
  have w2 := hts (.static Lib.Math.max.name) (List.mem_of_getElem? (i := 2) rfl)
  have w3 := hts (.initialized "java/lang/Math") (List.mem_of_getElem? (i := 3) rfl)
  have w4 := hts (.code Lib.Math.max.name Lib.Math.max.code 2 (some .int)) (List.mem_of_getElem? (i := 4) rfl)
  unfold fX7_runsOver at hf
  refine lv_aload_n hx hb dX7_runsOver_0 rfl (lv_at hl 0 rfl) ?_
  refine lv_iload_n hx hb dX7_runsOver_1 rfl (lv_at hl 1 rfl) ?_
  refine lv_iconst (v := (2 : Int32)) hx hb dX7_runsOver_2 (by decide) ?_
  obtain ⟨x101, hg, hf⟩ := o1_s hf
  refine Ct.callV0 (ws' := wM g m0 m1 m2 m3 m4 m5 m6 m7 m8 m9 m10 m11 m12 now kept aside ik found carried T S) (As := [.int a1, .int (2 : Int32)]) (rest := []) (st1 := [.int x101]) (c_X7_cisternIs l g m0 m1 m2 m3 m4 m5 m6 m7 m8 m9 m10 m11 m12 now kept aside ik found carried T S a1 (2 : Int32) hg) (cwV 2 hts gX7_runsOver_X7_cisternIs rfl rfl rfl q_X7_cisternIs ⟨Nat.le_of_ble_eq_true rfl, Nat.le_of_ble_eq_true rfl⟩) ⟨hx, hb, hml, hown, hts⟩ hE hP hD hS hA 7 0 rfl rfl rfl rfl hl.1 rfl rfl (Nat.le_of_ble_eq_true rfl) dX7_runsOver_3 (fun H locs hP hD hS => ?_)
  refine lv_aload_n hx hb dX7_runsOver_6 rfl (lv_at hl 0 rfl) ?_
  refine lv_iload_n hx hb dX7_runsOver_7 rfl (lv_at hl 1 rfl) ?_
  refine lv_iconst (v := (1 : Int32)) hx hb dX7_runsOver_8 (by decide) ?_
  obtain ⟨x102, hg, hf⟩ := o1_s hf
  refine Ct.callV0 (ws' := wM g m0 m1 m2 m3 m4 m5 m6 m7 m8 m9 m10 m11 m12 now kept aside ik found carried T S) (As := [.int a1, .int (1 : Int32)]) (rest := [.int x101]) (st1 := [.int x102, .int x101]) (c_X7_cisternIs l g m0 m1 m2 m3 m4 m5 m6 m7 m8 m9 m10 m11 m12 now kept aside ik found carried T S a1 (1 : Int32) hg) (cwV 2 hts gX7_runsOver_X7_cisternIs rfl rfl rfl q_X7_cisternIs ⟨Nat.le_of_ble_eq_true rfl, Nat.le_of_ble_eq_true rfl⟩) ⟨hx, hb, hml, hown, hts⟩ hE hP hD hS hA 7 0 rfl rfl rfl rfl hl.1 rfl rfl (Nat.le_of_ble_eq_true rfl) dX7_runsOver_9 (fun H locs hP hD hS => ?_)
  refine lv_isub hx hb dX7_runsOver_12 ?_
  refine lv_istore_n (lv' := [(2, .int (x101 - x102)), (0, .ref m0), (1, .int a1)]) hx hb dX7_runsOver_13 rfl hl (by decide) rfl (fun ls hl => ?_)
  refine lv_aload_n hx hb dX7_runsOver_14 rfl (lv_at hl 1 rfl) ?_
  refine lv_iload_n hx hb dX7_runsOver_15 rfl (lv_at hl 2 rfl) ?_
  refine lv_iconst (v := (1 : Int32)) hx hb dX7_runsOver_16 (by decide) ?_
  refine lv_iconst (v := (0 : Int32)) hx hb dX7_runsOver_17 (by decide) ?_
  obtain ⟨x103, hg, hf⟩ := o1_s hf
  refine Ct.callV0 (ws' := wM g m0 m1 m2 m3 m4 m5 m6 m7 m8 m9 m10 m11 m12 now kept aside ik found carried T S) (As := [.int a1, .int (1 : Int32), .int (0 : Int32)]) (rest := []) (st1 := [.int x103]) (c_X7_isUnder_ l g m0 m1 m2 m3 m4 m5 m6 m7 m8 m9 m10 m11 m12 now kept aside ik found carried T S a1 (1 : Int32) (0 : Int32) hg) (cwV 3 hts gX7_runsOver_X7_isUnder_ rfl rfl rfl q_X7_isUnder_ ⟨Nat.le_of_ble_eq_true rfl, Nat.le_of_ble_eq_true rfl⟩) ⟨hx, hb, hml, hown, hts⟩ hE hP hD hS hA 7 0 rfl rfl rfl rfl hl.1 rfl rfl (Nat.le_of_ble_eq_true rfl) dX7_runsOver_18 (fun H locs hP hD hS => ?_)
  refine lv_if_eq (tgt := 41) hx hb dX7_runsOver_21 (by decide) (fun hc => ?_) (fun hc => ?_)
  · have hf := if_t hf hc
    refine lv_iconst (v := (0 : Int32)) hx hb dX7_runsOver_41 (by decide) ?_
    refine lv_iload_n hx hb dX7_runsOver_42 rfl (lv_at hl 0 rfl) ?_
    refine va_mmax hx hb (hml.trans hl.1.symm) hown w1 w2 w3 w4 (Nat.le_of_ble_eq_true rfl) (Nat.le_of_ble_eq_true rfl) (Nat.zero_le _) (Nat.zero_le _) dX7_runsOver_43 ?_
    obtain rfl := Option.some.inj hf
    rw [hQ]; exact Ct.iret hx hb hr hlocks hAe hP hD hS dX7_runsOver_46
  · have hf := if_f hf hc
    refine lv_iload_n hx hb dX7_runsOver_24 rfl (lv_at hl 0 rfl) ?_
    refine lv_if_lt (tgt := 37) hx hb dX7_runsOver_25 (by decide) (fun hc => ?_) (fun hc => ?_)
    · have hf := if_t hf hc
      refine lv_iconst (v := (0 : Int32)) hx hb dX7_runsOver_37 (by decide) ?_
      refine lv_goto (tgt := 46) hx hb dX7_runsOver_38 (by decide) ?_
      obtain rfl := Option.some.inj hf
      rw [hQ]; exact Ct.iret hx hb hr hlocks hAe hP hD hS dX7_runsOver_46
    · have hf := if_f hf hc
      refine lv_aload_n hx hb dX7_runsOver_28 rfl (lv_at hl 1 rfl) ?_
      refine lv_iload_n hx hb dX7_runsOver_29 rfl (lv_at hl 2 rfl) ?_
      refine lv_iconst (v := (2 : Int32)) hx hb dX7_runsOver_30 (by decide) ?_
      obtain ⟨x104, hg, hf⟩ := o1_s hf
      refine Ct.callV0 (ws' := wM g m0 m1 m2 m3 m4 m5 m6 m7 m8 m9 m10 m11 m12 now kept aside ik found carried T S) (As := [.int a1, .int (2 : Int32)]) (rest := []) (st1 := [.int x104]) (c_X7_cisternIs l g m0 m1 m2 m3 m4 m5 m6 m7 m8 m9 m10 m11 m12 now kept aside ik found carried T S a1 (2 : Int32) hg) (cwV 2 hts gX7_runsOver_X7_cisternIs rfl rfl rfl q_X7_cisternIs ⟨Nat.le_of_ble_eq_true rfl, Nat.le_of_ble_eq_true rfl⟩) ⟨hx, hb, hml, hown, hts⟩ hE hP hD hS hA 7 0 rfl rfl rfl rfl hl.1 rfl rfl (Nat.le_of_ble_eq_true rfl) dX7_runsOver_31 (fun H locs hP hD hS => ?_)
      refine lv_goto (tgt := 46) hx hb dX7_runsOver_34 (by decide) ?_
      obtain rfl := Option.some.inj hf
      rw [hQ]; exact Ct.iret hx hb hr hlocks hAe hP hD hS dX7_runsOver_46
def fX7_of (now : Nat → Int32) (found : Nat → Int32) (a1 : Int32) (a2 : Int32) : Option (Int32 × (Nat → Int32)) := o1 (fX7_isCistern now a1) (fun x101 => if x101 = 0 then (o2 (fX7_finding found (-1000001 : Int32)) (fun x102 found103 => some (x102, found103))) else (o1 (fX7_within a2 (0 : Int32) (10 : Int32)) (fun x104 => if x104 = 0 then (o2 (fX7_finding found (-1000001 : Int32)) (fun x108 found109 => some (x108, found109))) else (if a2 = (6 : Int32) then (o1 (fX7_shows now a1) (fun x107 => some (x107, found))) else (if (6 : Int32) ≤ a2 then (o1 (fX7_cisternIs now a1 (a2 - (1 : Int32))) (fun x105 => some (x105, found))) else (o1 (fX7_cisternIs now a1 a2) (fun x106 => some (x106, found))))))))
theorem q_X7_of : yX7_of.cls = RX7 ∧ yX7_of.cls ≠ "java/lang/invoke/MethodHandle" ∧ yX7_of.cls ≠ "java/lang/invoke/VarHandle" ∧ (parseMethodDescriptor yX7_of.desc).map (fun d => d.parameters.length) = some 2 := by decide +kernel
set_option maxHeartbeats 4000000 in
set_option maxRecDepth 100000 in
theorem c_X7_of (l : Launch) (g : gG) (m0 m1 m2 m3 m4 m5 m6 m7 m8 m9 m10 m11 m12 : Nat) (now : Nat → Int32) (kept : Nat → Int32) (aside : Nat → Int32) (ik : Int32) (found : Nat → Int32) (carried : Nat → Int32) (T : Mt) (S : Ms) (a1 : Int32) (a2 : Int32) {r : Int32} {found' : Nat → Int32} (hf : fX7_of now found a1 a2 = some (r, found')) : Ct l yX7_of wsX7_of (rmm 3 66) g (wM g m0 m1 m2 m3 m4 m5 m6 m7 m8 m9 m10 m11 m12 now kept aside ik found carried T S) (wM g m0 m1 m2 m3 m4 m5 m6 m7 m8 m9 m10 m11 m12 now kept aside ik (found') carried T S) [.ref m0, .int a1, .int a2] (some (.int r)) := by
  refine Ct.mk (by decide) rfl (Nat.le_of_ble_eq_true rfl) ?_
  intro p e s m args below meth c A ls hx hb hr hml hts hown hlocks hA hE hP hD hS hl hAe
  obtain ⟨Qx, hQ⟩ : ∃ Qx : State → Prop, Qx = MQ below (QcG g (wM g m0 m1 m2 m3 m4 m5 m6 m7 m8 m9 m10 m11 m12 now kept aside ik found carried T S) (wM g m0 m1 m2 m3 m4 m5 m6 m7 m8 m9 m10 m11 m12 now kept aside ik (found') carried T S) (some (.int r)) s.heap.size) args s 0 0 A := ⟨_, rfl⟩
  rw [← hQ]
  have hown : s.vm.findClass RX7 = some m.cls := hown
  have hl : lv_has ls 3 [(0, .ref m0), (1, .int a1), (2, .int a2)] := hl
  have w1 := hts (.constant RX7 63 (-1000001)) (List.mem_of_getElem? (i := 1) rfl)
  unfold fX7_of at hf
  refine lv_aload_n hx hb dX7_of_0 rfl (lv_at hl 0 rfl) ?_
  refine lv_iload_n hx hb dX7_of_1 rfl (lv_at hl 1 rfl) ?_
  obtain ⟨x101, hg, hf⟩ := o1_s hf
  refine Ct.callV0 (ws' := wM g m0 m1 m2 m3 m4 m5 m6 m7 m8 m9 m10 m11 m12 now kept aside ik found carried T S) (As := [.int a1]) (rest := []) (st1 := [.int x101]) (c_X7_isCistern l g m0 m1 m2 m3 m4 m5 m6 m7 m8 m9 m10 m11 m12 now kept aside ik found carried T S a1 hg) (cwV 1 hts gX7_of_X7_isCistern rfl rfl rfl q_X7_isCistern ⟨Nat.le_of_ble_eq_true rfl, Nat.le_of_ble_eq_true rfl⟩) ⟨hx, hb, hml, hown, hts⟩ hE hP hD hS hA 7 0 rfl rfl rfl rfl hl.1 rfl rfl (Nat.le_of_ble_eq_true rfl) dX7_of_2 (fun H locs hP hD hS => ?_)
  refine lv_if_eq (tgt := 18) hx hb dX7_of_5 (by decide) (fun hc => ?_) (fun hc => ?_)
  · have hf := if_t hf hc
    refine lv_aload_n hx hb dX7_of_18 rfl (lv_at hl 0 rfl) ?_
    refine lv_ldc hx hb hown w1 dX7_of_19 ?_
    obtain ⟨x102, found103, hg, hf⟩ := o2_s hf
    refine Ct.callV0 (ws' := wM g m0 m1 m2 m3 m4 m5 m6 m7 m8 m9 m10 m11 m12 now kept aside ik found103 carried T S) (As := [.int (-1000001 : Int32)]) (rest := []) (st1 := [.int x102]) (c_X7_finding l g m0 m1 m2 m3 m4 m5 m6 m7 m8 m9 m10 m11 m12 now kept aside ik found carried T S (-1000001 : Int32) hg) (cwV 1 hts gX7_of_X7_finding rfl rfl rfl q_X7_finding ⟨Nat.le_of_ble_eq_true rfl, Nat.le_of_ble_eq_true rfl⟩) ⟨hx, hb, hml, hown, hts⟩ hE hP hD hS hA 7 0 rfl rfl rfl rfl hl.1 rfl rfl (Nat.le_of_ble_eq_true rfl) dX7_of_21 (fun H locs hP hD hS => ?_)
    obtain ⟨rfl, rfl⟩ := some_p2 hf
    rw [hQ]; exact Ct.iret hx hb hr hlocks hAe hP hD hS dX7_of_24
  · have hf := if_f hf hc
    refine lv_iload_n hx hb dX7_of_8 rfl (lv_at hl 2 rfl) ?_
    refine lv_iconst (v := (0 : Int32)) hx hb dX7_of_9 (by decide) ?_
    refine lv_bipush (v := (10 : Int32)) hx hb dX7_of_10 (by decide) ?_
    obtain ⟨x104, hg, hf⟩ := o1_s hf
    refine Ct.callS (ws' := wM g m0 m1 m2 m3 m4 m5 m6 m7 m8 m9 m10 m11 m12 now kept aside ik found carried T S) (As := [.int a2, .int (0 : Int32), .int (10 : Int32)]) (rest := []) (st1 := [.int x104]) (c_X7_within l g a2 (0 : Int32) (10 : Int32) hg) (va_cwS 3 hts gX7_of_X7_within rfl rfl rfl q_X7_within.2 ⟨Nat.le_of_ble_eq_true rfl, Nat.le_of_ble_eq_true rfl⟩) ⟨hx, hb, hml, hown, hts⟩ hE hP hD hS hA [] rfl rfl rfl rfl rfl hl.1 rfl rfl (Nat.le_of_ble_eq_true rfl) dX7_of_12 (fun H locs hP hD hS => ?_)
    refine lv_if_ne (tgt := 25) hx hb dX7_of_15 (by decide) (fun hc => ?_) (fun hc => ?_)
    · have hf := if_f hf hc
      refine lv_iload_n hx hb dX7_of_25 rfl (lv_at hl 2 rfl) ?_
      refine lv_bipush (v := (6 : Int32)) hx hb dX7_of_26 (by decide) ?_
      refine lv_icmp_ne (tgt := 39) hx hb dX7_of_28 (by decide) (fun hc => ?_) (fun hc => ?_)
      · have hf := if_f hf hc
        refine lv_aload_n hx hb dX7_of_39 rfl (lv_at hl 0 rfl) ?_
        refine lv_iload_n hx hb dX7_of_40 rfl (lv_at hl 1 rfl) ?_
        refine lv_iload_n hx hb dX7_of_41 rfl (lv_at hl 2 rfl) ?_
        refine lv_bipush (v := (6 : Int32)) hx hb dX7_of_42 (by decide) ?_
        refine lv_icmp_ge (tgt := 51) hx hb dX7_of_44 (by decide) (fun hc => ?_) (fun hc => ?_)
        · have hf := if_t hf hc
          refine lv_iload_n hx hb dX7_of_51 rfl (lv_at hl 2 rfl) ?_
          refine lv_iconst (v := (1 : Int32)) hx hb dX7_of_52 (by decide) ?_
          refine lv_isub hx hb dX7_of_53 ?_
          obtain ⟨x105, hg, hf⟩ := o1_s hf
          refine Ct.callV0 (ws' := wM g m0 m1 m2 m3 m4 m5 m6 m7 m8 m9 m10 m11 m12 now kept aside ik found carried T S) (As := [.int a1, .int (a2 - (1 : Int32))]) (rest := []) (st1 := [.int x105]) (c_X7_cisternIs l g m0 m1 m2 m3 m4 m5 m6 m7 m8 m9 m10 m11 m12 now kept aside ik found carried T S a1 (a2 - (1 : Int32)) hg) (cwV 2 hts gX7_of_X7_cisternIs rfl rfl rfl q_X7_cisternIs ⟨Nat.le_of_ble_eq_true rfl, Nat.le_of_ble_eq_true rfl⟩) ⟨hx, hb, hml, hown, hts⟩ hE hP hD hS hA 7 0 rfl rfl rfl rfl hl.1 rfl rfl (Nat.le_of_ble_eq_true rfl) dX7_of_54 (fun H locs hP hD hS => ?_)
          obtain ⟨rfl, rfl⟩ := some_p2 hf
          rw [hQ]; exact Ct.iret hx hb hr hlocks hAe hP hD hS dX7_of_57
        · have hf := if_f hf hc
          refine lv_iload_n hx hb dX7_of_47 rfl (lv_at hl 2 rfl) ?_
          refine lv_goto (tgt := 54) hx hb dX7_of_48 (by decide) ?_
          obtain ⟨x106, hg, hf⟩ := o1_s hf
          refine Ct.callV0 (ws' := wM g m0 m1 m2 m3 m4 m5 m6 m7 m8 m9 m10 m11 m12 now kept aside ik found carried T S) (As := [.int a1, .int a2]) (rest := []) (st1 := [.int x106]) (c_X7_cisternIs l g m0 m1 m2 m3 m4 m5 m6 m7 m8 m9 m10 m11 m12 now kept aside ik found carried T S a1 a2 hg) (cwV 2 hts gX7_of_X7_cisternIs rfl rfl rfl q_X7_cisternIs ⟨Nat.le_of_ble_eq_true rfl, Nat.le_of_ble_eq_true rfl⟩) ⟨hx, hb, hml, hown, hts⟩ hE hP hD hS hA 7 0 rfl rfl rfl rfl hl.1 rfl rfl (Nat.le_of_ble_eq_true rfl) dX7_of_54 (fun H locs hP hD hS => ?_)
          obtain ⟨rfl, rfl⟩ := some_p2 hf
          rw [hQ]; exact Ct.iret hx hb hr hlocks hAe hP hD hS dX7_of_57
      · have hf := if_t hf hc
        refine lv_aload_n hx hb dX7_of_31 rfl (lv_at hl 0 rfl) ?_
        refine lv_iload_n hx hb dX7_of_32 rfl (lv_at hl 1 rfl) ?_
        obtain ⟨x107, hg, hf⟩ := o1_s hf
        refine Ct.callV0 (ws' := wM g m0 m1 m2 m3 m4 m5 m6 m7 m8 m9 m10 m11 m12 now kept aside ik found carried T S) (As := [.int a1]) (rest := []) (st1 := [.int x107]) (c_X7_shows l g m0 m1 m2 m3 m4 m5 m6 m7 m8 m9 m10 m11 m12 now kept aside ik found carried T S a1 hg) (cwV 1 hts gX7_of_X7_shows rfl rfl rfl q_X7_shows ⟨Nat.le_of_ble_eq_true rfl, Nat.le_of_ble_eq_true rfl⟩) ⟨hx, hb, hml, hown, hts⟩ hE hP hD hS hA 7 0 rfl rfl rfl rfl hl.1 rfl rfl (Nat.le_of_ble_eq_true rfl) dX7_of_33 (fun H locs hP hD hS => ?_)
        refine lv_goto (tgt := 57) hx hb dX7_of_36 (by decide) ?_
        obtain ⟨rfl, rfl⟩ := some_p2 hf
        rw [hQ]; exact Ct.iret hx hb hr hlocks hAe hP hD hS dX7_of_57
    · have hf := if_t hf hc
      refine lv_aload_n hx hb dX7_of_18 rfl (lv_at hl 0 rfl) ?_
      refine lv_ldc hx hb hown w1 dX7_of_19 ?_
      obtain ⟨x108, found109, hg, hf⟩ := o2_s hf
      refine Ct.callV0 (ws' := wM g m0 m1 m2 m3 m4 m5 m6 m7 m8 m9 m10 m11 m12 now kept aside ik found109 carried T S) (As := [.int (-1000001 : Int32)]) (rest := []) (st1 := [.int x108]) (c_X7_finding l g m0 m1 m2 m3 m4 m5 m6 m7 m8 m9 m10 m11 m12 now kept aside ik found carried T S (-1000001 : Int32) hg) (cwV 1 hts gX7_of_X7_finding rfl rfl rfl q_X7_finding ⟨Nat.le_of_ble_eq_true rfl, Nat.le_of_ble_eq_true rfl⟩) ⟨hx, hb, hml, hown, hts⟩ hE hP hD hS hA 7 0 rfl rfl rfl rfl hl.1 rfl rfl (Nat.le_of_ble_eq_true rfl) dX7_of_21 (fun H locs hP hD hS => ?_)
      obtain ⟨rfl, rfl⟩ := some_p2 hf
      rw [hQ]; exact Ct.iret hx hb hr hlocks hAe hP hD hS dX7_of_24
def fX7_may (now : Nat → Int32) (a1 : Int32) (a2 : Int32) (a3 : Int32) : Option (Int32) := if a2 = (0 : Int32) then (o1 (fX7_isKind a3) (fun x101 => nb x101 (some x101))) else (if a2 = (1 : Int32) then (o1 (fX7_cisternIs now a1 (2 : Int32)) (fun x102 => o1 (fX7_within a3 (if (1 : Int32) < x102 then x102 else (1 : Int32)) (40 : Int32)) (fun x103 => nb x103 (some x103)))) else (if a2 = (2 : Int32) then (o1 (fX7_cisternIs now a1 (1 : Int32)) (fun x104 => o1 (fX7_within a3 (0 : Int32) x104) (fun x105 => nb x105 (some x105)))) else (if a2 = (3 : Int32) then (o1 (fX7_within a3 (0 : Int32) (9 : Int32)) (fun x106 => nb x106 (some x106))) else (if a2 = (4 : Int32) then (o1 (fX7_within a3 (-1 : Int32) (7 : Int32)) (fun x107 => nb x107 (some x107))) else (if a2 = (5 : Int32) then (o1 (fX7_within a3 (0 : Int32) (1 : Int32)) (fun x108 => nb x108 (some x108))) else (if a2 = (6 : Int32) then (some (0 : Int32)) else (o1 (fX7_within a3 (0 : Int32) (9 : Int32)) (fun x109 => nb x109 (some x109)))))))))
theorem q_X7_may : yX7_may.cls = RX7 ∧ yX7_may.cls ≠ "java/lang/invoke/MethodHandle" ∧ yX7_may.cls ≠ "java/lang/invoke/VarHandle" ∧ (parseMethodDescriptor yX7_may.desc).map (fun d => d.parameters.length) = some 3 := by decide +kernel
set_option maxHeartbeats 4000000 in
set_option maxRecDepth 100000 in
theorem c_X7_may (l : Launch) (g : gG) (m0 m1 m2 m3 m4 m5 m6 m7 m8 m9 m10 m11 m12 : Nat) (now : Nat → Int32) (kept : Nat → Int32) (aside : Nat → Int32) (ik : Int32) (found : Nat → Int32) (carried : Nat → Int32) (T : Mt) (S : Ms) (a1 : Int32) (a2 : Int32) (a3 : Int32) {r : Int32} (hf : fX7_may now a1 a2 a3 = some r) : Ct l yX7_may wsX7_may (rmm 2 43) g (wM g m0 m1 m2 m3 m4 m5 m6 m7 m8 m9 m10 m11 m12 now kept aside ik found carried T S) (wM g m0 m1 m2 m3 m4 m5 m6 m7 m8 m9 m10 m11 m12 now kept aside ik found carried T S) [.ref m0, .int a1, .int a2, .int a3] (some (.int r)) := by
  refine Ct.mk (by decide) rfl (Nat.le_of_ble_eq_true rfl) ?_
  intro p e s m args below meth c A ls hx hb hr hml hts hown hlocks hA hE hP hD hS hl hAe
  obtain ⟨Qx, hQ⟩ : ∃ Qx : State → Prop, Qx = MQ below (QcG g (wM g m0 m1 m2 m3 m4 m5 m6 m7 m8 m9 m10 m11 m12 now kept aside ik found carried T S) (wM g m0 m1 m2 m3 m4 m5 m6 m7 m8 m9 m10 m11 m12 now kept aside ik found carried T S) (some (.int r)) s.heap.size) args s 0 0 A := ⟨_, rfl⟩
  rw [← hQ]
  have hown : s.vm.findClass RX7 = some m.cls := hown
  have hl : lv_has ls 4 [(0, .ref m0), (1, .int a1), (2, .int a2), (3, .int a3)] := hl
  have w1 := hts (.methodLink RX7 109 Lib.Math.max.name) (List.mem_of_getElem? (i := 1) rfl)
  have w2 := hts (.static Lib.Math.max.name) (List.mem_of_getElem? (i := 2) rfl)
  have w3 := hts (.initialized "java/lang/Math") (List.mem_of_getElem? (i := 3) rfl)
  have w4 := hts (.code Lib.Math.max.name Lib.Math.max.code 2 (some .int)) (List.mem_of_getElem? (i := 4) rfl)
  unfold fX7_may at hf
  refine lv_iload_n hx hb dX7_may_0 rfl (lv_at hl 2 rfl) ?_
  by_cases hc0 : a2 = (0 : Int32)
  · have hf := if_t hf hc0
    refine lv_tableIn (off := 43) (tgt := 44) hx hb dX7_may_1 (ts_in _ hc0 (by decide)) (ts_hi _ hc0 (by decide)) (ts_of _ hc0 (by decide)) (by decide) ?_
    refine lv_iload_n hx hb dX7_may_44 rfl (lv_at hl 3 rfl) ?_
    obtain ⟨x101, hg, hf⟩ := o1_s hf
    refine Ct.callS (ws' := wM g m0 m1 m2 m3 m4 m5 m6 m7 m8 m9 m10 m11 m12 now kept aside ik found carried T S) (As := [.int a3]) (rest := []) (st1 := [.int x101]) (c_X7_isKind l g a3 hg) (va_cwS 1 hts gX7_may_X7_isKind rfl rfl rfl q_X7_isKind.2 ⟨Nat.le_of_ble_eq_true rfl, Nat.le_of_ble_eq_true rfl⟩) ⟨hx, hb, hml, hown, hts⟩ hE hP hD hS hA [] rfl rfl rfl rfl rfl hl.1 rfl rfl (Nat.le_of_ble_eq_true rfl) dX7_may_45 (fun H locs hP hD hS => ?_)
    obtain ⟨hn, hf⟩ := nb_s hf
    obtain rfl := Option.some.inj hf
    rw [hQ]; exact Ct.zret hx hb hr hn hlocks hAe hP hD hS dX7_may_48
  · have hf := if_f hf hc0
    by_cases hc1 : a2 = (1 : Int32)
    · have hf := if_t hf hc1
      refine lv_tableIn (off := 48) (tgt := 49) hx hb dX7_may_1 (ts_in _ hc1 (by decide)) (ts_hi _ hc1 (by decide)) (ts_of _ hc1 (by decide)) (by decide) ?_
      refine lv_iload_n hx hb dX7_may_49 rfl (lv_at hl 3 rfl) ?_
      refine lv_iconst (v := (1 : Int32)) hx hb dX7_may_50 (by decide) ?_
      refine lv_aload_n hx hb dX7_may_51 rfl (lv_at hl 0 rfl) ?_
      refine lv_iload_n hx hb dX7_may_52 rfl (lv_at hl 1 rfl) ?_
      refine lv_iconst (v := (2 : Int32)) hx hb dX7_may_53 (by decide) ?_
      obtain ⟨x102, hg, hf⟩ := o1_s hf
      refine Ct.callV0 (ws' := wM g m0 m1 m2 m3 m4 m5 m6 m7 m8 m9 m10 m11 m12 now kept aside ik found carried T S) (As := [.int a1, .int (2 : Int32)]) (rest := [.int (1 : Int32), .int a3]) (st1 := [.int x102, .int (1 : Int32), .int a3]) (c_X7_cisternIs l g m0 m1 m2 m3 m4 m5 m6 m7 m8 m9 m10 m11 m12 now kept aside ik found carried T S a1 (2 : Int32) hg) (cwV 2 hts gX7_may_X7_cisternIs rfl rfl rfl q_X7_cisternIs ⟨Nat.le_of_ble_eq_true rfl, Nat.le_of_ble_eq_true rfl⟩) ⟨hx, hb, hml, hown, hts⟩ hE hP hD hS hA 7 0 rfl rfl rfl rfl hl.1 rfl rfl (Nat.le_of_ble_eq_true rfl) dX7_may_54 (fun H locs hP hD hS => ?_)
      refine va_mmax hx hb (hml.trans hl.1.symm) hown w1 w2 w3 w4 (Nat.le_of_ble_eq_true rfl) (Nat.le_of_ble_eq_true rfl) (Nat.zero_le _) (Nat.zero_le _) dX7_may_57 ?_
      refine lv_bipush (v := (40 : Int32)) hx hb dX7_may_60 (by decide) ?_
      obtain ⟨x103, hg, hf⟩ := o1_s hf
      refine Ct.callS (ws' := wM g m0 m1 m2 m3 m4 m5 m6 m7 m8 m9 m10 m11 m12 now kept aside ik found carried T S) (As := [.int a3, .int (if (1 : Int32) < x102 then x102 else (1 : Int32)), .int (40 : Int32)]) (rest := []) (st1 := [.int x103]) (c_X7_within l g a3 (if (1 : Int32) < x102 then x102 else (1 : Int32)) (40 : Int32) hg) (va_cwS 3 hts gX7_may_X7_within rfl rfl rfl q_X7_within.2 ⟨Nat.le_of_ble_eq_true rfl, Nat.le_of_ble_eq_true rfl⟩) ⟨hx, hb, hml, hown, hts⟩ hE hP hD hS hA [] rfl rfl rfl rfl rfl hl.1 rfl rfl (Nat.le_of_ble_eq_true rfl) dX7_may_62 (fun H locs hP hD hS => ?_)
      obtain ⟨hn, hf⟩ := nb_s hf
      obtain rfl := Option.some.inj hf
      rw [hQ]; exact Ct.zret hx hb hr hn hlocks hAe hP hD hS dX7_may_65
    · have hf := if_f hf hc1
      by_cases hc2 : a2 = (2 : Int32)
      · have hf := if_t hf hc2
        refine lv_tableIn (off := 65) (tgt := 66) hx hb dX7_may_1 (ts_in _ hc2 (by decide)) (ts_hi _ hc2 (by decide)) (ts_of _ hc2 (by decide)) (by decide) ?_
        refine lv_iload_n hx hb dX7_may_66 rfl (lv_at hl 3 rfl) ?_
        refine lv_iconst (v := (0 : Int32)) hx hb dX7_may_67 (by decide) ?_
        refine lv_aload_n hx hb dX7_may_68 rfl (lv_at hl 0 rfl) ?_
        refine lv_iload_n hx hb dX7_may_69 rfl (lv_at hl 1 rfl) ?_
        refine lv_iconst (v := (1 : Int32)) hx hb dX7_may_70 (by decide) ?_
        obtain ⟨x104, hg, hf⟩ := o1_s hf
        refine Ct.callV0 (ws' := wM g m0 m1 m2 m3 m4 m5 m6 m7 m8 m9 m10 m11 m12 now kept aside ik found carried T S) (As := [.int a1, .int (1 : Int32)]) (rest := [.int (0 : Int32), .int a3]) (st1 := [.int x104, .int (0 : Int32), .int a3]) (c_X7_cisternIs l g m0 m1 m2 m3 m4 m5 m6 m7 m8 m9 m10 m11 m12 now kept aside ik found carried T S a1 (1 : Int32) hg) (cwV 2 hts gX7_may_X7_cisternIs rfl rfl rfl q_X7_cisternIs ⟨Nat.le_of_ble_eq_true rfl, Nat.le_of_ble_eq_true rfl⟩) ⟨hx, hb, hml, hown, hts⟩ hE hP hD hS hA 7 0 rfl rfl rfl rfl hl.1 rfl rfl (Nat.le_of_ble_eq_true rfl) dX7_may_71 (fun H locs hP hD hS => ?_)
        obtain ⟨x105, hg, hf⟩ := o1_s hf
        refine Ct.callS (ws' := wM g m0 m1 m2 m3 m4 m5 m6 m7 m8 m9 m10 m11 m12 now kept aside ik found carried T S) (As := [.int a3, .int (0 : Int32), .int x104]) (rest := []) (st1 := [.int x105]) (c_X7_within l g a3 (0 : Int32) x104 hg) (va_cwS 3 hts gX7_may_X7_within rfl rfl rfl q_X7_within.2 ⟨Nat.le_of_ble_eq_true rfl, Nat.le_of_ble_eq_true rfl⟩) ⟨hx, hb, hml, hown, hts⟩ hE hP hD hS hA [] rfl rfl rfl rfl rfl hl.1 rfl rfl (Nat.le_of_ble_eq_true rfl) dX7_may_74 (fun H locs hP hD hS => ?_)
        obtain ⟨hn, hf⟩ := nb_s hf
        obtain rfl := Option.some.inj hf
        rw [hQ]; exact Ct.zret hx hb hr hn hlocks hAe hP hD hS dX7_may_77
      · have hf := if_f hf hc2
        by_cases hc3 : a2 = (3 : Int32)
        · have hf := if_t hf hc3
          refine lv_tableIn (off := 94) (tgt := 95) hx hb dX7_may_1 (ts_in _ hc3 (by decide)) (ts_hi _ hc3 (by decide)) (ts_of _ hc3 (by decide)) (by decide) ?_
          refine lv_iload_n hx hb dX7_may_95 rfl (lv_at hl 3 rfl) ?_
          refine lv_iconst (v := (0 : Int32)) hx hb dX7_may_96 (by decide) ?_
          refine lv_bipush (v := (9 : Int32)) hx hb dX7_may_97 (by decide) ?_
          obtain ⟨x106, hg, hf⟩ := o1_s hf
          refine Ct.callS (ws' := wM g m0 m1 m2 m3 m4 m5 m6 m7 m8 m9 m10 m11 m12 now kept aside ik found carried T S) (As := [.int a3, .int (0 : Int32), .int (9 : Int32)]) (rest := []) (st1 := [.int x106]) (c_X7_within l g a3 (0 : Int32) (9 : Int32) hg) (va_cwS 3 hts gX7_may_X7_within rfl rfl rfl q_X7_within.2 ⟨Nat.le_of_ble_eq_true rfl, Nat.le_of_ble_eq_true rfl⟩) ⟨hx, hb, hml, hown, hts⟩ hE hP hD hS hA [] rfl rfl rfl rfl rfl hl.1 rfl rfl (Nat.le_of_ble_eq_true rfl) dX7_may_99 (fun H locs hP hD hS => ?_)
          obtain ⟨hn, hf⟩ := nb_s hf
          obtain rfl := Option.some.inj hf
          rw [hQ]; exact Ct.zret hx hb hr hn hlocks hAe hP hD hS dX7_may_102
        · have hf := if_f hf hc3
          by_cases hc4 : a2 = (4 : Int32)
          · have hf := if_t hf hc4
            refine lv_tableIn (off := 77) (tgt := 78) hx hb dX7_may_1 (ts_in _ hc4 (by decide)) (ts_hi _ hc4 (by decide)) (ts_of _ hc4 (by decide)) (by decide) ?_
            refine lv_iload_n hx hb dX7_may_78 rfl (lv_at hl 3 rfl) ?_
            refine lv_iconst (v := (-1 : Int32)) hx hb dX7_may_79 (by decide) ?_
            refine lv_bipush (v := (7 : Int32)) hx hb dX7_may_80 (by decide) ?_
            obtain ⟨x107, hg, hf⟩ := o1_s hf
            refine Ct.callS (ws' := wM g m0 m1 m2 m3 m4 m5 m6 m7 m8 m9 m10 m11 m12 now kept aside ik found carried T S) (As := [.int a3, .int (-1 : Int32), .int (7 : Int32)]) (rest := []) (st1 := [.int x107]) (c_X7_within l g a3 (-1 : Int32) (7 : Int32) hg) (va_cwS 3 hts gX7_may_X7_within rfl rfl rfl q_X7_within.2 ⟨Nat.le_of_ble_eq_true rfl, Nat.le_of_ble_eq_true rfl⟩) ⟨hx, hb, hml, hown, hts⟩ hE hP hD hS hA [] rfl rfl rfl rfl rfl hl.1 rfl rfl (Nat.le_of_ble_eq_true rfl) dX7_may_82 (fun H locs hP hD hS => ?_)
            obtain ⟨hn, hf⟩ := nb_s hf
            obtain rfl := Option.some.inj hf
            rw [hQ]; exact Ct.zret hx hb hr hn hlocks hAe hP hD hS dX7_may_85
          · have hf := if_f hf hc4
            by_cases hc5 : a2 = (5 : Int32)
            · have hf := if_t hf hc5
              refine lv_tableIn (off := 85) (tgt := 86) hx hb dX7_may_1 (ts_in _ hc5 (by decide)) (ts_hi _ hc5 (by decide)) (ts_of _ hc5 (by decide)) (by decide) ?_
              refine lv_iload_n hx hb dX7_may_86 rfl (lv_at hl 3 rfl) ?_
              refine lv_iconst (v := (0 : Int32)) hx hb dX7_may_87 (by decide) ?_
              refine lv_iconst (v := (1 : Int32)) hx hb dX7_may_88 (by decide) ?_
              obtain ⟨x108, hg, hf⟩ := o1_s hf
              refine Ct.callS (ws' := wM g m0 m1 m2 m3 m4 m5 m6 m7 m8 m9 m10 m11 m12 now kept aside ik found carried T S) (As := [.int a3, .int (0 : Int32), .int (1 : Int32)]) (rest := []) (st1 := [.int x108]) (c_X7_within l g a3 (0 : Int32) (1 : Int32) hg) (va_cwS 3 hts gX7_may_X7_within rfl rfl rfl q_X7_within.2 ⟨Nat.le_of_ble_eq_true rfl, Nat.le_of_ble_eq_true rfl⟩) ⟨hx, hb, hml, hown, hts⟩ hE hP hD hS hA [] rfl rfl rfl rfl rfl hl.1 rfl rfl (Nat.le_of_ble_eq_true rfl) dX7_may_89 (fun H locs hP hD hS => ?_)
              obtain ⟨hn, hf⟩ := nb_s hf
              obtain rfl := Option.some.inj hf
              rw [hQ]; exact Ct.zret hx hb hr hn hlocks hAe hP hD hS dX7_may_92
            · have hf := if_f hf hc5
              by_cases hc6 : a2 = (6 : Int32)
              · have hf := if_t hf hc6
                refine lv_tableIn (off := 92) (tgt := 93) hx hb dX7_may_1 (ts_in _ hc6 (by decide)) (ts_hi _ hc6 (by decide)) (ts_of _ hc6 (by decide)) (by decide) ?_
                refine lv_iconst (v := (0 : Int32)) hx hb dX7_may_93 (by decide) ?_
                obtain rfl := Option.some.inj hf
                rw [hQ]; exact Ct.zret hx hb hr (by decide) hlocks hAe hP hD hS dX7_may_94
              · have hf := if_f hf hc6
                have hn0 := lv_neT (a := 0) hc0 (by decide)
                have hn1 := lv_neT (a := 1) hc1 (by decide)
                have hn2 := lv_neT (a := 2) hc2 (by decide)
                have hn3 := lv_neT (a := 3) hc3 (by decide)
                have hn4 := lv_neT (a := 4) hc4 (by decide)
                have hn5 := lv_neT (a := 5) hc5 (by decide)
                have hn6 := lv_neT (a := 6) hc6 (by decide)
                refine lv_tableOut (tgt := 95) hx hb dX7_may_1 (by omega) (by decide) ?_
                refine lv_iload_n hx hb dX7_may_95 rfl (lv_at hl 3 rfl) ?_
                refine lv_iconst (v := (0 : Int32)) hx hb dX7_may_96 (by decide) ?_
                refine lv_bipush (v := (9 : Int32)) hx hb dX7_may_97 (by decide) ?_
                obtain ⟨x109, hg, hf⟩ := o1_s hf
                refine Ct.callS (ws' := wM g m0 m1 m2 m3 m4 m5 m6 m7 m8 m9 m10 m11 m12 now kept aside ik found carried T S) (As := [.int a3, .int (0 : Int32), .int (9 : Int32)]) (rest := []) (st1 := [.int x109]) (c_X7_within l g a3 (0 : Int32) (9 : Int32) hg) (va_cwS 3 hts gX7_may_X7_within rfl rfl rfl q_X7_within.2 ⟨Nat.le_of_ble_eq_true rfl, Nat.le_of_ble_eq_true rfl⟩) ⟨hx, hb, hml, hown, hts⟩ hE hP hD hS hA [] rfl rfl rfl rfl rfl hl.1 rfl rfl (Nat.le_of_ble_eq_true rfl) dX7_may_99 (fun H locs hP hD hS => ?_)
                obtain ⟨hn, hf⟩ := nb_s hf
                obtain rfl := Option.some.inj hf
                rw [hQ]; exact Ct.zret hx hb hr hn hlocks hAe hP hD hS dX7_may_102
def fX7_change (now : Nat → Int32) (found : Nat → Int32) (a1 : Int32) (a2 : Int32) (a3 : Int32) : Option (Int32 × (Nat → Int32) × (Nat → Int32)) := o1 (fX7_isCistern now a1) (fun x101 => if x101 = 0 then (o2 (fX7_finding found (-1000001 : Int32)) (fun x102 found103 => some (x102, now, found103))) else (o1 (fX7_within a2 (0 : Int32) (10 : Int32)) (fun x104 => if x104 = 0 then (o2 (fX7_finding found (-1000001 : Int32)) (fun x105 found106 => some (x105, now, found106))) else (o1 (fX7_may now a1 a2 a3) (fun x107 => if x107 = 0 then (o2 (fX7_finding found (-1000001 : Int32)) (fun x114 found115 => some (x114, now, found115))) else (if (6 : Int32) ≤ a2 then (o1 (fX7_at a1 (a2 - (1 : Int32))) (fun x108 => o2 (fX7_become now x108 a3) (fun x109 now110 => some (x109, now110, found)))) else (o1 (fX7_at a1 a2) (fun x111 => o2 (fX7_become now x111 a3) (fun x112 now113 => some (x112, now113, found))))))))))
theorem q_X7_change : yX7_change.cls = RX7 ∧ yX7_change.cls ≠ "java/lang/invoke/MethodHandle" ∧ yX7_change.cls ≠ "java/lang/invoke/VarHandle" ∧ (parseMethodDescriptor yX7_change.desc).map (fun d => d.parameters.length) = some 3 := by decide +kernel
set_option maxHeartbeats 4000000 in
set_option maxRecDepth 100000 in
theorem c_X7_change (l : Launch) (g : gG) (m0 m1 m2 m3 m4 m5 m6 m7 m8 m9 m10 m11 m12 : Nat) (now : Nat → Int32) (kept : Nat → Int32) (aside : Nat → Int32) (ik : Int32) (found : Nat → Int32) (carried : Nat → Int32) (T : Mt) (S : Ms) (a1 : Int32) (a2 : Int32) (a3 : Int32) {r : Int32} {now' : Nat → Int32} {found' : Nat → Int32} (hf : fX7_change now found a1 a2 a3 = some (r, now', found')) : Ct l yX7_change wsX7_change (rmm 3 66) g (wM g m0 m1 m2 m3 m4 m5 m6 m7 m8 m9 m10 m11 m12 now kept aside ik found carried T S) (wM g m0 m1 m2 m3 m4 m5 m6 m7 m8 m9 m10 m11 m12 (now') kept aside ik (found') carried T S) [.ref m0, .int a1, .int a2, .int a3] (some (.int r)) := by
  refine Ct.mk (by decide) rfl (Nat.le_of_ble_eq_true rfl) ?_
  intro p e s m args below meth c A ls hx hb hr hml hts hown hlocks hA hE hP hD hS hl hAe
  obtain ⟨Qx, hQ⟩ : ∃ Qx : State → Prop, Qx = MQ below (QcG g (wM g m0 m1 m2 m3 m4 m5 m6 m7 m8 m9 m10 m11 m12 now kept aside ik found carried T S) (wM g m0 m1 m2 m3 m4 m5 m6 m7 m8 m9 m10 m11 m12 (now') kept aside ik (found') carried T S) (some (.int r)) s.heap.size) args s 0 0 A := ⟨_, rfl⟩
  rw [← hQ]
  have hown : s.vm.findClass RX7 = some m.cls := hown
  have hl : lv_has ls 4 [(0, .ref m0), (1, .int a1), (2, .int a2), (3, .int a3)] := hl
  have w1 := hts (.constant RX7 63 (-1000001)) (List.mem_of_getElem? (i := 1) rfl)
  unfold fX7_change at hf
  refine lv_aload_n hx hb dX7_change_0 rfl (lv_at hl 0 rfl) ?_
  refine lv_iload_n hx hb dX7_change_1 rfl (lv_at hl 1 rfl) ?_
  obtain ⟨x101, hg, hf⟩ := o1_s hf
  refine Ct.callV0 (ws' := wM g m0 m1 m2 m3 m4 m5 m6 m7 m8 m9 m10 m11 m12 now kept aside ik found carried T S) (As := [.int a1]) (rest := []) (st1 := [.int x101]) (c_X7_isCistern l g m0 m1 m2 m3 m4 m5 m6 m7 m8 m9 m10 m11 m12 now kept aside ik found carried T S a1 hg) (cwV 1 hts gX7_change_X7_isCistern rfl rfl rfl q_X7_isCistern ⟨Nat.le_of_ble_eq_true rfl, Nat.le_of_ble_eq_true rfl⟩) ⟨hx, hb, hml, hown, hts⟩ hE hP hD hS hA 7 0 rfl rfl rfl rfl hl.1 rfl rfl (Nat.le_of_ble_eq_true rfl) dX7_change_2 (fun H locs hP hD hS => ?_)
  refine lv_if_eq (tgt := 28) hx hb dX7_change_5 (by decide) (fun hc => ?_) (fun hc => ?_)
  · have hf := if_t hf hc
    refine lv_aload_n hx hb dX7_change_28 rfl (lv_at hl 0 rfl) ?_
    refine lv_ldc hx hb hown w1 dX7_change_29 ?_
    obtain ⟨x102, found103, hg, hf⟩ := o2_s hf
    refine Ct.callV0 (ws' := wM g m0 m1 m2 m3 m4 m5 m6 m7 m8 m9 m10 m11 m12 now kept aside ik found103 carried T S) (As := [.int (-1000001 : Int32)]) (rest := []) (st1 := [.int x102]) (c_X7_finding l g m0 m1 m2 m3 m4 m5 m6 m7 m8 m9 m10 m11 m12 now kept aside ik found carried T S (-1000001 : Int32) hg) (cwV 1 hts gX7_change_X7_finding rfl rfl rfl q_X7_finding ⟨Nat.le_of_ble_eq_true rfl, Nat.le_of_ble_eq_true rfl⟩) ⟨hx, hb, hml, hown, hts⟩ hE hP hD hS hA 7 0 rfl rfl rfl rfl hl.1 rfl rfl (Nat.le_of_ble_eq_true rfl) dX7_change_31 (fun H locs hP hD hS => ?_)
    obtain ⟨rfl, rfl, rfl⟩ := some_p3 hf
    rw [hQ]; exact Ct.iret hx hb hr hlocks hAe hP hD hS dX7_change_34
  · have hf := if_f hf hc
    refine lv_iload_n hx hb dX7_change_8 rfl (lv_at hl 2 rfl) ?_
    refine lv_iconst (v := (0 : Int32)) hx hb dX7_change_9 (by decide) ?_
    refine lv_bipush (v := (10 : Int32)) hx hb dX7_change_10 (by decide) ?_
    obtain ⟨x104, hg, hf⟩ := o1_s hf
    refine Ct.callS (ws' := wM g m0 m1 m2 m3 m4 m5 m6 m7 m8 m9 m10 m11 m12 now kept aside ik found carried T S) (As := [.int a2, .int (0 : Int32), .int (10 : Int32)]) (rest := []) (st1 := [.int x104]) (c_X7_within l g a2 (0 : Int32) (10 : Int32) hg) (va_cwS 3 hts gX7_change_X7_within rfl rfl rfl q_X7_within.2 ⟨Nat.le_of_ble_eq_true rfl, Nat.le_of_ble_eq_true rfl⟩) ⟨hx, hb, hml, hown, hts⟩ hE hP hD hS hA [] rfl rfl rfl rfl rfl hl.1 rfl rfl (Nat.le_of_ble_eq_true rfl) dX7_change_12 (fun H locs hP hD hS => ?_)
    refine lv_if_eq (tgt := 28) hx hb dX7_change_15 (by decide) (fun hc => ?_) (fun hc => ?_)
    · have hf := if_t hf hc
      refine lv_aload_n hx hb dX7_change_28 rfl (lv_at hl 0 rfl) ?_
      refine lv_ldc hx hb hown w1 dX7_change_29 ?_
      obtain ⟨x105, found106, hg, hf⟩ := o2_s hf
      refine Ct.callV0 (ws' := wM g m0 m1 m2 m3 m4 m5 m6 m7 m8 m9 m10 m11 m12 now kept aside ik found106 carried T S) (As := [.int (-1000001 : Int32)]) (rest := []) (st1 := [.int x105]) (c_X7_finding l g m0 m1 m2 m3 m4 m5 m6 m7 m8 m9 m10 m11 m12 now kept aside ik found carried T S (-1000001 : Int32) hg) (cwV 1 hts gX7_change_X7_finding rfl rfl rfl q_X7_finding ⟨Nat.le_of_ble_eq_true rfl, Nat.le_of_ble_eq_true rfl⟩) ⟨hx, hb, hml, hown, hts⟩ hE hP hD hS hA 7 0 rfl rfl rfl rfl hl.1 rfl rfl (Nat.le_of_ble_eq_true rfl) dX7_change_31 (fun H locs hP hD hS => ?_)
      obtain ⟨rfl, rfl, rfl⟩ := some_p3 hf
      rw [hQ]; exact Ct.iret hx hb hr hlocks hAe hP hD hS dX7_change_34
    · have hf := if_f hf hc
      refine lv_aload_n hx hb dX7_change_18 rfl (lv_at hl 0 rfl) ?_
      refine lv_iload_n hx hb dX7_change_19 rfl (lv_at hl 1 rfl) ?_
      refine lv_iload_n hx hb dX7_change_20 rfl (lv_at hl 2 rfl) ?_
      refine lv_iload_n hx hb dX7_change_21 rfl (lv_at hl 3 rfl) ?_
      obtain ⟨x107, hg, hf⟩ := o1_s hf
      refine Ct.callV0 (ws' := wM g m0 m1 m2 m3 m4 m5 m6 m7 m8 m9 m10 m11 m12 now kept aside ik found carried T S) (As := [.int a1, .int a2, .int a3]) (rest := []) (st1 := [.int x107]) (c_X7_may l g m0 m1 m2 m3 m4 m5 m6 m7 m8 m9 m10 m11 m12 now kept aside ik found carried T S a1 a2 a3 hg) (cwV 3 hts gX7_change_X7_may rfl rfl rfl q_X7_may ⟨Nat.le_of_ble_eq_true rfl, Nat.le_of_ble_eq_true rfl⟩) ⟨hx, hb, hml, hown, hts⟩ hE hP hD hS hA 7 0 rfl rfl rfl rfl hl.1 rfl rfl (Nat.le_of_ble_eq_true rfl) dX7_change_22 (fun H locs hP hD hS => ?_)
      refine lv_if_ne (tgt := 35) hx hb dX7_change_25 (by decide) (fun hc => ?_) (fun hc => ?_)
      · have hf := if_f hf hc
        refine lv_aload_n hx hb dX7_change_35 rfl (lv_at hl 0 rfl) ?_
        refine lv_iload_n hx hb dX7_change_36 rfl (lv_at hl 1 rfl) ?_
        refine lv_iload_n hx hb dX7_change_37 rfl (lv_at hl 2 rfl) ?_
        refine lv_bipush (v := (6 : Int32)) hx hb dX7_change_38 (by decide) ?_
        refine lv_icmp_ge (tgt := 47) hx hb dX7_change_40 (by decide) (fun hc => ?_) (fun hc => ?_)
        · have hf := if_t hf hc
          refine lv_iload_n hx hb dX7_change_47 rfl (lv_at hl 2 rfl) ?_
          refine lv_iconst (v := (1 : Int32)) hx hb dX7_change_48 (by decide) ?_
          refine lv_isub hx hb dX7_change_49 ?_
          obtain ⟨x108, hg, hf⟩ := o1_s hf
          refine Ct.callS (ws' := wM g m0 m1 m2 m3 m4 m5 m6 m7 m8 m9 m10 m11 m12 now kept aside ik found carried T S) (As := [.int a1, .int (a2 - (1 : Int32))]) (rest := [.ref m0]) (st1 := [.int x108, .ref m0]) (c_X7_at l g a1 (a2 - (1 : Int32)) hg) (va_cwS 2 hts gX7_change_X7_at rfl rfl rfl q_X7_at.2 ⟨Nat.le_of_ble_eq_true rfl, Nat.le_of_ble_eq_true rfl⟩) ⟨hx, hb, hml, hown, hts⟩ hE hP hD hS hA [] rfl rfl rfl rfl rfl hl.1 rfl rfl (Nat.le_of_ble_eq_true rfl) dX7_change_50 (fun H locs hP hD hS => ?_)
          refine lv_iload_n hx hb dX7_change_53 rfl (lv_at hl 3 rfl) ?_
          obtain ⟨x109, now110, hg, hf⟩ := o2_s hf
          refine Ct.callV0 (ws' := wM g m0 m1 m2 m3 m4 m5 m6 m7 m8 m9 m10 m11 m12 now110 kept aside ik found carried T S) (As := [.int x108, .int a3]) (rest := []) (st1 := [.int x109]) (c_X7_become l g m0 m1 m2 m3 m4 m5 m6 m7 m8 m9 m10 m11 m12 now kept aside ik found carried T S x108 a3 hg) (cwV 2 hts gX7_change_X7_become rfl rfl rfl q_X7_become ⟨Nat.le_of_ble_eq_true rfl, Nat.le_of_ble_eq_true rfl⟩) ⟨hx, hb, hml, hown, hts⟩ hE hP hD hS hA 7 0 rfl rfl rfl rfl hl.1 rfl rfl (Nat.le_of_ble_eq_true rfl) dX7_change_54 (fun H locs hP hD hS => ?_)
          obtain ⟨rfl, rfl, rfl⟩ := some_p3 hf
          rw [hQ]; exact Ct.iret hx hb hr hlocks hAe hP hD hS dX7_change_57
        · have hf := if_f hf hc
          refine lv_iload_n hx hb dX7_change_43 rfl (lv_at hl 2 rfl) ?_
          refine lv_goto (tgt := 50) hx hb dX7_change_44 (by decide) ?_
          obtain ⟨x111, hg, hf⟩ := o1_s hf
          refine Ct.callS (ws' := wM g m0 m1 m2 m3 m4 m5 m6 m7 m8 m9 m10 m11 m12 now kept aside ik found carried T S) (As := [.int a1, .int a2]) (rest := [.ref m0]) (st1 := [.int x111, .ref m0]) (c_X7_at l g a1 a2 hg) (va_cwS 2 hts gX7_change_X7_at rfl rfl rfl q_X7_at.2 ⟨Nat.le_of_ble_eq_true rfl, Nat.le_of_ble_eq_true rfl⟩) ⟨hx, hb, hml, hown, hts⟩ hE hP hD hS hA [] rfl rfl rfl rfl rfl hl.1 rfl rfl (Nat.le_of_ble_eq_true rfl) dX7_change_50 (fun H locs hP hD hS => ?_)
          refine lv_iload_n hx hb dX7_change_53 rfl (lv_at hl 3 rfl) ?_
          obtain ⟨x112, now113, hg, hf⟩ := o2_s hf
          refine Ct.callV0 (ws' := wM g m0 m1 m2 m3 m4 m5 m6 m7 m8 m9 m10 m11 m12 now113 kept aside ik found carried T S) (As := [.int x111, .int a3]) (rest := []) (st1 := [.int x112]) (c_X7_become l g m0 m1 m2 m3 m4 m5 m6 m7 m8 m9 m10 m11 m12 now kept aside ik found carried T S x111 a3 hg) (cwV 2 hts gX7_change_X7_become rfl rfl rfl q_X7_become ⟨Nat.le_of_ble_eq_true rfl, Nat.le_of_ble_eq_true rfl⟩) ⟨hx, hb, hml, hown, hts⟩ hE hP hD hS hA 7 0 rfl rfl rfl rfl hl.1 rfl rfl (Nat.le_of_ble_eq_true rfl) dX7_change_54 (fun H locs hP hD hS => ?_)
          obtain ⟨rfl, rfl, rfl⟩ := some_p3 hf
          rw [hQ]; exact Ct.iret hx hb hr hlocks hAe hP hD hS dX7_change_57
      · have hf := if_t hf hc
        refine lv_aload_n hx hb dX7_change_28 rfl (lv_at hl 0 rfl) ?_
        refine lv_ldc hx hb hown w1 dX7_change_29 ?_
        obtain ⟨x114, found115, hg, hf⟩ := o2_s hf
        refine Ct.callV0 (ws' := wM g m0 m1 m2 m3 m4 m5 m6 m7 m8 m9 m10 m11 m12 now kept aside ik found115 carried T S) (As := [.int (-1000001 : Int32)]) (rest := []) (st1 := [.int x114]) (c_X7_finding l g m0 m1 m2 m3 m4 m5 m6 m7 m8 m9 m10 m11 m12 now kept aside ik found carried T S (-1000001 : Int32) hg) (cwV 1 hts gX7_change_X7_finding rfl rfl rfl q_X7_finding ⟨Nat.le_of_ble_eq_true rfl, Nat.le_of_ble_eq_true rfl⟩) ⟨hx, hb, hml, hown, hts⟩ hE hP hD hS hA 7 0 rfl rfl rfl rfl hl.1 rfl rfl (Nat.le_of_ble_eq_true rfl) dX7_change_31 (fun H locs hP hD hS => ?_)
        obtain ⟨rfl, rfl, rfl⟩ := some_p3 hf
        rw [hQ]; exact Ct.iret hx hb hr hlocks hAe hP hD hS dX7_change_34
def fX7_cold (now : Nat → Int32) (found : Nat → Int32) (a1 : Int32) : Option (Int32 × (Nat → Int32) × (Nat → Int32)) := o1 (fX7_within a1 (0 : Int32) (1 : Int32)) (fun x101 => if x101 = 0 then (o2 (fX7_finding found (-1000001 : Int32)) (fun x102 found103 => some (x102, now, found103))) else (o2 (fX7_become now (1 : Int32) a1) (fun x104 now105 => some (x104, now105, found))))
theorem q_X7_cold : yX7_cold.cls = RX7 ∧ yX7_cold.cls ≠ "java/lang/invoke/MethodHandle" ∧ yX7_cold.cls ≠ "java/lang/invoke/VarHandle" ∧ (parseMethodDescriptor yX7_cold.desc).map (fun d => d.parameters.length) = some 1 := by decide +kernel
set_option maxHeartbeats 4000000 in
set_option maxRecDepth 100000 in
theorem c_X7_cold (l : Launch) (g : gG) (m0 m1 m2 m3 m4 m5 m6 m7 m8 m9 m10 m11 m12 : Nat) (now : Nat → Int32) (kept : Nat → Int32) (aside : Nat → Int32) (ik : Int32) (found : Nat → Int32) (carried : Nat → Int32) (T : Mt) (S : Ms) (a1 : Int32) {r : Int32} {now' : Nat → Int32} {found' : Nat → Int32} (hf : fX7_cold now found a1 = some (r, now', found')) : Ct l yX7_cold wsX7_cold (rmm 1 23) g (wM g m0 m1 m2 m3 m4 m5 m6 m7 m8 m9 m10 m11 m12 now kept aside ik found carried T S) (wM g m0 m1 m2 m3 m4 m5 m6 m7 m8 m9 m10 m11 m12 (now') kept aside ik (found') carried T S) [.ref m0, .int a1] (some (.int r)) := by
  refine Ct.mk (by decide) rfl (Nat.le_of_ble_eq_true rfl) ?_
  intro p e s m args below meth c A ls hx hb hr hml hts hown hlocks hA hE hP hD hS hl hAe
  obtain ⟨Qx, hQ⟩ : ∃ Qx : State → Prop, Qx = MQ below (QcG g (wM g m0 m1 m2 m3 m4 m5 m6 m7 m8 m9 m10 m11 m12 now kept aside ik found carried T S) (wM g m0 m1 m2 m3 m4 m5 m6 m7 m8 m9 m10 m11 m12 (now') kept aside ik (found') carried T S) (some (.int r)) s.heap.size) args s 0 0 A := ⟨_, rfl⟩
  rw [← hQ]
  have hown : s.vm.findClass RX7 = some m.cls := hown
  have hl : lv_has ls 2 [(0, .ref m0), (1, .int a1)] := hl
  have w1 := hts (.constant RX7 63 (-1000001)) (List.mem_of_getElem? (i := 1) rfl)
  unfold fX7_cold at hf
  refine lv_iload_n hx hb dX7_cold_0 rfl (lv_at hl 1 rfl) ?_
  refine lv_iconst (v := (0 : Int32)) hx hb dX7_cold_1 (by decide) ?_
  refine lv_iconst (v := (1 : Int32)) hx hb dX7_cold_2 (by decide) ?_
  obtain ⟨x101, hg, hf⟩ := o1_s hf
  refine Ct.callS (ws' := wM g m0 m1 m2 m3 m4 m5 m6 m7 m8 m9 m10 m11 m12 now kept aside ik found carried T S) (As := [.int a1, .int (0 : Int32), .int (1 : Int32)]) (rest := []) (st1 := [.int x101]) (c_X7_within l g a1 (0 : Int32) (1 : Int32) hg) (va_cwS 3 hts gX7_cold_X7_within rfl rfl rfl q_X7_within.2 ⟨Nat.le_of_ble_eq_true rfl, Nat.le_of_ble_eq_true rfl⟩) ⟨hx, hb, hml, hown, hts⟩ hE hP hD hS hA [] rfl rfl rfl rfl rfl hl.1 rfl rfl (Nat.le_of_ble_eq_true rfl) dX7_cold_3 (fun H locs hP hD hS => ?_)
  refine lv_if_eq (tgt := 18) hx hb dX7_cold_6 (by decide) (fun hc => ?_) (fun hc => ?_)
  · have hf := if_t hf hc
    refine lv_aload_n hx hb dX7_cold_18 rfl (lv_at hl 0 rfl) ?_
    refine lv_ldc hx hb hown w1 dX7_cold_19 ?_
    obtain ⟨x102, found103, hg, hf⟩ := o2_s hf
    refine Ct.callV0 (ws' := wM g m0 m1 m2 m3 m4 m5 m6 m7 m8 m9 m10 m11 m12 now kept aside ik found103 carried T S) (As := [.int (-1000001 : Int32)]) (rest := []) (st1 := [.int x102]) (c_X7_finding l g m0 m1 m2 m3 m4 m5 m6 m7 m8 m9 m10 m11 m12 now kept aside ik found carried T S (-1000001 : Int32) hg) (cwV 1 hts gX7_cold_X7_finding rfl rfl rfl q_X7_finding ⟨Nat.le_of_ble_eq_true rfl, Nat.le_of_ble_eq_true rfl⟩) ⟨hx, hb, hml, hown, hts⟩ hE hP hD hS hA 7 0 rfl rfl rfl rfl hl.1 rfl rfl (Nat.le_of_ble_eq_true rfl) dX7_cold_21 (fun H locs hP hD hS => ?_)
    obtain ⟨rfl, rfl, rfl⟩ := some_p3 hf
    rw [hQ]; exact Ct.iret hx hb hr hlocks hAe hP hD hS dX7_cold_24
  · have hf := if_f hf hc
    refine lv_aload_n hx hb dX7_cold_9 rfl (lv_at hl 0 rfl) ?_
    refine lv_iconst (v := (1 : Int32)) hx hb dX7_cold_10 (by decide) ?_
    refine lv_iload_n hx hb dX7_cold_11 rfl (lv_at hl 1 rfl) ?_
    obtain ⟨x104, now105, hg, hf⟩ := o2_s hf
    refine Ct.callV0 (ws' := wM g m0 m1 m2 m3 m4 m5 m6 m7 m8 m9 m10 m11 m12 now105 kept aside ik found carried T S) (As := [.int (1 : Int32), .int a1]) (rest := []) (st1 := [.int x104]) (c_X7_become l g m0 m1 m2 m3 m4 m5 m6 m7 m8 m9 m10 m11 m12 now kept aside ik found carried T S (1 : Int32) a1 hg) (cwV 2 hts gX7_cold_X7_become rfl rfl rfl q_X7_become ⟨Nat.le_of_ble_eq_true rfl, Nat.le_of_ble_eq_true rfl⟩) ⟨hx, hb, hml, hown, hts⟩ hE hP hD hS hA 7 0 rfl rfl rfl rfl hl.1 rfl rfl (Nat.le_of_ble_eq_true rfl) dX7_cold_12 (fun H locs hP hD hS => ?_)
    refine lv_goto (tgt := 24) hx hb dX7_cold_15 (by decide) ?_
    obtain ⟨rfl, rfl, rfl⟩ := some_p3 hf
    rw [hQ]; exact Ct.iret hx hb hr hlocks hAe hP hD hS dX7_cold_24
def fX7_isRain (a1 : Int32) (a2 : Int32) : Option (Int32) := o1 (fX7_within a1 (0 : Int32) (3 : Int32)) (fun x101 => if x101 = 0 then (some (0 : Int32)) else (o1 (fX7_within a2 (0 : Int32) (9 : Int32)) (fun x102 => if x102 = 0 then (some (0 : Int32)) else (some (1 : Int32)))))
theorem q_X7_isRain : yX7_isRain.cls = RX7 ∧ yX7_isRain.cls ≠ "java/lang/invoke/MethodHandle" ∧ yX7_isRain.cls ≠ "java/lang/invoke/VarHandle" ∧ (parseMethodDescriptor yX7_isRain.desc).map (fun d => d.parameters.length) = some 2 := by decide +kernel
set_option maxHeartbeats 4000000 in
set_option maxRecDepth 100000 in
theorem c_X7_isRain (l : Launch) (g : gG) (a1 : Int32) (a2 : Int32) {r : Int32} (hf : fX7_isRain a1 a2 = some r) : Ct l yX7_isRain wsX7_isRain (rmm 1 22) g (wNil g  ) (wNil g  ) [.int a1, .int a2] (some (.int r)) := by
  refine Ct.mk (by decide) rfl (Nat.le_of_ble_eq_true rfl) ?_
  intro p e s m args below meth c A ls hx hb hr hml hts hown hlocks hA hE hP hD hS hl hAe
  obtain ⟨Qx, hQ⟩ : ∃ Qx : State → Prop, Qx = MQ below (QcG g (wNil g  ) (wNil g  ) (some (.int r)) s.heap.size) args s 0 0 A := ⟨_, rfl⟩
  rw [← hQ]
  have hown : s.vm.findClass RX7 = some m.cls := hown
  have hl : lv_has ls 2 [(0, .int a1), (1, .int a2)] := hl
  unfold fX7_isRain at hf
  refine lv_iload_n hx hb dX7_isRain_0 rfl (lv_at hl 0 rfl) ?_
  refine lv_iconst (v := (0 : Int32)) hx hb dX7_isRain_1 (by decide) ?_
  refine lv_iconst (v := (3 : Int32)) hx hb dX7_isRain_2 (by decide) ?_
  obtain ⟨x101, hg, hf⟩ := o1_s hf
  refine Ct.callS (ws' := wNil g  ) (As := [.int a1, .int (0 : Int32), .int (3 : Int32)]) (rest := []) (st1 := [.int x101]) (c_X7_within l g a1 (0 : Int32) (3 : Int32) hg) (va_cwS 3 hts gX7_isRain_X7_within rfl rfl rfl q_X7_within.2 ⟨Nat.le_of_ble_eq_true rfl, Nat.le_of_ble_eq_true rfl⟩) ⟨hx, hb, hml, hown, hts⟩ hE hP hD hS hA [] rfl rfl rfl rfl rfl hl.1 rfl rfl (Nat.le_of_ble_eq_true rfl) dX7_isRain_3 (fun H locs hP hD hS => ?_)
  refine lv_if_eq (tgt := 23) hx hb dX7_isRain_6 (by decide) (fun hc => ?_) (fun hc => ?_)
  · have hf := if_t hf hc
    refine lv_iconst (v := (0 : Int32)) hx hb dX7_isRain_23 (by decide) ?_
    obtain rfl := Option.some.inj hf
    rw [hQ]; exact Ct.zret hx hb hr (by decide) hlocks hAe hP hD hS dX7_isRain_24
  · have hf := if_f hf hc
    refine lv_iload_n hx hb dX7_isRain_9 rfl (lv_at hl 1 rfl) ?_
    refine lv_iconst (v := (0 : Int32)) hx hb dX7_isRain_10 (by decide) ?_
    refine lv_bipush (v := (9 : Int32)) hx hb dX7_isRain_11 (by decide) ?_
    obtain ⟨x102, hg, hf⟩ := o1_s hf
    refine Ct.callS (ws' := wNil g  ) (As := [.int a2, .int (0 : Int32), .int (9 : Int32)]) (rest := []) (st1 := [.int x102]) (c_X7_within l g a2 (0 : Int32) (9 : Int32) hg) (va_cwS 3 hts gX7_isRain_X7_within rfl rfl rfl q_X7_within.2 ⟨Nat.le_of_ble_eq_true rfl, Nat.le_of_ble_eq_true rfl⟩) ⟨hx, hb, hml, hown, hts⟩ hE hP hD hS hA [] rfl rfl rfl rfl rfl hl.1 rfl rfl (Nat.le_of_ble_eq_true rfl) dX7_isRain_13 (fun H locs hP hD hS => ?_)
    refine lv_if_eq (tgt := 23) hx hb dX7_isRain_16 (by decide) (fun hc => ?_) (fun hc => ?_)
    · have hf := if_t hf hc
      refine lv_iconst (v := (0 : Int32)) hx hb dX7_isRain_23 (by decide) ?_
      obtain rfl := Option.some.inj hf
      rw [hQ]; exact Ct.zret hx hb hr (by decide) hlocks hAe hP hD hS dX7_isRain_24
    · have hf := if_f hf hc
      refine lv_iconst (v := (1 : Int32)) hx hb dX7_isRain_19 (by decide) ?_
      refine lv_goto (tgt := 24) hx hb dX7_isRain_20 (by decide) ?_
      obtain rfl := Option.some.inj hf
      rw [hQ]; exact Ct.zret hx hb hr (by decide) hlocks hAe hP hD hS dX7_isRain_24
def fX7_catches (now : Nat → Int32) (found : Nat → Int32) (a1 : Int32) (a2 : Int32) (a3 : Int32) : Option (Int32 × (Nat → Int32)) := o1 (fX7_isCistern now a1) (fun x101 => if x101 = 0 then (o2 (fX7_finding found (-1000001 : Int32)) (fun x102 found103 => some (x102, found103))) else (o1 (fX7_isRain a2 a3) (fun x104 => if x104 = 0 then (o2 (fX7_finding found (-1000001 : Int32)) (fun x105 found106 => some (x105, found106))) else (o1 (fX7_comesIn now a1 a2 a3) (fun x107 => some (x107, found))))))
theorem q_X7_catches : yX7_catches.cls = RX7 ∧ yX7_catches.cls ≠ "java/lang/invoke/MethodHandle" ∧ yX7_catches.cls ≠ "java/lang/invoke/VarHandle" ∧ (parseMethodDescriptor yX7_catches.desc).map (fun d => d.parameters.length) = some 3 := by decide +kernel
set_option maxHeartbeats 4000000 in
set_option maxRecDepth 100000 in
theorem c_X7_catches (l : Launch) (g : gG) (m0 m1 m2 m3 m4 m5 m6 m7 m8 m9 m10 m11 m12 : Nat) (now : Nat → Int32) (kept : Nat → Int32) (aside : Nat → Int32) (ik : Int32) (found : Nat → Int32) (carried : Nat → Int32) (T : Mt) (S : Ms) (a1 : Int32) (a2 : Int32) (a3 : Int32) {r : Int32} {found' : Nat → Int32} (hf : fX7_catches now found a1 a2 a3 = some (r, found')) : Ct l yX7_catches wsX7_catches (rmm 5 111) g (wM g m0 m1 m2 m3 m4 m5 m6 m7 m8 m9 m10 m11 m12 now kept aside ik found carried T S) (wM g m0 m1 m2 m3 m4 m5 m6 m7 m8 m9 m10 m11 m12 now kept aside ik (found') carried T S) [.ref m0, .int a1, .int a2, .int a3] (some (.int r)) := by
  refine Ct.mk (by decide) rfl (Nat.le_of_ble_eq_true rfl) ?_
  intro p e s m args below meth c A ls hx hb hr hml hts hown hlocks hA hE hP hD hS hl hAe
  obtain ⟨Qx, hQ⟩ : ∃ Qx : State → Prop, Qx = MQ below (QcG g (wM g m0 m1 m2 m3 m4 m5 m6 m7 m8 m9 m10 m11 m12 now kept aside ik found carried T S) (wM g m0 m1 m2 m3 m4 m5 m6 m7 m8 m9 m10 m11 m12 now kept aside ik (found') carried T S) (some (.int r)) s.heap.size) args s 0 0 A := ⟨_, rfl⟩
  rw [← hQ]
  have hown : s.vm.findClass RX7 = some m.cls := hown
  have hl : lv_has ls 4 [(0, .ref m0), (1, .int a1), (2, .int a2), (3, .int a3)] := hl
  have w1 := hts (.constant RX7 63 (-1000001)) (List.mem_of_getElem? (i := 1) rfl)
  unfold fX7_catches at hf
  refine lv_aload_n hx hb dX7_catches_0 rfl (lv_at hl 0 rfl) ?_
  refine lv_iload_n hx hb dX7_catches_1 rfl (lv_at hl 1 rfl) ?_
  obtain ⟨x101, hg, hf⟩ := o1_s hf
  refine Ct.callV0 (ws' := wM g m0 m1 m2 m3 m4 m5 m6 m7 m8 m9 m10 m11 m12 now kept aside ik found carried T S) (As := [.int a1]) (rest := []) (st1 := [.int x101]) (c_X7_isCistern l g m0 m1 m2 m3 m4 m5 m6 m7 m8 m9 m10 m11 m12 now kept aside ik found carried T S a1 hg) (cwV 1 hts gX7_catches_X7_isCistern rfl rfl rfl q_X7_isCistern ⟨Nat.le_of_ble_eq_true rfl, Nat.le_of_ble_eq_true rfl⟩) ⟨hx, hb, hml, hown, hts⟩ hE hP hD hS hA 7 0 rfl rfl rfl rfl hl.1 rfl rfl (Nat.le_of_ble_eq_true rfl) dX7_catches_2 (fun H locs hP hD hS => ?_)
  refine lv_if_eq (tgt := 26) hx hb dX7_catches_5 (by decide) (fun hc => ?_) (fun hc => ?_)
  · have hf := if_t hf hc
    refine lv_aload_n hx hb dX7_catches_26 rfl (lv_at hl 0 rfl) ?_
    refine lv_ldc hx hb hown w1 dX7_catches_27 ?_
    obtain ⟨x102, found103, hg, hf⟩ := o2_s hf
    refine Ct.callV0 (ws' := wM g m0 m1 m2 m3 m4 m5 m6 m7 m8 m9 m10 m11 m12 now kept aside ik found103 carried T S) (As := [.int (-1000001 : Int32)]) (rest := []) (st1 := [.int x102]) (c_X7_finding l g m0 m1 m2 m3 m4 m5 m6 m7 m8 m9 m10 m11 m12 now kept aside ik found carried T S (-1000001 : Int32) hg) (cwV 1 hts gX7_catches_X7_finding rfl rfl rfl q_X7_finding ⟨Nat.le_of_ble_eq_true rfl, Nat.le_of_ble_eq_true rfl⟩) ⟨hx, hb, hml, hown, hts⟩ hE hP hD hS hA 7 0 rfl rfl rfl rfl hl.1 rfl rfl (Nat.le_of_ble_eq_true rfl) dX7_catches_29 (fun H locs hP hD hS => ?_)
    obtain ⟨rfl, rfl⟩ := some_p2 hf
    rw [hQ]; exact Ct.iret hx hb hr hlocks hAe hP hD hS dX7_catches_32
  · have hf := if_f hf hc
    refine lv_iload_n hx hb dX7_catches_8 rfl (lv_at hl 2 rfl) ?_
    refine lv_iload_n hx hb dX7_catches_9 rfl (lv_at hl 3 rfl) ?_
    obtain ⟨x104, hg, hf⟩ := o1_s hf
    refine Ct.callS (ws' := wM g m0 m1 m2 m3 m4 m5 m6 m7 m8 m9 m10 m11 m12 now kept aside ik found carried T S) (As := [.int a2, .int a3]) (rest := []) (st1 := [.int x104]) (c_X7_isRain l g a2 a3 hg) (va_cwS 2 hts gX7_catches_X7_isRain rfl rfl rfl q_X7_isRain.2 ⟨Nat.le_of_ble_eq_true rfl, Nat.le_of_ble_eq_true rfl⟩) ⟨hx, hb, hml, hown, hts⟩ hE hP hD hS hA [] rfl rfl rfl rfl rfl hl.1 rfl rfl (Nat.le_of_ble_eq_true rfl) dX7_catches_10 (fun H locs hP hD hS => ?_)
    refine lv_if_eq (tgt := 26) hx hb dX7_catches_13 (by decide) (fun hc => ?_) (fun hc => ?_)
    · have hf := if_t hf hc
      refine lv_aload_n hx hb dX7_catches_26 rfl (lv_at hl 0 rfl) ?_
      refine lv_ldc hx hb hown w1 dX7_catches_27 ?_
      obtain ⟨x105, found106, hg, hf⟩ := o2_s hf
      refine Ct.callV0 (ws' := wM g m0 m1 m2 m3 m4 m5 m6 m7 m8 m9 m10 m11 m12 now kept aside ik found106 carried T S) (As := [.int (-1000001 : Int32)]) (rest := []) (st1 := [.int x105]) (c_X7_finding l g m0 m1 m2 m3 m4 m5 m6 m7 m8 m9 m10 m11 m12 now kept aside ik found carried T S (-1000001 : Int32) hg) (cwV 1 hts gX7_catches_X7_finding rfl rfl rfl q_X7_finding ⟨Nat.le_of_ble_eq_true rfl, Nat.le_of_ble_eq_true rfl⟩) ⟨hx, hb, hml, hown, hts⟩ hE hP hD hS hA 7 0 rfl rfl rfl rfl hl.1 rfl rfl (Nat.le_of_ble_eq_true rfl) dX7_catches_29 (fun H locs hP hD hS => ?_)
      obtain ⟨rfl, rfl⟩ := some_p2 hf
      rw [hQ]; exact Ct.iret hx hb hr hlocks hAe hP hD hS dX7_catches_32
    · have hf := if_f hf hc
      refine lv_aload_n hx hb dX7_catches_16 rfl (lv_at hl 0 rfl) ?_
      refine lv_iload_n hx hb dX7_catches_17 rfl (lv_at hl 1 rfl) ?_
      refine lv_iload_n hx hb dX7_catches_18 rfl (lv_at hl 2 rfl) ?_
      refine lv_iload_n hx hb dX7_catches_19 rfl (lv_at hl 3 rfl) ?_
      obtain ⟨x107, hg, hf⟩ := o1_s hf
      refine Ct.callV0 (ws' := wM g m0 m1 m2 m3 m4 m5 m6 m7 m8 m9 m10 m11 m12 now kept aside ik found carried T S) (As := [.int a1, .int a2, .int a3]) (rest := []) (st1 := [.int x107]) (c_X7_comesIn l g m0 m1 m2 m3 m4 m5 m6 m7 m8 m9 m10 m11 m12 now kept aside ik found carried T S a1 a2 a3 hg) (cwV 3 hts gX7_catches_X7_comesIn rfl rfl rfl q_X7_comesIn ⟨Nat.le_of_ble_eq_true rfl, Nat.le_of_ble_eq_true rfl⟩) ⟨hx, hb, hml, hown, hts⟩ hE hP hD hS hA 7 0 rfl rfl rfl rfl hl.1 rfl rfl (Nat.le_of_ble_eq_true rfl) dX7_catches_20 (fun H locs hP hD hS => ?_)
      refine lv_goto (tgt := 32) hx hb dX7_catches_23 (by decide) ?_
      obtain ⟨rfl, rfl⟩ := some_p2 hf
      rw [hQ]; exact Ct.iret hx hb hr hlocks hAe hP hD hS dX7_catches_32
def fX7_leadsTo (now : Nat → Int32) (a1 : Int32) : Option (Int32) := o1 (fX7_cisternIs now a1 (4 : Int32)) (fun x101 => o1 (fX7_isCistern now x101) (fun x102 => if x102 = 0 then (some (-1 : Int32)) else (if x101 = a1 then (some (-1 : Int32)) else (some x101))))
theorem q_X7_leadsTo : yX7_leadsTo.cls = RX7 ∧ yX7_leadsTo.cls ≠ "java/lang/invoke/MethodHandle" ∧ yX7_leadsTo.cls ≠ "java/lang/invoke/VarHandle" ∧ (parseMethodDescriptor yX7_leadsTo.desc).map (fun d => d.parameters.length) = some 1 := by decide +kernel
set_option maxHeartbeats 4000000 in
set_option maxRecDepth 100000 in
theorem c_X7_leadsTo (l : Launch) (g : gG) (m0 m1 m2 m3 m4 m5 m6 m7 m8 m9 m10 m11 m12 : Nat) (now : Nat → Int32) (kept : Nat → Int32) (aside : Nat → Int32) (ik : Int32) (found : Nat → Int32) (carried : Nat → Int32) (T : Mt) (S : Ms) (a1 : Int32) {r : Int32} (hf : fX7_leadsTo now a1 = some r) : Ct l yX7_leadsTo wsX7_leadsTo (rmm 2 43) g (wM g m0 m1 m2 m3 m4 m5 m6 m7 m8 m9 m10 m11 m12 now kept aside ik found carried T S) (wM g m0 m1 m2 m3 m4 m5 m6 m7 m8 m9 m10 m11 m12 now kept aside ik found carried T S) [.ref m0, .int a1] (some (.int r)) := by
  refine Ct.mk (by decide) rfl (Nat.le_of_ble_eq_true rfl) ?_
  intro p e s m args below meth c A ls hx hb hr hml hts hown hlocks hA hE hP hD hS hl hAe
  obtain ⟨Qx, hQ⟩ : ∃ Qx : State → Prop, Qx = MQ below (QcG g (wM g m0 m1 m2 m3 m4 m5 m6 m7 m8 m9 m10 m11 m12 now kept aside ik found carried T S) (wM g m0 m1 m2 m3 m4 m5 m6 m7 m8 m9 m10 m11 m12 now kept aside ik found carried T S) (some (.int r)) s.heap.size) args s 0 0 A := ⟨_, rfl⟩
  rw [← hQ]
  have hown : s.vm.findClass RX7 = some m.cls := hown
  have hl : lv_has ls 3 [(0, .ref m0), (1, .int a1)] := hl
  unfold fX7_leadsTo at hf
  refine lv_aload_n hx hb dX7_leadsTo_0 rfl (lv_at hl 0 rfl) ?_
  refine lv_iload_n hx hb dX7_leadsTo_1 rfl (lv_at hl 1 rfl) ?_
  refine lv_iconst (v := (4 : Int32)) hx hb dX7_leadsTo_2 (by decide) ?_
  obtain ⟨x101, hg, hf⟩ := o1_s hf
  refine Ct.callV0 (ws' := wM g m0 m1 m2 m3 m4 m5 m6 m7 m8 m9 m10 m11 m12 now kept aside ik found carried T S) (As := [.int a1, .int (4 : Int32)]) (rest := []) (st1 := [.int x101]) (c_X7_cisternIs l g m0 m1 m2 m3 m4 m5 m6 m7 m8 m9 m10 m11 m12 now kept aside ik found carried T S a1 (4 : Int32) hg) (cwV 2 hts gX7_leadsTo_X7_cisternIs rfl rfl rfl q_X7_cisternIs ⟨Nat.le_of_ble_eq_true rfl, Nat.le_of_ble_eq_true rfl⟩) ⟨hx, hb, hml, hown, hts⟩ hE hP hD hS hA 7 0 rfl rfl rfl rfl hl.1 rfl rfl (Nat.le_of_ble_eq_true rfl) dX7_leadsTo_3 (fun H locs hP hD hS => ?_)
  refine lv_istore_n (lv' := [(2, .int x101), (0, .ref m0), (1, .int a1)]) hx hb dX7_leadsTo_6 rfl hl (by decide) rfl (fun ls hl => ?_)
  refine lv_aload_n hx hb dX7_leadsTo_7 rfl (lv_at hl 1 rfl) ?_
  refine lv_iload_n hx hb dX7_leadsTo_8 rfl (lv_at hl 0 rfl) ?_
  obtain ⟨x102, hg, hf⟩ := o1_s hf
  refine Ct.callV0 (ws' := wM g m0 m1 m2 m3 m4 m5 m6 m7 m8 m9 m10 m11 m12 now kept aside ik found carried T S) (As := [.int x101]) (rest := []) (st1 := [.int x102]) (c_X7_isCistern l g m0 m1 m2 m3 m4 m5 m6 m7 m8 m9 m10 m11 m12 now kept aside ik found carried T S x101 hg) (cwV 1 hts gX7_leadsTo_X7_isCistern rfl rfl rfl q_X7_isCistern ⟨Nat.le_of_ble_eq_true rfl, Nat.le_of_ble_eq_true rfl⟩) ⟨hx, hb, hml, hown, hts⟩ hE hP hD hS hA 7 0 rfl rfl rfl rfl hl.1 rfl rfl (Nat.le_of_ble_eq_true rfl) dX7_leadsTo_9 (fun H locs hP hD hS => ?_)
  refine lv_if_eq (tgt := 24) hx hb dX7_leadsTo_12 (by decide) (fun hc => ?_) (fun hc => ?_)
  · have hf := if_t hf hc
    refine lv_iconst (v := (-1 : Int32)) hx hb dX7_leadsTo_24 (by decide) ?_
    obtain rfl := Option.some.inj hf
    rw [hQ]; exact Ct.iret hx hb hr hlocks hAe hP hD hS dX7_leadsTo_25
  · have hf := if_f hf hc
    refine lv_iload_n hx hb dX7_leadsTo_15 rfl (lv_at hl 0 rfl) ?_
    refine lv_iload_n hx hb dX7_leadsTo_16 rfl (lv_at hl 2 rfl) ?_
    refine lv_icmp_eq (tgt := 24) hx hb dX7_leadsTo_17 (by decide) (fun hc => ?_) (fun hc => ?_)
    · have hf := if_t hf hc
      refine lv_iconst (v := (-1 : Int32)) hx hb dX7_leadsTo_24 (by decide) ?_
      obtain rfl := Option.some.inj hf
      rw [hQ]; exact Ct.iret hx hb hr hlocks hAe hP hD hS dX7_leadsTo_25
    · have hf := if_f hf hc
      refine lv_iload_n hx hb dX7_leadsTo_20 rfl (lv_at hl 0 rfl) ?_
      refine lv_goto (tgt := 25) hx hb dX7_leadsTo_21 (by decide) ?_
      obtain rfl := Option.some.inj hf
      rw [hQ]; exact Ct.iret hx hb hr hlocks hAe hP hD hS dX7_leadsTo_25
def fX7_below_L23 (now : Nat → Int32) (kx : Int32 → Option (Int32 × (Nat → Int32))) : Nat → Int32 → Int32 → Option (Int32 × (Nat → Int32))
  | 0, _, _ => none
  | k + 1, x2, x3 => if x3 < 0 then (kx x2) else (if ((x2 >>> (x3 &&& 31)) &&& (1 : Int32)) = 0 then (o1 (fX7_leadsTo now x3) (fun x104 => fX7_below_L23 now kx k (x2 ||| ((1 : Int32) <<< (x3 &&& 31))) x104)) else (kx x2))
def fX7_below (now : Nat → Int32) (found : Nat → Int32) (a1 : Int32) : Option (Int32 × (Nat → Int32)) := o1 (fX7_isCistern now a1) (fun x101 => if x101 = 0 then (o2 (fX7_finding found (-1000001 : Int32)) (fun x106 found107 => some (x106, found107))) else (o1 (fX7_leadsTo now a1) (fun x102 => fX7_below_L23 now (fun x105 => some (x105, found)) fu (0 : Int32) x102)))
theorem q_X7_below : yX7_below.cls = RX7 ∧ yX7_below.cls ≠ "java/lang/invoke/MethodHandle" ∧ yX7_below.cls ≠ "java/lang/invoke/VarHandle" ∧ (parseMethodDescriptor yX7_below.desc).map (fun d => d.parameters.length) = some 1 := by decide +kernel
set_option maxHeartbeats 4000000 in
set_option maxRecDepth 100000 in
theorem c_X7_below (l : Launch) (g : gG) (m0 m1 m2 m3 m4 m5 m6 m7 m8 m9 m10 m11 m12 : Nat) (now : Nat → Int32) (kept : Nat → Int32) (aside : Nat → Int32) (ik : Int32) (found : Nat → Int32) (carried : Nat → Int32) (T : Mt) (S : Ms) (a1 : Int32) {r : Int32} {found' : Nat → Int32} (hf : fX7_below now found a1 = some (r, found')) : Ct l yX7_below wsX7_below (rmm 3 65) g (wM g m0 m1 m2 m3 m4 m5 m6 m7 m8 m9 m10 m11 m12 now kept aside ik found carried T S) (wM g m0 m1 m2 m3 m4 m5 m6 m7 m8 m9 m10 m11 m12 now kept aside ik (found') carried T S) [.ref m0, .int a1] (some (.int r)) := by
  refine Ct.mk (by decide) rfl (Nat.le_of_ble_eq_true rfl) ?_
  intro p e s m args below meth c A ls hx hb hr hml hts hown hlocks hA hE hP hD hS hl hAe
  obtain ⟨Qx, hQ⟩ : ∃ Qx : State → Prop, Qx = MQ below (QcG g (wM g m0 m1 m2 m3 m4 m5 m6 m7 m8 m9 m10 m11 m12 now kept aside ik found carried T S) (wM g m0 m1 m2 m3 m4 m5 m6 m7 m8 m9 m10 m11 m12 now kept aside ik (found') carried T S) (some (.int r)) s.heap.size) args s 0 0 A := ⟨_, rfl⟩
  rw [← hQ]
  have hown : s.vm.findClass RX7 = some m.cls := hown
  have hl : lv_has ls 4 [(0, .ref m0), (1, .int a1)] := hl
  have w1 := hts (.constant RX7 63 (-1000001)) (List.mem_of_getElem? (i := 1) rfl)
  have L23 : ∀ (found : Nat → Int32) (kx : Int32 → Option (Int32 × (Nat → Int32))) (k : Nat) (x2 : Int32) (x3 : Int32) (H : Heap) (locs : List Loc) (ls : Array Slot), fX7_below_L23 now kx k x2 x3 = some (r, found') → va_P g.1 vwK (wM g m0 m1 m2 m3 m4 m5 m6 m7 m8 m9 m10 m11 m12 now kept aside ik found carried T S) H → va_D A (wM g m0 m1 m2 m3 m4 m5 m6 m7 m8 m9 m10 m11 m12 now kept aside ik found carried T S) → va_S A s.heap H locs → lv_has ls 4 [(0, .ref m0), (2, .int x2), (3, .int x3)] → (∀ (x2 : Int32) (H : Heap) (locs : List Loc) (ls : Array Slot), kx x2 = some (r, found') → va_P g.1 vwK (wM g m0 m1 m2 m3 m4 m5 m6 m7 m8 m9 m10 m11 m12 now kept aside ik found carried T S) H → va_D A (wM g m0 m1 m2 m3 m4 m5 m6 m7 m8 m9 m10 m11 m12 now kept aside ik found carried T S) → va_S A s.heap H locs → lv_has ls 4 [(2, .int x2)] → W p l e (rmm 3 65) s m args below meth c H locs 0 0 Qx (F0 m 50 ls [])) → W p l e (rmm 3 65) s m args below meth c H locs 0 0 Qx (F0 m 23 ls []) := by
    intro found kx k
    induction k with
    | zero => intro x2 x3 H locs ls hf; exact nomatch (show (none : Option (Int32 × (Nat → Int32))) = some _ from hf)
    | succ k ih =>
      intro x2 x3 H locs ls hf hP hD hS hl hk
      rw [fX7_below_L23] at hf
      refine lv_iload_n hx hb dX7_below_23 rfl (lv_at hl 2 rfl) ?_
      refine lv_if_lt (tgt := 50) hx hb dX7_below_24 (by decide) (fun hc => ?_) (fun hc => ?_)
      · have hf := if_t hf hc
        exact hk _ _ _ _  hf hP hD hS (lv_sub hl [1] rfl)
      · have hf := if_f hf hc
        refine lv_iload_n hx hb dX7_below_27 rfl (lv_at hl 1 rfl) ?_
        refine lv_iload_n hx hb dX7_below_28 rfl (lv_at hl 2 rfl) ?_
        refine lv_ishr hx hb dX7_below_29 ?_
        refine lv_iconst (v := (1 : Int32)) hx hb dX7_below_30 (by decide) ?_
        refine lv_iand hx hb dX7_below_31 ?_
        refine lv_if_ne (tgt := 50) hx hb dX7_below_32 (by decide) (fun hc => ?_) (fun hc => ?_)
        · have hf := if_f hf hc
          exact hk _ _ _ _  hf hP hD hS (lv_sub hl [1] rfl)
        · have hf := if_t hf hc
          refine lv_iload_n hx hb dX7_below_35 rfl (lv_at hl 1 rfl) ?_
          refine lv_iconst (v := (1 : Int32)) hx hb dX7_below_36 (by decide) ?_
          refine lv_iload_n hx hb dX7_below_37 rfl (lv_at hl 2 rfl) ?_
          refine lv_ishl hx hb dX7_below_38 ?_
          refine lv_ior hx hb dX7_below_39 ?_
          refine lv_istore_n (lv' := [(2, .int (x2 ||| ((1 : Int32) <<< (x3 &&& 31)))), (0, .ref m0), (3, .int x3)]) hx hb dX7_below_40 rfl hl (by decide) rfl (fun ls hl => ?_)
          refine lv_aload_n hx hb dX7_below_41 rfl (lv_at hl 1 rfl) ?_
          refine lv_iload_n hx hb dX7_below_42 rfl (lv_at hl 2 rfl) ?_
          obtain ⟨x104, hg, hf⟩ := o1_s hf
          refine Ct.callV0 (ws' := wM g m0 m1 m2 m3 m4 m5 m6 m7 m8 m9 m10 m11 m12 now kept aside ik found carried T S) (As := [.int x3]) (rest := []) (st1 := [.int x104]) (c_X7_leadsTo l g m0 m1 m2 m3 m4 m5 m6 m7 m8 m9 m10 m11 m12 now kept aside ik found carried T S x3 hg) (cwV 1 hts gX7_below_X7_leadsTo rfl rfl rfl q_X7_leadsTo ⟨Nat.le_of_ble_eq_true rfl, Nat.le_of_ble_eq_true rfl⟩) ⟨hx, hb, hml, hown, hts⟩ hE hP hD hS hA 7 0 rfl rfl rfl rfl hl.1 rfl rfl (Nat.le_of_ble_eq_true rfl) dX7_below_43 (fun H locs hP hD hS => ?_)
          refine lv_istore_n (lv' := [(3, .int x104), (2, .int (x2 ||| ((1 : Int32) <<< (x3 &&& 31)))), (0, .ref m0)]) hx hb dX7_below_46 rfl hl (by decide) rfl (fun ls hl => ?_)
          refine lv_goto (tgt := 23) hx hb dX7_below_47 (by decide) ?_
          exact ih _ _ _ _ _  hf hP hD hS (lv_sub hl [2, 1, 0] rfl) hk
  unfold fX7_below at hf
  refine lv_aload_n hx hb dX7_below_0 rfl (lv_at hl 0 rfl) ?_
  refine lv_iload_n hx hb dX7_below_1 rfl (lv_at hl 1 rfl) ?_
  obtain ⟨x101, hg, hf⟩ := o1_s hf
  refine Ct.callV0 (ws' := wM g m0 m1 m2 m3 m4 m5 m6 m7 m8 m9 m10 m11 m12 now kept aside ik found carried T S) (As := [.int a1]) (rest := []) (st1 := [.int x101]) (c_X7_isCistern l g m0 m1 m2 m3 m4 m5 m6 m7 m8 m9 m10 m11 m12 now kept aside ik found carried T S a1 hg) (cwV 1 hts gX7_below_X7_isCistern rfl rfl rfl q_X7_isCistern ⟨Nat.le_of_ble_eq_true rfl, Nat.le_of_ble_eq_true rfl⟩) ⟨hx, hb, hml, hown, hts⟩ hE hP hD hS hA 7 0 rfl rfl rfl rfl hl.1 rfl rfl (Nat.le_of_ble_eq_true rfl) dX7_below_2 (fun H locs hP hD hS => ?_)
  refine lv_if_ne (tgt := 15) hx hb dX7_below_5 (by decide) (fun hc => ?_) (fun hc => ?_)
  · have hf := if_f hf hc
    refine lv_iconst (v := (0 : Int32)) hx hb dX7_below_15 (by decide) ?_
    refine lv_istore_n (lv' := [(2, .int (0 : Int32)), (0, .ref m0), (1, .int a1)]) hx hb dX7_below_16 rfl hl (by decide) rfl (fun ls hl => ?_)
    refine lv_aload_n hx hb dX7_below_17 rfl (lv_at hl 1 rfl) ?_
    refine lv_iload_n hx hb dX7_below_18 rfl (lv_at hl 2 rfl) ?_
    obtain ⟨x102, hg, hf⟩ := o1_s hf
    refine Ct.callV0 (ws' := wM g m0 m1 m2 m3 m4 m5 m6 m7 m8 m9 m10 m11 m12 now kept aside ik found carried T S) (As := [.int a1]) (rest := []) (st1 := [.int x102]) (c_X7_leadsTo l g m0 m1 m2 m3 m4 m5 m6 m7 m8 m9 m10 m11 m12 now kept aside ik found carried T S a1 hg) (cwV 1 hts gX7_below_X7_leadsTo rfl rfl rfl q_X7_leadsTo ⟨Nat.le_of_ble_eq_true rfl, Nat.le_of_ble_eq_true rfl⟩) ⟨hx, hb, hml, hown, hts⟩ hE hP hD hS hA 7 0 rfl rfl rfl rfl hl.1 rfl rfl (Nat.le_of_ble_eq_true rfl) dX7_below_19 (fun H locs hP hD hS => ?_)
    refine lv_istore_n (lv' := [(3, .int x102), (2, .int (0 : Int32)), (0, .ref m0), (1, .int a1)]) hx hb dX7_below_22 rfl hl (by decide) rfl (fun ls hl => ?_)
    refine L23 _ _ _ _ _ _ _ _  hf hP hD hS (lv_sub hl [2, 1, 0] rfl) (fun x105 H locs ls hf hP hD hS hl => ?_)
    refine lv_iload_n hx hb dX7_below_50 rfl (lv_at hl 0 rfl) ?_
    obtain ⟨rfl, rfl⟩ := some_p2 hf
    rw [hQ]; exact Ct.iret hx hb hr hlocks hAe hP hD hS dX7_below_51
  · have hf := if_t hf hc
    refine lv_aload_n hx hb dX7_below_8 rfl (lv_at hl 0 rfl) ?_
    refine lv_ldc hx hb hown w1 dX7_below_9 ?_
    obtain ⟨x106, found107, hg, hf⟩ := o2_s hf
    refine Ct.callV0 (ws' := wM g m0 m1 m2 m3 m4 m5 m6 m7 m8 m9 m10 m11 m12 now kept aside ik found107 carried T S) (As := [.int (-1000001 : Int32)]) (rest := []) (st1 := [.int x106]) (c_X7_finding l g m0 m1 m2 m3 m4 m5 m6 m7 m8 m9 m10 m11 m12 now kept aside ik found carried T S (-1000001 : Int32) hg) (cwV 1 hts gX7_below_X7_finding rfl rfl rfl q_X7_finding ⟨Nat.le_of_ble_eq_true rfl, Nat.le_of_ble_eq_true rfl⟩) ⟨hx, hb, hml, hown, hts⟩ hE hP hD hS hA 7 0 rfl rfl rfl rfl hl.1 rfl rfl (Nat.le_of_ble_eq_true rfl) dX7_below_11 (fun H locs hP hD hS => ?_)
    obtain ⟨rfl, rfl⟩ := some_p2 hf
    rw [hQ]; exact Ct.iret hx hb hr hlocks hAe hP hD hS dX7_below_14
def fX7_lockIs (now : Nat → Int32) (a1 : Int32) (a2 : Int32) : Option (Int32) := rd now 120 (((96 : Int32) + ((3 : Int32) * a1)) + a2) (fun x101 => some x101)
theorem q_X7_lockIs : yX7_lockIs.cls = RX7 ∧ yX7_lockIs.cls ≠ "java/lang/invoke/MethodHandle" ∧ yX7_lockIs.cls ≠ "java/lang/invoke/VarHandle" ∧ (parseMethodDescriptor yX7_lockIs.desc).map (fun d => d.parameters.length) = some 2 := by decide +kernel
theorem i_X7_lockIs_X7 : ∀ w ∈ u_ws RX7 TX7 22, w ∈ wsX7_lockIs := fun _ h => List.mem_cons_of_mem _ (List.mem_append_right _ (h))
set_option maxHeartbeats 4000000 in
set_option maxRecDepth 100000 in
theorem c_X7_lockIs (l : Launch) (g : gG) (m0 m1 m2 m3 m4 m5 m6 m7 m8 m9 m10 m11 m12 : Nat) (now : Nat → Int32) (kept : Nat → Int32) (aside : Nat → Int32) (ik : Int32) (found : Nat → Int32) (carried : Nat → Int32) (T : Mt) (S : Ms) (a1 : Int32) (a2 : Int32) {r : Int32} (hf : fX7_lockIs now a1 a2 = some r) : Ct l yX7_lockIs wsX7_lockIs (rmm 0 0) g (wM g m0 m1 m2 m3 m4 m5 m6 m7 m8 m9 m10 m11 m12 now kept aside ik found carried T S) (wM g m0 m1 m2 m3 m4 m5 m6 m7 m8 m9 m10 m11 m12 now kept aside ik found carried T S) [.ref m0, .int a1, .int a2] (some (.int r)) := by
  refine Ct.mk (by decide) rfl (Nat.le_of_ble_eq_true rfl) ?_
  intro p e s m args below meth c A ls hx hb hr hml hts hown hlocks hA hE hP hD hS hl hAe
  obtain ⟨Qx, hQ⟩ : ∃ Qx : State → Prop, Qx = MQ below (QcG g (wM g m0 m1 m2 m3 m4 m5 m6 m7 m8 m9 m10 m11 m12 now kept aside ik found carried T S) (wM g m0 m1 m2 m3 m4 m5 m6 m7 m8 m9 m10 m11 m12 now kept aside ik found carried T S) (some (.int r)) s.heap.size) args s 0 0 A := ⟨_, rfl⟩
  rw [← hQ]
  have hown : s.vm.findClass RX7 = some m.cls := hown
  have hl : lv_has ls 3 [(0, .ref m0), (1, .int a1), (2, .int a2)] := hl
  have w1 := hts (.fieldLink RX7 9 "RainVaultModel" "now" "[I") (List.mem_of_getElem? (i := 1) rfl)
  unfold fX7_lockIs at hf
  refine lv_aload_n hx hb dX7_lockIs_0 rfl (lv_at hl 0 rfl) ?_
  refine va_get (D := g.1) (ci := 7) (v := .ref m1) (C := RX7) (T := TX7) (N := 22) hx hb hts i_X7_lockIs_X7 hown hE.1 hP 0 rfl rfl 0 (by decide) w1 (fun _ h9 => h9) rfl dX7_lockIs_1 ?_
  refine lv_bipush (v := (96 : Int32)) hx hb dX7_lockIs_4 (by decide) ?_
  refine lv_iconst (v := (3 : Int32)) hx hb dX7_lockIs_6 (by decide) ?_
  refine lv_iload_n hx hb dX7_lockIs_7 rfl (lv_at hl 1 rfl) ?_
  refine lv_imul hx hb dX7_lockIs_8 ?_
  refine lv_iadd hx hb dX7_lockIs_9 ?_
  refine lv_iload_n hx hb dX7_lockIs_10 rfl (lv_at hl 2 rfl) ?_
  refine lv_iadd hx hb dX7_lockIs_11 ?_
  obtain ⟨x101, ex, hin, hf⟩ := rd_s hf
  refine st_iald (f := now) hx hb hE.1 hP 1 0 rfl rfl hin ex dX7_lockIs_12 ?_
  obtain rfl := Option.some.inj hf
  rw [hQ]; exact Ct.iret hx hb hr hlocks hAe hP hD hS dX7_lockIs_13
def fX7_put (now : Nat → Int32) (a1 : Int32) (a2 : Int32) (a3 : Int32) : Option (Int32 × (Nat → Int32)) := rd now 120 (3 : Int32) (fun x101 => wr now 120 (((96 : Int32) + ((3 : Int32) * x101)) + (0 : Int32)) a1 (fun f102 => wr f102 120 (((96 : Int32) + ((3 : Int32) * x101)) + (1 : Int32)) a2 (fun f103 => wr f103 120 (((96 : Int32) + ((3 : Int32) * x101)) + (2 : Int32)) a3 (fun f104 => rd f104 120 (3 : Int32) (fun x105 => wr f104 120 (3 : Int32) (x105 + (1 : Int32)) (fun f106 => some (x101, f106)))))))
theorem q_X7_put : yX7_put.cls = RX7 ∧ yX7_put.cls ≠ "java/lang/invoke/MethodHandle" ∧ yX7_put.cls ≠ "java/lang/invoke/VarHandle" ∧ (parseMethodDescriptor yX7_put.desc).map (fun d => d.parameters.length) = some 3 := by decide +kernel
theorem i_X7_put_X7 : ∀ w ∈ u_ws RX7 TX7 22, w ∈ wsX7_put := fun _ h => List.mem_cons_of_mem _ (List.mem_append_right _ (h))
set_option maxHeartbeats 4000000 in
set_option maxRecDepth 100000 in
theorem c_X7_put (l : Launch) (g : gG) (m0 m1 m2 m3 m4 m5 m6 m7 m8 m9 m10 m11 m12 : Nat) (now : Nat → Int32) (kept : Nat → Int32) (aside : Nat → Int32) (ik : Int32) (found : Nat → Int32) (carried : Nat → Int32) (T : Mt) (S : Ms) (a1 : Int32) (a2 : Int32) (a3 : Int32) {r : Int32} {now' : Nat → Int32} (hf : fX7_put now a1 a2 a3 = some (r, now')) : Ct l yX7_put wsX7_put (rmm 0 0) g (wM g m0 m1 m2 m3 m4 m5 m6 m7 m8 m9 m10 m11 m12 now kept aside ik found carried T S) (wM g m0 m1 m2 m3 m4 m5 m6 m7 m8 m9 m10 m11 m12 (now') kept aside ik found carried T S) [.ref m0, .int a1, .int a2, .int a3] (some (.int r)) := by
  refine Ct.mk (by decide) rfl (Nat.le_of_ble_eq_true rfl) ?_
  intro p e s m args below meth c A ls hx hb hr hml hts hown hlocks hA hE hP hD hS hl hAe
  obtain ⟨Qx, hQ⟩ : ∃ Qx : State → Prop, Qx = MQ below (QcG g (wM g m0 m1 m2 m3 m4 m5 m6 m7 m8 m9 m10 m11 m12 now kept aside ik found carried T S) (wM g m0 m1 m2 m3 m4 m5 m6 m7 m8 m9 m10 m11 m12 (now') kept aside ik found carried T S) (some (.int r)) s.heap.size) args s 0 0 A := ⟨_, rfl⟩
  rw [← hQ]
  have hown : s.vm.findClass RX7 = some m.cls := hown
  have hl : lv_has ls 5 [(0, .ref m0), (1, .int a1), (2, .int a2), (3, .int a3)] := hl
  have w1 := hts (.fieldLink RX7 9 "RainVaultModel" "now" "[I") (List.mem_of_getElem? (i := 1) rfl)
  unfold fX7_put at hf
  refine lv_aload_n hx hb dX7_put_0 rfl (lv_at hl 0 rfl) ?_
  refine va_get (D := g.1) (ci := 7) (v := .ref m1) (C := RX7) (T := TX7) (N := 22) hx hb hts i_X7_put_X7 hown hE.1 hP 0 rfl rfl 0 (by decide) w1 (fun _ h9 => h9) rfl dX7_put_1 ?_
  refine lv_iconst (v := (3 : Int32)) hx hb dX7_put_4 (by decide) ?_
  obtain ⟨x101, ex, hin, hf⟩ := rd_s hf
  refine st_iald (f := now) hx hb hE.1 hP 1 0 rfl rfl hin ex dX7_put_5 ?_
  refine lv_istore (lv' := [(4, .int x101), (0, .ref m0), (1, .int a1), (2, .int a2), (3, .int a3)]) hx hb dX7_put_6 hl (by decide) rfl (fun ls hl => ?_)
  refine lv_aload_n hx hb dX7_put_8 rfl (lv_at hl 1 rfl) ?_
  refine va_get (D := g.1) (ci := 7) (v := .ref m1) (C := RX7) (T := TX7) (N := 22) hx hb hts i_X7_put_X7 hown hE.1 hP 0 rfl rfl 0 (by decide) w1 (fun _ h9 => h9) rfl dX7_put_9 ?_
  refine lv_bipush (v := (96 : Int32)) hx hb dX7_put_12 (by decide) ?_
  refine lv_iconst (v := (3 : Int32)) hx hb dX7_put_14 (by decide) ?_
  refine lv_iload hx hb dX7_put_15 (lv_at hl 0 rfl) ?_
  refine lv_imul hx hb dX7_put_17 ?_
  refine lv_iadd hx hb dX7_put_18 ?_
  refine lv_iconst (v := (0 : Int32)) hx hb dX7_put_19 (by decide) ?_
  refine lv_iadd hx hb dX7_put_20 ?_
  refine lv_iload_n hx hb dX7_put_21 rfl (lv_at hl 2 rfl) ?_
  obtain ⟨f102, ef, hin, hf⟩ := wr_s hf
  refine st_iast (ws' := wM g m0 m1 m2 m3 m4 m5 m6 m7 m8 m9 m10 m11 m12 f102 kept aside ik found carried T S) (f := now) (f2 := f102) hx hb hE.1 hP hD hS 1 0 rfl rfl hin ef rfl dX7_put_22 (fun H locs hP hD hS => ?_)
  refine lv_aload_n hx hb dX7_put_23 rfl (lv_at hl 1 rfl) ?_
  refine va_get (D := g.1) (ci := 7) (v := .ref m1) (C := RX7) (T := TX7) (N := 22) hx hb hts i_X7_put_X7 hown hE.1 hP 0 rfl rfl 0 (by decide) w1 (fun _ h9 => h9) rfl dX7_put_24 ?_
  refine lv_bipush (v := (96 : Int32)) hx hb dX7_put_27 (by decide) ?_
  refine lv_iconst (v := (3 : Int32)) hx hb dX7_put_29 (by decide) ?_
  refine lv_iload hx hb dX7_put_30 (lv_at hl 0 rfl) ?_
  refine lv_imul hx hb dX7_put_32 ?_
  refine lv_iadd hx hb dX7_put_33 ?_
  refine lv_iconst (v := (1 : Int32)) hx hb dX7_put_34 (by decide) ?_
  refine lv_iadd hx hb dX7_put_35 ?_
  refine lv_iload_n hx hb dX7_put_36 rfl (lv_at hl 3 rfl) ?_
  obtain ⟨f103, ef, hin, hf⟩ := wr_s hf
  refine st_iast (ws' := wM g m0 m1 m2 m3 m4 m5 m6 m7 m8 m9 m10 m11 m12 f103 kept aside ik found carried T S) (f := f102) (f2 := f103) hx hb hE.1 hP hD hS 1 0 rfl rfl hin ef rfl dX7_put_37 (fun H locs hP hD hS => ?_)
  refine lv_aload_n hx hb dX7_put_38 rfl (lv_at hl 1 rfl) ?_
  refine va_get (D := g.1) (ci := 7) (v := .ref m1) (C := RX7) (T := TX7) (N := 22) hx hb hts i_X7_put_X7 hown hE.1 hP 0 rfl rfl 0 (by decide) w1 (fun _ h9 => h9) rfl dX7_put_39 ?_
  refine lv_bipush (v := (96 : Int32)) hx hb dX7_put_42 (by decide) ?_
  refine lv_iconst (v := (3 : Int32)) hx hb dX7_put_44 (by decide) ?_
  refine lv_iload hx hb dX7_put_45 (lv_at hl 0 rfl) ?_
  refine lv_imul hx hb dX7_put_47 ?_
  refine lv_iadd hx hb dX7_put_48 ?_
  refine lv_iconst (v := (2 : Int32)) hx hb dX7_put_49 (by decide) ?_
  refine lv_iadd hx hb dX7_put_50 ?_
  refine lv_iload_n hx hb dX7_put_51 rfl (lv_at hl 4 rfl) ?_
  obtain ⟨f104, ef, hin, hf⟩ := wr_s hf
  refine st_iast (ws' := wM g m0 m1 m2 m3 m4 m5 m6 m7 m8 m9 m10 m11 m12 f104 kept aside ik found carried T S) (f := f103) (f2 := f104) hx hb hE.1 hP hD hS 1 0 rfl rfl hin ef rfl dX7_put_52 (fun H locs hP hD hS => ?_)
  refine lv_aload_n hx hb dX7_put_53 rfl (lv_at hl 1 rfl) ?_
  refine va_get (D := g.1) (ci := 7) (v := .ref m1) (C := RX7) (T := TX7) (N := 22) hx hb hts i_X7_put_X7 hown hE.1 hP 0 rfl rfl 0 (by decide) w1 (fun _ h9 => h9) rfl dX7_put_54 ?_
  refine lv_iconst (v := (3 : Int32)) hx hb dX7_put_57 (by decide) ?_
  refine lv_dup2_11 hx hb dX7_put_58 rfl rfl ?_
  obtain ⟨x105, ex, hin, hf⟩ := rd_s hf
  refine st_iald (f := f104) hx hb hE.1 hP 1 0 rfl rfl hin ex dX7_put_59 ?_
  refine lv_iconst (v := (1 : Int32)) hx hb dX7_put_60 (by decide) ?_
  refine lv_iadd hx hb dX7_put_61 ?_
  obtain ⟨f106, ef, hin, hf⟩ := wr_s hf
  refine st_iast (ws' := wM g m0 m1 m2 m3 m4 m5 m6 m7 m8 m9 m10 m11 m12 f106 kept aside ik found carried T S) (f := f104) (f2 := f106) hx hb hE.1 hP hD hS 1 0 rfl rfl hin ef rfl dX7_put_62 (fun H locs hP hD hS => ?_)
  refine lv_iload hx hb dX7_put_63 (lv_at hl 0 rfl) ?_
  obtain ⟨rfl, rfl⟩ := some_p2 hf
  rw [hQ]; exact Ct.iret hx hb hr hlocks hAe hP hD hS dX7_put_65
def fX7_mostOfB (a1 : Int32) : Option (Int32) := if a1 = (4 : Int32) then (some (40 : Int32)) else (some (7 : Int32))
theorem q_X7_mostOfB : yX7_mostOfB.cls = RX7 ∧ yX7_mostOfB.cls ≠ "java/lang/invoke/MethodHandle" ∧ yX7_mostOfB.cls ≠ "java/lang/invoke/VarHandle" ∧ (parseMethodDescriptor yX7_mostOfB.desc).map (fun d => d.parameters.length) = some 1 := by decide +kernel
set_option maxHeartbeats 4000000 in
set_option maxRecDepth 100000 in
theorem c_X7_mostOfB (l : Launch) (g : gG) (a1 : Int32) {r : Int32} (hf : fX7_mostOfB a1 = some r) : Ct l yX7_mostOfB wsX7_mostOfB (rmm 0 0) g (wNil g  ) (wNil g  ) [.int a1] (some (.int r)) := by
  refine Ct.mk (by decide) rfl (Nat.le_of_ble_eq_true rfl) ?_
  intro p e s m args below meth c A ls hx hb hr hml hts hown hlocks hA hE hP hD hS hl hAe
  obtain ⟨Qx, hQ⟩ : ∃ Qx : State → Prop, Qx = MQ below (QcG g (wNil g  ) (wNil g  ) (some (.int r)) s.heap.size) args s 0 0 A := ⟨_, rfl⟩
  rw [← hQ]
  have hown : s.vm.findClass RX7 = some m.cls := hown
  have hl : lv_has ls 1 [(0, .int a1)] := hl
  unfold fX7_mostOfB at hf
  refine lv_iload_n hx hb dX7_mostOfB_0 rfl (lv_at hl 0 rfl) ?_
  refine lv_iconst (v := (4 : Int32)) hx hb dX7_mostOfB_1 (by decide) ?_
  refine lv_icmp_ne (tgt := 10) hx hb dX7_mostOfB_2 (by decide) (fun hc => ?_) (fun hc => ?_)
  · have hf := if_f hf hc
    refine lv_bipush (v := (7 : Int32)) hx hb dX7_mostOfB_10 (by decide) ?_
    obtain rfl := Option.some.inj hf
    rw [hQ]; exact Ct.iret hx hb hr hlocks hAe hP hD hS dX7_mostOfB_12
  · have hf := if_t hf hc
    refine lv_bipush (v := (40 : Int32)) hx hb dX7_mostOfB_5 (by decide) ?_
    refine lv_goto (tgt := 12) hx hb dX7_mostOfB_7 (by decide) ?_
    obtain rfl := Option.some.inj hf
    rw [hQ]; exact Ct.iret hx hb hr hlocks hAe hP hD hS dX7_mostOfB_12
def fX7_lock (now : Nat → Int32) (found : Nat → Int32) (a1 : Int32) (a2 : Int32) (a3 : Int32) : Option (Int32 × (Nat → Int32) × (Nat → Int32)) := o1 (fX7_within a1 (0 : Int32) (4 : Int32)) (fun x101 => if x101 = 0 then (o2 (fX7_finding found (-1000001 : Int32)) (fun x102 found103 => some (x102, now, found103))) else (o1 (fX7_within a2 (0 : Int32) (7 : Int32)) (fun x104 => if x104 = 0 then (o2 (fX7_finding found (-1000001 : Int32)) (fun x105 found106 => some (x105, now, found106))) else (o1 (fX7_mostOfB a1) (fun x107 => o1 (fX7_within a3 (0 : Int32) x107) (fun x108 => if x108 = 0 then (o2 (fX7_finding found (-1000001 : Int32)) (fun x114 found115 => some (x114, now, found115))) else (rd now 120 (3 : Int32) (fun x109 => if x109 = (8 : Int32) then (o2 (fX7_finding found (-1000002 : Int32)) (fun x112 found113 => some (x112, now, found113))) else (o2 (fX7_put now a1 a2 a3) (fun x110 now111 => some (x110, now111, found)))))))))))
theorem q_X7_lock : yX7_lock.cls = RX7 ∧ yX7_lock.cls ≠ "java/lang/invoke/MethodHandle" ∧ yX7_lock.cls ≠ "java/lang/invoke/VarHandle" ∧ (parseMethodDescriptor yX7_lock.desc).map (fun d => d.parameters.length) = some 3 := by decide +kernel
theorem i_X7_lock_X7 : ∀ w ∈ u_ws RX7 TX7 22, w ∈ wsX7_lock := fun _ h => List.mem_cons_of_mem _ (List.mem_append_right _ (h))
set_option maxHeartbeats 4000000 in
set_option maxRecDepth 100000 in
theorem c_X7_lock (l : Launch) (g : gG) (m0 m1 m2 m3 m4 m5 m6 m7 m8 m9 m10 m11 m12 : Nat) (now : Nat → Int32) (kept : Nat → Int32) (aside : Nat → Int32) (ik : Int32) (found : Nat → Int32) (carried : Nat → Int32) (T : Mt) (S : Ms) (a1 : Int32) (a2 : Int32) (a3 : Int32) {r : Int32} {now' : Nat → Int32} {found' : Nat → Int32} (hf : fX7_lock now found a1 a2 a3 = some (r, now', found')) : Ct l yX7_lock wsX7_lock (rmm 1 24) g (wM g m0 m1 m2 m3 m4 m5 m6 m7 m8 m9 m10 m11 m12 now kept aside ik found carried T S) (wM g m0 m1 m2 m3 m4 m5 m6 m7 m8 m9 m10 m11 m12 (now') kept aside ik (found') carried T S) [.ref m0, .int a1, .int a2, .int a3] (some (.int r)) := by
  refine Ct.mk (by decide) rfl (Nat.le_of_ble_eq_true rfl) ?_
  intro p e s m args below meth c A ls hx hb hr hml hts hown hlocks hA hE hP hD hS hl hAe
  obtain ⟨Qx, hQ⟩ : ∃ Qx : State → Prop, Qx = MQ below (QcG g (wM g m0 m1 m2 m3 m4 m5 m6 m7 m8 m9 m10 m11 m12 now kept aside ik found carried T S) (wM g m0 m1 m2 m3 m4 m5 m6 m7 m8 m9 m10 m11 m12 (now') kept aside ik (found') carried T S) (some (.int r)) s.heap.size) args s 0 0 A := ⟨_, rfl⟩
  rw [← hQ]
  have hown : s.vm.findClass RX7 = some m.cls := hown
  have hl : lv_has ls 4 [(0, .ref m0), (1, .int a1), (2, .int a2), (3, .int a3)] := hl
  have w1 := hts (.constant RX7 63 (-1000001)) (List.mem_of_getElem? (i := 1) rfl)
  have w2 := hts (.fieldLink RX7 9 "RainVaultModel" "now" "[I") (List.mem_of_getElem? (i := 2) rfl)
  have w3 := hts (.constant RX7 84 (-1000002)) (List.mem_of_getElem? (i := 3) rfl)
  unfold fX7_lock at hf
  refine lv_iload_n hx hb dX7_lock_0 rfl (lv_at hl 1 rfl) ?_
  refine lv_iconst (v := (0 : Int32)) hx hb dX7_lock_1 (by decide) ?_
  refine lv_iconst (v := (4 : Int32)) hx hb dX7_lock_2 (by decide) ?_
  obtain ⟨x101, hg, hf⟩ := o1_s hf
  refine Ct.callS (ws' := wM g m0 m1 m2 m3 m4 m5 m6 m7 m8 m9 m10 m11 m12 now kept aside ik found carried T S) (As := [.int a1, .int (0 : Int32), .int (4 : Int32)]) (rest := []) (st1 := [.int x101]) (c_X7_within l g a1 (0 : Int32) (4 : Int32) hg) (va_cwS 3 hts gX7_lock_X7_within rfl rfl rfl q_X7_within.2 ⟨Nat.le_of_ble_eq_true rfl, Nat.le_of_ble_eq_true rfl⟩) ⟨hx, hb, hml, hown, hts⟩ hE hP hD hS hA [] rfl rfl rfl rfl rfl hl.1 rfl rfl (Nat.le_of_ble_eq_true rfl) dX7_lock_3 (fun H locs hP hD hS => ?_)
  refine lv_if_eq (tgt := 31) hx hb dX7_lock_6 (by decide) (fun hc => ?_) (fun hc => ?_)
  · have hf := if_t hf hc
    refine lv_aload_n hx hb dX7_lock_31 rfl (lv_at hl 0 rfl) ?_
    refine lv_ldc hx hb hown w1 dX7_lock_32 ?_
    obtain ⟨x102, found103, hg, hf⟩ := o2_s hf
    refine Ct.callV0 (ws' := wM g m0 m1 m2 m3 m4 m5 m6 m7 m8 m9 m10 m11 m12 now kept aside ik found103 carried T S) (As := [.int (-1000001 : Int32)]) (rest := []) (st1 := [.int x102]) (c_X7_finding l g m0 m1 m2 m3 m4 m5 m6 m7 m8 m9 m10 m11 m12 now kept aside ik found carried T S (-1000001 : Int32) hg) (cwV 1 hts gX7_lock_X7_finding rfl rfl rfl q_X7_finding ⟨Nat.le_of_ble_eq_true rfl, Nat.le_of_ble_eq_true rfl⟩) ⟨hx, hb, hml, hown, hts⟩ hE hP hD hS hA 7 0 rfl rfl rfl rfl hl.1 rfl rfl (Nat.le_of_ble_eq_true rfl) dX7_lock_34 (fun H locs hP hD hS => ?_)
    obtain ⟨rfl, rfl, rfl⟩ := some_p3 hf
    rw [hQ]; exact Ct.iret hx hb hr hlocks hAe hP hD hS dX7_lock_37
  · have hf := if_f hf hc
    refine lv_iload_n hx hb dX7_lock_9 rfl (lv_at hl 2 rfl) ?_
    refine lv_iconst (v := (0 : Int32)) hx hb dX7_lock_10 (by decide) ?_
    refine lv_bipush (v := (7 : Int32)) hx hb dX7_lock_11 (by decide) ?_
    obtain ⟨x104, hg, hf⟩ := o1_s hf
    refine Ct.callS (ws' := wM g m0 m1 m2 m3 m4 m5 m6 m7 m8 m9 m10 m11 m12 now kept aside ik found carried T S) (As := [.int a2, .int (0 : Int32), .int (7 : Int32)]) (rest := []) (st1 := [.int x104]) (c_X7_within l g a2 (0 : Int32) (7 : Int32) hg) (va_cwS 3 hts gX7_lock_X7_within rfl rfl rfl q_X7_within.2 ⟨Nat.le_of_ble_eq_true rfl, Nat.le_of_ble_eq_true rfl⟩) ⟨hx, hb, hml, hown, hts⟩ hE hP hD hS hA [] rfl rfl rfl rfl rfl hl.1 rfl rfl (Nat.le_of_ble_eq_true rfl) dX7_lock_13 (fun H locs hP hD hS => ?_)
    refine lv_if_eq (tgt := 31) hx hb dX7_lock_16 (by decide) (fun hc => ?_) (fun hc => ?_)
    · have hf := if_t hf hc
      refine lv_aload_n hx hb dX7_lock_31 rfl (lv_at hl 0 rfl) ?_
      refine lv_ldc hx hb hown w1 dX7_lock_32 ?_
      obtain ⟨x105, found106, hg, hf⟩ := o2_s hf
      refine Ct.callV0 (ws' := wM g m0 m1 m2 m3 m4 m5 m6 m7 m8 m9 m10 m11 m12 now kept aside ik found106 carried T S) (As := [.int (-1000001 : Int32)]) (rest := []) (st1 := [.int x105]) (c_X7_finding l g m0 m1 m2 m3 m4 m5 m6 m7 m8 m9 m10 m11 m12 now kept aside ik found carried T S (-1000001 : Int32) hg) (cwV 1 hts gX7_lock_X7_finding rfl rfl rfl q_X7_finding ⟨Nat.le_of_ble_eq_true rfl, Nat.le_of_ble_eq_true rfl⟩) ⟨hx, hb, hml, hown, hts⟩ hE hP hD hS hA 7 0 rfl rfl rfl rfl hl.1 rfl rfl (Nat.le_of_ble_eq_true rfl) dX7_lock_34 (fun H locs hP hD hS => ?_)
      obtain ⟨rfl, rfl, rfl⟩ := some_p3 hf
      rw [hQ]; exact Ct.iret hx hb hr hlocks hAe hP hD hS dX7_lock_37
    · have hf := if_f hf hc
      refine lv_iload_n hx hb dX7_lock_19 rfl (lv_at hl 3 rfl) ?_
      refine lv_iconst (v := (0 : Int32)) hx hb dX7_lock_20 (by decide) ?_
      refine lv_iload_n hx hb dX7_lock_21 rfl (lv_at hl 1 rfl) ?_
      obtain ⟨x107, hg, hf⟩ := o1_s hf
      refine Ct.callS (ws' := wM g m0 m1 m2 m3 m4 m5 m6 m7 m8 m9 m10 m11 m12 now kept aside ik found carried T S) (As := [.int a1]) (rest := [.int (0 : Int32), .int a3]) (st1 := [.int x107, .int (0 : Int32), .int a3]) (c_X7_mostOfB l g a1 hg) (va_cwS 1 hts gX7_lock_X7_mostOfB rfl rfl rfl q_X7_mostOfB.2 ⟨Nat.le_of_ble_eq_true rfl, Nat.le_of_ble_eq_true rfl⟩) ⟨hx, hb, hml, hown, hts⟩ hE hP hD hS hA [] rfl rfl rfl rfl rfl hl.1 rfl rfl (Nat.le_of_ble_eq_true rfl) dX7_lock_22 (fun H locs hP hD hS => ?_)
      obtain ⟨x108, hg, hf⟩ := o1_s hf
      refine Ct.callS (ws' := wM g m0 m1 m2 m3 m4 m5 m6 m7 m8 m9 m10 m11 m12 now kept aside ik found carried T S) (As := [.int a3, .int (0 : Int32), .int x107]) (rest := []) (st1 := [.int x108]) (c_X7_within l g a3 (0 : Int32) x107 hg) (va_cwS 3 hts gX7_lock_X7_within rfl rfl rfl q_X7_within.2 ⟨Nat.le_of_ble_eq_true rfl, Nat.le_of_ble_eq_true rfl⟩) ⟨hx, hb, hml, hown, hts⟩ hE hP hD hS hA [] rfl rfl rfl rfl rfl hl.1 rfl rfl (Nat.le_of_ble_eq_true rfl) dX7_lock_25 (fun H locs hP hD hS => ?_)
      refine lv_if_ne (tgt := 38) hx hb dX7_lock_28 (by decide) (fun hc => ?_) (fun hc => ?_)
      · have hf := if_f hf hc
        refine lv_aload_n hx hb dX7_lock_38 rfl (lv_at hl 0 rfl) ?_
        refine va_get (D := g.1) (ci := 7) (v := .ref m1) (C := RX7) (T := TX7) (N := 22) hx hb hts i_X7_lock_X7 hown hE.1 hP 0 rfl rfl 0 (by decide) w2 (fun _ h9 => h9) rfl dX7_lock_39 ?_
        refine lv_iconst (v := (3 : Int32)) hx hb dX7_lock_42 (by decide) ?_
        obtain ⟨x109, ex, hin, hf⟩ := rd_s hf
        refine st_iald (f := now) hx hb hE.1 hP 1 0 rfl rfl hin ex dX7_lock_43 ?_
        refine lv_bipush (v := (8 : Int32)) hx hb dX7_lock_44 (by decide) ?_
        refine lv_icmp_ne (tgt := 58) hx hb dX7_lock_46 (by decide) (fun hc => ?_) (fun hc => ?_)
        · have hf := if_f hf hc
          refine lv_aload_n hx hb dX7_lock_58 rfl (lv_at hl 0 rfl) ?_
          refine lv_iload_n hx hb dX7_lock_59 rfl (lv_at hl 1 rfl) ?_
          refine lv_iload_n hx hb dX7_lock_60 rfl (lv_at hl 2 rfl) ?_
          refine lv_iload_n hx hb dX7_lock_61 rfl (lv_at hl 3 rfl) ?_
          obtain ⟨x110, now111, hg, hf⟩ := o2_s hf
          refine Ct.callV0 (ws' := wM g m0 m1 m2 m3 m4 m5 m6 m7 m8 m9 m10 m11 m12 now111 kept aside ik found carried T S) (As := [.int a1, .int a2, .int a3]) (rest := []) (st1 := [.int x110]) (c_X7_put l g m0 m1 m2 m3 m4 m5 m6 m7 m8 m9 m10 m11 m12 now kept aside ik found carried T S a1 a2 a3 hg) (cwV 3 hts gX7_lock_X7_put rfl rfl rfl q_X7_put ⟨Nat.le_of_ble_eq_true rfl, Nat.le_of_ble_eq_true rfl⟩) ⟨hx, hb, hml, hown, hts⟩ hE hP hD hS hA 7 0 rfl rfl rfl rfl hl.1 rfl rfl (Nat.le_of_ble_eq_true rfl) dX7_lock_62 (fun H locs hP hD hS => ?_)
          obtain ⟨rfl, rfl, rfl⟩ := some_p3 hf
          rw [hQ]; exact Ct.iret hx hb hr hlocks hAe hP hD hS dX7_lock_65
        · have hf := if_t hf hc
          refine lv_aload_n hx hb dX7_lock_49 rfl (lv_at hl 0 rfl) ?_
          refine lv_ldc hx hb hown w3 dX7_lock_50 ?_
          obtain ⟨x112, found113, hg, hf⟩ := o2_s hf
          refine Ct.callV0 (ws' := wM g m0 m1 m2 m3 m4 m5 m6 m7 m8 m9 m10 m11 m12 now kept aside ik found113 carried T S) (As := [.int (-1000002 : Int32)]) (rest := []) (st1 := [.int x112]) (c_X7_finding l g m0 m1 m2 m3 m4 m5 m6 m7 m8 m9 m10 m11 m12 now kept aside ik found carried T S (-1000002 : Int32) hg) (cwV 1 hts gX7_lock_X7_finding rfl rfl rfl q_X7_finding ⟨Nat.le_of_ble_eq_true rfl, Nat.le_of_ble_eq_true rfl⟩) ⟨hx, hb, hml, hown, hts⟩ hE hP hD hS hA 7 0 rfl rfl rfl rfl hl.1 rfl rfl (Nat.le_of_ble_eq_true rfl) dX7_lock_52 (fun H locs hP hD hS => ?_)
          refine lv_goto (tgt := 65) hx hb dX7_lock_55 (by decide) ?_
          obtain ⟨rfl, rfl, rfl⟩ := some_p3 hf
          rw [hQ]; exact Ct.iret hx hb hr hlocks hAe hP hD hS dX7_lock_65
      · have hf := if_t hf hc
        refine lv_aload_n hx hb dX7_lock_31 rfl (lv_at hl 0 rfl) ?_
        refine lv_ldc hx hb hown w1 dX7_lock_32 ?_
        obtain ⟨x114, found115, hg, hf⟩ := o2_s hf
        refine Ct.callV0 (ws' := wM g m0 m1 m2 m3 m4 m5 m6 m7 m8 m9 m10 m11 m12 now kept aside ik found115 carried T S) (As := [.int (-1000001 : Int32)]) (rest := []) (st1 := [.int x114]) (c_X7_finding l g m0 m1 m2 m3 m4 m5 m6 m7 m8 m9 m10 m11 m12 now kept aside ik found carried T S (-1000001 : Int32) hg) (cwV 1 hts gX7_lock_X7_finding rfl rfl rfl q_X7_finding ⟨Nat.le_of_ble_eq_true rfl, Nat.le_of_ble_eq_true rfl⟩) ⟨hx, hb, hml, hown, hts⟩ hE hP hD hS hA 7 0 rfl rfl rfl rfl hl.1 rfl rfl (Nat.le_of_ble_eq_true rfl) dX7_lock_34 (fun H locs hP hD hS => ?_)
        obtain ⟨rfl, rfl, rfl⟩ := some_p3 hf
        rw [hQ]; exact Ct.iret hx hb hr hlocks hAe hP hD hS dX7_lock_37
def fX7_holds_J46 (now : Nat → Int32) (x2 : Int32) (x3 : Int32) (x4 : Int32) : Option (Int32) := if x2 = (0 : Int32) then (o1 (fX7_shows now x3) (fun x105 => o1 (fX7_shows now x4) (fun x106 => if x105 ≤ x106 then (some (0 : Int32)) else (some (1 : Int32))))) else (if x2 = (1 : Int32) then (o1 (fX7_shows now x3) (fun x107 => o1 (fX7_shows now x4) (fun x108 => if x107 = x108 then (some (1 : Int32)) else (some (0 : Int32))))) else (if x2 = (2 : Int32) then (o1 (fX7_shows now x3) (fun x109 => if x109 = 0 then (some (1 : Int32)) else (some (0 : Int32)))) else (if x2 = (3 : Int32) then (o1 (fX7_shows now x3) (fun x110 => o1 (fX7_cisternIs now x3 (1 : Int32)) (fun x111 => if x110 = x111 then (some (1 : Int32)) else (some (0 : Int32))))) else (o1 (fX7_shows now x3) (fun x112 => if x4 ≤ x112 then (some (0 : Int32)) else (some (1 : Int32)))))))
def fX7_holds (now : Nat → Int32) (a1 : Int32) : Option (Int32) := o1 (fX7_lockIs now a1 (0 : Int32)) (fun x101 => o1 (fX7_lockIs now a1 (1 : Int32)) (fun x102 => o1 (fX7_lockIs now a1 (2 : Int32)) (fun x103 => o1 (fX7_isCistern now x102) (fun x104 => if x104 = 0 then (some (0 : Int32)) else (if (1 : Int32) < x101 then (fX7_holds_J46 now x101 x102 x103) else (o1 (fX7_isCistern now x103) (fun x113 => if x113 = 0 then (some (0 : Int32)) else (fX7_holds_J46 now x101 x102 x103))))))))
theorem q_X7_holds : yX7_holds.cls = RX7 ∧ yX7_holds.cls ≠ "java/lang/invoke/MethodHandle" ∧ yX7_holds.cls ≠ "java/lang/invoke/VarHandle" ∧ (parseMethodDescriptor yX7_holds.desc).map (fun d => d.parameters.length) = some 1 := by decide +kernel
set_option maxHeartbeats 4000000 in
set_option maxRecDepth 100000 in
theorem c_X7_holds (l : Launch) (g : gG) (m0 m1 m2 m3 m4 m5 m6 m7 m8 m9 m10 m11 m12 : Nat) (now : Nat → Int32) (kept : Nat → Int32) (aside : Nat → Int32) (ik : Int32) (found : Nat → Int32) (carried : Nat → Int32) (T : Mt) (S : Ms) (a1 : Int32) {r : Int32} (hf : fX7_holds now a1 = some r) : Ct l yX7_holds wsX7_holds (rmm 3 66) g (wM g m0 m1 m2 m3 m4 m5 m6 m7 m8 m9 m10 m11 m12 now kept aside ik found carried T S) (wM g m0 m1 m2 m3 m4 m5 m6 m7 m8 m9 m10 m11 m12 now kept aside ik found carried T S) [.ref m0, .int a1] (some (.int r)) := by
  refine Ct.mk (by decide) rfl (Nat.le_of_ble_eq_true rfl) ?_
  intro p e s m args below meth c A ls hx hb hr hml hts hown hlocks hA hE hP hD hS hl hAe
  obtain ⟨Qx, hQ⟩ : ∃ Qx : State → Prop, Qx = MQ below (QcG g (wM g m0 m1 m2 m3 m4 m5 m6 m7 m8 m9 m10 m11 m12 now kept aside ik found carried T S) (wM g m0 m1 m2 m3 m4 m5 m6 m7 m8 m9 m10 m11 m12 now kept aside ik found carried T S) (some (.int r)) s.heap.size) args s 0 0 A := ⟨_, rfl⟩
  rw [← hQ]
  have hown : s.vm.findClass RX7 = some m.cls := hown
  have hl : lv_has ls 5 [(0, .ref m0), (1, .int a1)] := hl
  have J46 : ∀ (x2 : Int32) (x3 : Int32) (x4 : Int32) (H : Heap) (locs : List Loc) (ls : Array Slot), fX7_holds_J46 now x2 x3 x4 = some r → va_P g.1 vwK (wM g m0 m1 m2 m3 m4 m5 m6 m7 m8 m9 m10 m11 m12 now kept aside ik found carried T S) H → va_D A (wM g m0 m1 m2 m3 m4 m5 m6 m7 m8 m9 m10 m11 m12 now kept aside ik found carried T S) → va_S A s.heap H locs → lv_has ls 5 [(0, .ref m0), (2, .int x2), (3, .int x3), (4, .int x4)] → W p l e (rmm 3 66) s m args below meth c H locs 0 0 Qx (F0 m 46 ls []) := by
    intro x2 x3 x4 H locs ls hf hP hD hS hl
    unfold fX7_holds_J46 at hf
    refine lv_iload_n hx hb dX7_holds_46 rfl (lv_at hl 1 rfl) ?_
    by_cases hc0 : x2 = (0 : Int32)
    · have hf := if_t hf hc0
      refine lv_tableIn (off := 29) (tgt := 76) hx hb dX7_holds_47 (ts_in _ hc0 (by decide)) (ts_hi _ hc0 (by decide)) (ts_of _ hc0 (by decide)) (by decide) ?_
      refine lv_aload_n hx hb dX7_holds_76 rfl (lv_at hl 0 rfl) ?_
      refine lv_iload_n hx hb dX7_holds_77 rfl (lv_at hl 2 rfl) ?_
      obtain ⟨x105, hg, hf⟩ := o1_s hf
      refine Ct.callV0 (ws' := wM g m0 m1 m2 m3 m4 m5 m6 m7 m8 m9 m10 m11 m12 now kept aside ik found carried T S) (As := [.int x3]) (rest := []) (st1 := [.int x105]) (c_X7_shows l g m0 m1 m2 m3 m4 m5 m6 m7 m8 m9 m10 m11 m12 now kept aside ik found carried T S x3 hg) (cwV 1 hts gX7_holds_X7_shows rfl rfl rfl q_X7_shows ⟨Nat.le_of_ble_eq_true rfl, Nat.le_of_ble_eq_true rfl⟩) ⟨hx, hb, hml, hown, hts⟩ hE hP hD hS hA 7 0 rfl rfl rfl rfl hl.1 rfl rfl (Nat.le_of_ble_eq_true rfl) dX7_holds_78 (fun H locs hP hD hS => ?_)
      refine lv_aload_n hx hb dX7_holds_81 rfl (lv_at hl 0 rfl) ?_
      refine lv_iload hx hb dX7_holds_82 (lv_at hl 3 rfl) ?_
      obtain ⟨x106, hg, hf⟩ := o1_s hf
      refine Ct.callV0 (ws' := wM g m0 m1 m2 m3 m4 m5 m6 m7 m8 m9 m10 m11 m12 now kept aside ik found carried T S) (As := [.int x4]) (rest := [.int x105]) (st1 := [.int x106, .int x105]) (c_X7_shows l g m0 m1 m2 m3 m4 m5 m6 m7 m8 m9 m10 m11 m12 now kept aside ik found carried T S x4 hg) (cwV 1 hts gX7_holds_X7_shows rfl rfl rfl q_X7_shows ⟨Nat.le_of_ble_eq_true rfl, Nat.le_of_ble_eq_true rfl⟩) ⟨hx, hb, hml, hown, hts⟩ hE hP hD hS hA 7 0 rfl rfl rfl rfl hl.1 rfl rfl (Nat.le_of_ble_eq_true rfl) dX7_holds_84 (fun H locs hP hD hS => ?_)
      refine lv_icmp_le (tgt := 94) hx hb dX7_holds_87 (by decide) (fun hc => ?_) (fun hc => ?_)
      · have hf := if_t hf hc
        refine lv_iconst (v := (0 : Int32)) hx hb dX7_holds_94 (by decide) ?_
        obtain rfl := Option.some.inj hf
        rw [hQ]; exact Ct.zret hx hb hr (by decide) hlocks hAe hP hD hS dX7_holds_95
      · have hf := if_f hf hc
        refine lv_iconst (v := (1 : Int32)) hx hb dX7_holds_90 (by decide) ?_
        refine lv_goto (tgt := 95) hx hb dX7_holds_91 (by decide) ?_
        obtain rfl := Option.some.inj hf
        rw [hQ]; exact Ct.zret hx hb hr (by decide) hlocks hAe hP hD hS dX7_holds_95
    · have hf := if_f hf hc0
      by_cases hc1 : x2 = (1 : Int32)
      · have hf := if_t hf hc1
        refine lv_tableIn (off := 49) (tgt := 96) hx hb dX7_holds_47 (ts_in _ hc1 (by decide)) (ts_hi _ hc1 (by decide)) (ts_of _ hc1 (by decide)) (by decide) ?_
        refine lv_aload_n hx hb dX7_holds_96 rfl (lv_at hl 0 rfl) ?_
        refine lv_iload_n hx hb dX7_holds_97 rfl (lv_at hl 2 rfl) ?_
        obtain ⟨x107, hg, hf⟩ := o1_s hf
        refine Ct.callV0 (ws' := wM g m0 m1 m2 m3 m4 m5 m6 m7 m8 m9 m10 m11 m12 now kept aside ik found carried T S) (As := [.int x3]) (rest := []) (st1 := [.int x107]) (c_X7_shows l g m0 m1 m2 m3 m4 m5 m6 m7 m8 m9 m10 m11 m12 now kept aside ik found carried T S x3 hg) (cwV 1 hts gX7_holds_X7_shows rfl rfl rfl q_X7_shows ⟨Nat.le_of_ble_eq_true rfl, Nat.le_of_ble_eq_true rfl⟩) ⟨hx, hb, hml, hown, hts⟩ hE hP hD hS hA 7 0 rfl rfl rfl rfl hl.1 rfl rfl (Nat.le_of_ble_eq_true rfl) dX7_holds_98 (fun H locs hP hD hS => ?_)
        refine lv_aload_n hx hb dX7_holds_101 rfl (lv_at hl 0 rfl) ?_
        refine lv_iload hx hb dX7_holds_102 (lv_at hl 3 rfl) ?_
        obtain ⟨x108, hg, hf⟩ := o1_s hf
        refine Ct.callV0 (ws' := wM g m0 m1 m2 m3 m4 m5 m6 m7 m8 m9 m10 m11 m12 now kept aside ik found carried T S) (As := [.int x4]) (rest := [.int x107]) (st1 := [.int x108, .int x107]) (c_X7_shows l g m0 m1 m2 m3 m4 m5 m6 m7 m8 m9 m10 m11 m12 now kept aside ik found carried T S x4 hg) (cwV 1 hts gX7_holds_X7_shows rfl rfl rfl q_X7_shows ⟨Nat.le_of_ble_eq_true rfl, Nat.le_of_ble_eq_true rfl⟩) ⟨hx, hb, hml, hown, hts⟩ hE hP hD hS hA 7 0 rfl rfl rfl rfl hl.1 rfl rfl (Nat.le_of_ble_eq_true rfl) dX7_holds_104 (fun H locs hP hD hS => ?_)
        refine lv_icmp_ne (tgt := 114) hx hb dX7_holds_107 (by decide) (fun hc => ?_) (fun hc => ?_)
        · have hf := if_f hf hc
          refine lv_iconst (v := (0 : Int32)) hx hb dX7_holds_114 (by decide) ?_
          obtain rfl := Option.some.inj hf
          rw [hQ]; exact Ct.zret hx hb hr (by decide) hlocks hAe hP hD hS dX7_holds_115
        · have hf := if_t hf hc
          refine lv_iconst (v := (1 : Int32)) hx hb dX7_holds_110 (by decide) ?_
          refine lv_goto (tgt := 115) hx hb dX7_holds_111 (by decide) ?_
          obtain rfl := Option.some.inj hf
          rw [hQ]; exact Ct.zret hx hb hr (by decide) hlocks hAe hP hD hS dX7_holds_115
      · have hf := if_f hf hc1
        by_cases hc2 : x2 = (2 : Int32)
        · have hf := if_t hf hc2
          refine lv_tableIn (off := 69) (tgt := 116) hx hb dX7_holds_47 (ts_in _ hc2 (by decide)) (ts_hi _ hc2 (by decide)) (ts_of _ hc2 (by decide)) (by decide) ?_
          refine lv_aload_n hx hb dX7_holds_116 rfl (lv_at hl 0 rfl) ?_
          refine lv_iload_n hx hb dX7_holds_117 rfl (lv_at hl 2 rfl) ?_
          obtain ⟨x109, hg, hf⟩ := o1_s hf
          refine Ct.callV0 (ws' := wM g m0 m1 m2 m3 m4 m5 m6 m7 m8 m9 m10 m11 m12 now kept aside ik found carried T S) (As := [.int x3]) (rest := []) (st1 := [.int x109]) (c_X7_shows l g m0 m1 m2 m3 m4 m5 m6 m7 m8 m9 m10 m11 m12 now kept aside ik found carried T S x3 hg) (cwV 1 hts gX7_holds_X7_shows rfl rfl rfl q_X7_shows ⟨Nat.le_of_ble_eq_true rfl, Nat.le_of_ble_eq_true rfl⟩) ⟨hx, hb, hml, hown, hts⟩ hE hP hD hS hA 7 0 rfl rfl rfl rfl hl.1 rfl rfl (Nat.le_of_ble_eq_true rfl) dX7_holds_118 (fun H locs hP hD hS => ?_)
          refine lv_if_ne (tgt := 128) hx hb dX7_holds_121 (by decide) (fun hc => ?_) (fun hc => ?_)
          · have hf := if_f hf hc
            refine lv_iconst (v := (0 : Int32)) hx hb dX7_holds_128 (by decide) ?_
            obtain rfl := Option.some.inj hf
            rw [hQ]; exact Ct.zret hx hb hr (by decide) hlocks hAe hP hD hS dX7_holds_129
          · have hf := if_t hf hc
            refine lv_iconst (v := (1 : Int32)) hx hb dX7_holds_124 (by decide) ?_
            refine lv_goto (tgt := 129) hx hb dX7_holds_125 (by decide) ?_
            obtain rfl := Option.some.inj hf
            rw [hQ]; exact Ct.zret hx hb hr (by decide) hlocks hAe hP hD hS dX7_holds_129
        · have hf := if_f hf hc2
          by_cases hc3 : x2 = (3 : Int32)
          · have hf := if_t hf hc3
            refine lv_tableIn (off := 83) (tgt := 130) hx hb dX7_holds_47 (ts_in _ hc3 (by decide)) (ts_hi _ hc3 (by decide)) (ts_of _ hc3 (by decide)) (by decide) ?_
            refine lv_aload_n hx hb dX7_holds_130 rfl (lv_at hl 0 rfl) ?_
            refine lv_iload_n hx hb dX7_holds_131 rfl (lv_at hl 2 rfl) ?_
            obtain ⟨x110, hg, hf⟩ := o1_s hf
            refine Ct.callV0 (ws' := wM g m0 m1 m2 m3 m4 m5 m6 m7 m8 m9 m10 m11 m12 now kept aside ik found carried T S) (As := [.int x3]) (rest := []) (st1 := [.int x110]) (c_X7_shows l g m0 m1 m2 m3 m4 m5 m6 m7 m8 m9 m10 m11 m12 now kept aside ik found carried T S x3 hg) (cwV 1 hts gX7_holds_X7_shows rfl rfl rfl q_X7_shows ⟨Nat.le_of_ble_eq_true rfl, Nat.le_of_ble_eq_true rfl⟩) ⟨hx, hb, hml, hown, hts⟩ hE hP hD hS hA 7 0 rfl rfl rfl rfl hl.1 rfl rfl (Nat.le_of_ble_eq_true rfl) dX7_holds_132 (fun H locs hP hD hS => ?_)
            refine lv_aload_n hx hb dX7_holds_135 rfl (lv_at hl 0 rfl) ?_
            refine lv_iload_n hx hb dX7_holds_136 rfl (lv_at hl 2 rfl) ?_
            refine lv_iconst (v := (1 : Int32)) hx hb dX7_holds_137 (by decide) ?_
            obtain ⟨x111, hg, hf⟩ := o1_s hf
            refine Ct.callV0 (ws' := wM g m0 m1 m2 m3 m4 m5 m6 m7 m8 m9 m10 m11 m12 now kept aside ik found carried T S) (As := [.int x3, .int (1 : Int32)]) (rest := [.int x110]) (st1 := [.int x111, .int x110]) (c_X7_cisternIs l g m0 m1 m2 m3 m4 m5 m6 m7 m8 m9 m10 m11 m12 now kept aside ik found carried T S x3 (1 : Int32) hg) (cwV 2 hts gX7_holds_X7_cisternIs rfl rfl rfl q_X7_cisternIs ⟨Nat.le_of_ble_eq_true rfl, Nat.le_of_ble_eq_true rfl⟩) ⟨hx, hb, hml, hown, hts⟩ hE hP hD hS hA 7 0 rfl rfl rfl rfl hl.1 rfl rfl (Nat.le_of_ble_eq_true rfl) dX7_holds_138 (fun H locs hP hD hS => ?_)
            refine lv_icmp_ne (tgt := 148) hx hb dX7_holds_141 (by decide) (fun hc => ?_) (fun hc => ?_)
            · have hf := if_f hf hc
              refine lv_iconst (v := (0 : Int32)) hx hb dX7_holds_148 (by decide) ?_
              obtain rfl := Option.some.inj hf
              rw [hQ]; exact Ct.zret hx hb hr (by decide) hlocks hAe hP hD hS dX7_holds_149
            · have hf := if_t hf hc
              refine lv_iconst (v := (1 : Int32)) hx hb dX7_holds_144 (by decide) ?_
              refine lv_goto (tgt := 149) hx hb dX7_holds_145 (by decide) ?_
              obtain rfl := Option.some.inj hf
              rw [hQ]; exact Ct.zret hx hb hr (by decide) hlocks hAe hP hD hS dX7_holds_149
          · have hf := if_f hf hc3
            have hn0 := lv_neT (a := 0) hc0 (by decide)
            have hn1 := lv_neT (a := 1) hc1 (by decide)
            have hn2 := lv_neT (a := 2) hc2 (by decide)
            have hn3 := lv_neT (a := 3) hc3 (by decide)
            refine lv_tableOut (tgt := 150) hx hb dX7_holds_47 (by omega) (by decide) ?_
            refine lv_aload_n hx hb dX7_holds_150 rfl (lv_at hl 0 rfl) ?_
            refine lv_iload_n hx hb dX7_holds_151 rfl (lv_at hl 2 rfl) ?_
            obtain ⟨x112, hg, hf⟩ := o1_s hf
            refine Ct.callV0 (ws' := wM g m0 m1 m2 m3 m4 m5 m6 m7 m8 m9 m10 m11 m12 now kept aside ik found carried T S) (As := [.int x3]) (rest := []) (st1 := [.int x112]) (c_X7_shows l g m0 m1 m2 m3 m4 m5 m6 m7 m8 m9 m10 m11 m12 now kept aside ik found carried T S x3 hg) (cwV 1 hts gX7_holds_X7_shows rfl rfl rfl q_X7_shows ⟨Nat.le_of_ble_eq_true rfl, Nat.le_of_ble_eq_true rfl⟩) ⟨hx, hb, hml, hown, hts⟩ hE hP hD hS hA 7 0 rfl rfl rfl rfl hl.1 rfl rfl (Nat.le_of_ble_eq_true rfl) dX7_holds_152 (fun H locs hP hD hS => ?_)
            refine lv_iload hx hb dX7_holds_155 (lv_at hl 3 rfl) ?_
            refine lv_icmp_ge (tgt := 164) hx hb dX7_holds_157 (by decide) (fun hc => ?_) (fun hc => ?_)
            · have hf := if_t hf hc
              refine lv_iconst (v := (0 : Int32)) hx hb dX7_holds_164 (by decide) ?_
              obtain rfl := Option.some.inj hf
              rw [hQ]; exact Ct.zret hx hb hr (by decide) hlocks hAe hP hD hS dX7_holds_165
            · have hf := if_f hf hc
              refine lv_iconst (v := (1 : Int32)) hx hb dX7_holds_160 (by decide) ?_
              refine lv_goto (tgt := 165) hx hb dX7_holds_161 (by decide) ?_
              obtain rfl := Option.some.inj hf
              rw [hQ]; exact Ct.zret hx hb hr (by decide) hlocks hAe hP hD hS dX7_holds_165
  unfold fX7_holds at hf
  refine lv_aload_n hx hb dX7_holds_0 rfl (lv_at hl 0 rfl) ?_
  refine lv_iload_n hx hb dX7_holds_1 rfl (lv_at hl 1 rfl) ?_
  refine lv_iconst (v := (0 : Int32)) hx hb dX7_holds_2 (by decide) ?_
  obtain ⟨x101, hg, hf⟩ := o1_s hf
  refine Ct.callV0 (ws' := wM g m0 m1 m2 m3 m4 m5 m6 m7 m8 m9 m10 m11 m12 now kept aside ik found carried T S) (As := [.int a1, .int (0 : Int32)]) (rest := []) (st1 := [.int x101]) (c_X7_lockIs l g m0 m1 m2 m3 m4 m5 m6 m7 m8 m9 m10 m11 m12 now kept aside ik found carried T S a1 (0 : Int32) hg) (cwV 2 hts gX7_holds_X7_lockIs rfl rfl rfl q_X7_lockIs ⟨Nat.le_of_ble_eq_true rfl, Nat.le_of_ble_eq_true rfl⟩) ⟨hx, hb, hml, hown, hts⟩ hE hP hD hS hA 7 0 rfl rfl rfl rfl hl.1 rfl rfl (Nat.le_of_ble_eq_true rfl) dX7_holds_3 (fun H locs hP hD hS => ?_)
  refine lv_istore_n (lv' := [(2, .int x101), (0, .ref m0), (1, .int a1)]) hx hb dX7_holds_6 rfl hl (by decide) rfl (fun ls hl => ?_)
  refine lv_aload_n hx hb dX7_holds_7 rfl (lv_at hl 1 rfl) ?_
  refine lv_iload_n hx hb dX7_holds_8 rfl (lv_at hl 2 rfl) ?_
  refine lv_iconst (v := (1 : Int32)) hx hb dX7_holds_9 (by decide) ?_
  obtain ⟨x102, hg, hf⟩ := o1_s hf
  refine Ct.callV0 (ws' := wM g m0 m1 m2 m3 m4 m5 m6 m7 m8 m9 m10 m11 m12 now kept aside ik found carried T S) (As := [.int a1, .int (1 : Int32)]) (rest := []) (st1 := [.int x102]) (c_X7_lockIs l g m0 m1 m2 m3 m4 m5 m6 m7 m8 m9 m10 m11 m12 now kept aside ik found carried T S a1 (1 : Int32) hg) (cwV 2 hts gX7_holds_X7_lockIs rfl rfl rfl q_X7_lockIs ⟨Nat.le_of_ble_eq_true rfl, Nat.le_of_ble_eq_true rfl⟩) ⟨hx, hb, hml, hown, hts⟩ hE hP hD hS hA 7 0 rfl rfl rfl rfl hl.1 rfl rfl (Nat.le_of_ble_eq_true rfl) dX7_holds_10 (fun H locs hP hD hS => ?_)
  refine lv_istore_n (lv' := [(3, .int x102), (2, .int x101), (0, .ref m0), (1, .int a1)]) hx hb dX7_holds_13 rfl hl (by decide) rfl (fun ls hl => ?_)
  refine lv_aload_n hx hb dX7_holds_14 rfl (lv_at hl 2 rfl) ?_
  refine lv_iload_n hx hb dX7_holds_15 rfl (lv_at hl 3 rfl) ?_
  refine lv_iconst (v := (2 : Int32)) hx hb dX7_holds_16 (by decide) ?_
  obtain ⟨x103, hg, hf⟩ := o1_s hf
  refine Ct.callV0 (ws' := wM g m0 m1 m2 m3 m4 m5 m6 m7 m8 m9 m10 m11 m12 now kept aside ik found carried T S) (As := [.int a1, .int (2 : Int32)]) (rest := []) (st1 := [.int x103]) (c_X7_lockIs l g m0 m1 m2 m3 m4 m5 m6 m7 m8 m9 m10 m11 m12 now kept aside ik found carried T S a1 (2 : Int32) hg) (cwV 2 hts gX7_holds_X7_lockIs rfl rfl rfl q_X7_lockIs ⟨Nat.le_of_ble_eq_true rfl, Nat.le_of_ble_eq_true rfl⟩) ⟨hx, hb, hml, hown, hts⟩ hE hP hD hS hA 7 0 rfl rfl rfl rfl hl.1 rfl rfl (Nat.le_of_ble_eq_true rfl) dX7_holds_17 (fun H locs hP hD hS => ?_)
  refine lv_istore (lv' := [(4, .int x103), (3, .int x102), (2, .int x101), (0, .ref m0), (1, .int a1)]) hx hb dX7_holds_20 hl (by decide) rfl (fun ls hl => ?_)
  refine lv_aload_n hx hb dX7_holds_22 rfl (lv_at hl 3 rfl) ?_
  refine lv_iload_n hx hb dX7_holds_23 rfl (lv_at hl 1 rfl) ?_
  obtain ⟨x104, hg, hf⟩ := o1_s hf
  refine Ct.callV0 (ws' := wM g m0 m1 m2 m3 m4 m5 m6 m7 m8 m9 m10 m11 m12 now kept aside ik found carried T S) (As := [.int x102]) (rest := []) (st1 := [.int x104]) (c_X7_isCistern l g m0 m1 m2 m3 m4 m5 m6 m7 m8 m9 m10 m11 m12 now kept aside ik found carried T S x102 hg) (cwV 1 hts gX7_holds_X7_isCistern rfl rfl rfl q_X7_isCistern ⟨Nat.le_of_ble_eq_true rfl, Nat.le_of_ble_eq_true rfl⟩) ⟨hx, hb, hml, hown, hts⟩ hE hP hD hS hA 7 0 rfl rfl rfl rfl hl.1 rfl rfl (Nat.le_of_ble_eq_true rfl) dX7_holds_24 (fun H locs hP hD hS => ?_)
  refine lv_if_eq (tgt := 44) hx hb dX7_holds_27 (by decide) (fun hc => ?_) (fun hc => ?_)
  · have hf := if_t hf hc
    refine lv_iconst (v := (0 : Int32)) hx hb dX7_holds_44 (by decide) ?_
    obtain rfl := Option.some.inj hf
    rw [hQ]; exact Ct.zret hx hb hr (by decide) hlocks hAe hP hD hS dX7_holds_45
  · have hf := if_f hf hc
    refine lv_iload_n hx hb dX7_holds_30 rfl (lv_at hl 2 rfl) ?_
    refine lv_iconst (v := (1 : Int32)) hx hb dX7_holds_31 (by decide) ?_
    refine lv_icmp_gt (tgt := 46) hx hb dX7_holds_32 (by decide) (fun hc => ?_) (fun hc => ?_)
    · have hf := if_t hf hc
      exact J46 _ _ _ _ _ _  hf hP hD hS (lv_sub hl [3, 2, 1, 0] rfl)
    · have hf := if_f hf hc
      refine lv_aload_n hx hb dX7_holds_35 rfl (lv_at hl 3 rfl) ?_
      refine lv_iload hx hb dX7_holds_36 (lv_at hl 0 rfl) ?_
      obtain ⟨x113, hg, hf⟩ := o1_s hf
      refine Ct.callV0 (ws' := wM g m0 m1 m2 m3 m4 m5 m6 m7 m8 m9 m10 m11 m12 now kept aside ik found carried T S) (As := [.int x103]) (rest := []) (st1 := [.int x113]) (c_X7_isCistern l g m0 m1 m2 m3 m4 m5 m6 m7 m8 m9 m10 m11 m12 now kept aside ik found carried T S x103 hg) (cwV 1 hts gX7_holds_X7_isCistern rfl rfl rfl q_X7_isCistern ⟨Nat.le_of_ble_eq_true rfl, Nat.le_of_ble_eq_true rfl⟩) ⟨hx, hb, hml, hown, hts⟩ hE hP hD hS hA 7 0 rfl rfl rfl rfl hl.1 rfl rfl (Nat.le_of_ble_eq_true rfl) dX7_holds_38 (fun H locs hP hD hS => ?_)
      refine lv_if_ne (tgt := 46) hx hb dX7_holds_41 (by decide) (fun hc => ?_) (fun hc => ?_)
      · have hf := if_f hf hc
        exact J46 _ _ _ _ _ _  hf hP hD hS (lv_sub hl [3, 2, 1, 0] rfl)
      · have hf := if_t hf hc
        refine lv_iconst (v := (0 : Int32)) hx hb dX7_holds_44 (by decide) ?_
        obtain rfl := Option.some.inj hf
        rw [hQ]; exact Ct.zret hx hb hr (by decide) hlocks hAe hP hD hS dX7_holds_45
def fX7_lockOf (now : Nat → Int32) (found : Nat → Int32) (a1 : Int32) (a2 : Int32) : Option (Int32 × (Nat → Int32)) := rd now 120 (3 : Int32) (fun x101 => o1 (fX7_within a1 (0 : Int32) (x101 - (1 : Int32))) (fun x102 => if x102 = 0 then (o2 (fX7_finding found (-1000001 : Int32)) (fun x103 found104 => some (x103, found104))) else (o1 (fX7_within a2 (0 : Int32) (3 : Int32)) (fun x105 => if x105 = 0 then (o2 (fX7_finding found (-1000001 : Int32)) (fun x108 found109 => some (x108, found109))) else (if a2 = (3 : Int32) then (o1 (fX7_holds now a1) (fun x107 => if x107 = 0 then (some ((0 : Int32), found)) else (some ((1 : Int32), found)))) else (o1 (fX7_lockIs now a1 a2) (fun x106 => some (x106, found))))))))
theorem q_X7_lockOf : yX7_lockOf.cls = RX7 ∧ yX7_lockOf.cls ≠ "java/lang/invoke/MethodHandle" ∧ yX7_lockOf.cls ≠ "java/lang/invoke/VarHandle" ∧ (parseMethodDescriptor yX7_lockOf.desc).map (fun d => d.parameters.length) = some 2 := by decide +kernel
theorem i_X7_lockOf_X7 : ∀ w ∈ u_ws RX7 TX7 22, w ∈ wsX7_lockOf := fun _ h => List.mem_cons_of_mem _ (List.mem_append_right _ (h))
set_option maxHeartbeats 4000000 in
set_option maxRecDepth 100000 in
theorem c_X7_lockOf (l : Launch) (g : gG) (m0 m1 m2 m3 m4 m5 m6 m7 m8 m9 m10 m11 m12 : Nat) (now : Nat → Int32) (kept : Nat → Int32) (aside : Nat → Int32) (ik : Int32) (found : Nat → Int32) (carried : Nat → Int32) (T : Mt) (S : Ms) (a1 : Int32) (a2 : Int32) {r : Int32} {found' : Nat → Int32} (hf : fX7_lockOf now found a1 a2 = some (r, found')) : Ct l yX7_lockOf wsX7_lockOf (rmm 4 90) g (wM g m0 m1 m2 m3 m4 m5 m6 m7 m8 m9 m10 m11 m12 now kept aside ik found carried T S) (wM g m0 m1 m2 m3 m4 m5 m6 m7 m8 m9 m10 m11 m12 now kept aside ik (found') carried T S) [.ref m0, .int a1, .int a2] (some (.int r)) := by
  refine Ct.mk (by decide) rfl (Nat.le_of_ble_eq_true rfl) ?_
  intro p e s m args below meth c A ls hx hb hr hml hts hown hlocks hA hE hP hD hS hl hAe
  obtain ⟨Qx, hQ⟩ : ∃ Qx : State → Prop, Qx = MQ below (QcG g (wM g m0 m1 m2 m3 m4 m5 m6 m7 m8 m9 m10 m11 m12 now kept aside ik found carried T S) (wM g m0 m1 m2 m3 m4 m5 m6 m7 m8 m9 m10 m11 m12 now kept aside ik (found') carried T S) (some (.int r)) s.heap.size) args s 0 0 A := ⟨_, rfl⟩
  rw [← hQ]
  have hown : s.vm.findClass RX7 = some m.cls := hown
  have hl : lv_has ls 3 [(0, .ref m0), (1, .int a1), (2, .int a2)] := hl
  have w1 := hts (.fieldLink RX7 9 "RainVaultModel" "now" "[I") (List.mem_of_getElem? (i := 1) rfl)
  have w2 := hts (.constant RX7 63 (-1000001)) (List.mem_of_getElem? (i := 2) rfl)
  unfold fX7_lockOf at hf
  refine lv_iload_n hx hb dX7_lockOf_0 rfl (lv_at hl 1 rfl) ?_
  refine lv_iconst (v := (0 : Int32)) hx hb dX7_lockOf_1 (by decide) ?_
  refine lv_aload_n hx hb dX7_lockOf_2 rfl (lv_at hl 0 rfl) ?_
  refine va_get (D := g.1) (ci := 7) (v := .ref m1) (C := RX7) (T := TX7) (N := 22) hx hb hts i_X7_lockOf_X7 hown hE.1 hP 0 rfl rfl 0 (by decide) w1 (fun _ h9 => h9) rfl dX7_lockOf_3 ?_
  refine lv_iconst (v := (3 : Int32)) hx hb dX7_lockOf_6 (by decide) ?_
  obtain ⟨x101, ex, hin, hf⟩ := rd_s hf
  refine st_iald (f := now) hx hb hE.1 hP 1 0 rfl rfl hin ex dX7_lockOf_7 ?_
  refine lv_iconst (v := (1 : Int32)) hx hb dX7_lockOf_8 (by decide) ?_
  refine lv_isub hx hb dX7_lockOf_9 ?_
  obtain ⟨x102, hg, hf⟩ := o1_s hf
  refine Ct.callS (ws' := wM g m0 m1 m2 m3 m4 m5 m6 m7 m8 m9 m10 m11 m12 now kept aside ik found carried T S) (As := [.int a1, .int (0 : Int32), .int (x101 - (1 : Int32))]) (rest := []) (st1 := [.int x102]) (c_X7_within l g a1 (0 : Int32) (x101 - (1 : Int32)) hg) (va_cwS 3 hts gX7_lockOf_X7_within rfl rfl rfl q_X7_within.2 ⟨Nat.le_of_ble_eq_true rfl, Nat.le_of_ble_eq_true rfl⟩) ⟨hx, hb, hml, hown, hts⟩ hE hP hD hS hA [] rfl rfl rfl rfl rfl hl.1 rfl rfl (Nat.le_of_ble_eq_true rfl) dX7_lockOf_10 (fun H locs hP hD hS => ?_)
  refine lv_if_eq (tgt := 25) hx hb dX7_lockOf_13 (by decide) (fun hc => ?_) (fun hc => ?_)
  · have hf := if_t hf hc
    refine lv_aload_n hx hb dX7_lockOf_25 rfl (lv_at hl 0 rfl) ?_
    refine lv_ldc hx hb hown w2 dX7_lockOf_26 ?_
    obtain ⟨x103, found104, hg, hf⟩ := o2_s hf
    refine Ct.callV0 (ws' := wM g m0 m1 m2 m3 m4 m5 m6 m7 m8 m9 m10 m11 m12 now kept aside ik found104 carried T S) (As := [.int (-1000001 : Int32)]) (rest := []) (st1 := [.int x103]) (c_X7_finding l g m0 m1 m2 m3 m4 m5 m6 m7 m8 m9 m10 m11 m12 now kept aside ik found carried T S (-1000001 : Int32) hg) (cwV 1 hts gX7_lockOf_X7_finding rfl rfl rfl q_X7_finding ⟨Nat.le_of_ble_eq_true rfl, Nat.le_of_ble_eq_true rfl⟩) ⟨hx, hb, hml, hown, hts⟩ hE hP hD hS hA 7 0 rfl rfl rfl rfl hl.1 rfl rfl (Nat.le_of_ble_eq_true rfl) dX7_lockOf_28 (fun H locs hP hD hS => ?_)
    obtain ⟨rfl, rfl⟩ := some_p2 hf
    rw [hQ]; exact Ct.iret hx hb hr hlocks hAe hP hD hS dX7_lockOf_31
  · have hf := if_f hf hc
    refine lv_iload_n hx hb dX7_lockOf_16 rfl (lv_at hl 2 rfl) ?_
    refine lv_iconst (v := (0 : Int32)) hx hb dX7_lockOf_17 (by decide) ?_
    refine lv_iconst (v := (3 : Int32)) hx hb dX7_lockOf_18 (by decide) ?_
    obtain ⟨x105, hg, hf⟩ := o1_s hf
    refine Ct.callS (ws' := wM g m0 m1 m2 m3 m4 m5 m6 m7 m8 m9 m10 m11 m12 now kept aside ik found carried T S) (As := [.int a2, .int (0 : Int32), .int (3 : Int32)]) (rest := []) (st1 := [.int x105]) (c_X7_within l g a2 (0 : Int32) (3 : Int32) hg) (va_cwS 3 hts gX7_lockOf_X7_within rfl rfl rfl q_X7_within.2 ⟨Nat.le_of_ble_eq_true rfl, Nat.le_of_ble_eq_true rfl⟩) ⟨hx, hb, hml, hown, hts⟩ hE hP hD hS hA [] rfl rfl rfl rfl rfl hl.1 rfl rfl (Nat.le_of_ble_eq_true rfl) dX7_lockOf_19 (fun H locs hP hD hS => ?_)
    refine lv_if_ne (tgt := 32) hx hb dX7_lockOf_22 (by decide) (fun hc => ?_) (fun hc => ?_)
    · have hf := if_f hf hc
      refine lv_iload_n hx hb dX7_lockOf_32 rfl (lv_at hl 2 rfl) ?_
      refine lv_iconst (v := (3 : Int32)) hx hb dX7_lockOf_33 (by decide) ?_
      refine lv_icmp_ne (tgt := 53) hx hb dX7_lockOf_34 (by decide) (fun hc => ?_) (fun hc => ?_)
      · have hf := if_f hf hc
        refine lv_aload_n hx hb dX7_lockOf_53 rfl (lv_at hl 0 rfl) ?_
        refine lv_iload_n hx hb dX7_lockOf_54 rfl (lv_at hl 1 rfl) ?_
        refine lv_iload_n hx hb dX7_lockOf_55 rfl (lv_at hl 2 rfl) ?_
        obtain ⟨x106, hg, hf⟩ := o1_s hf
        refine Ct.callV0 (ws' := wM g m0 m1 m2 m3 m4 m5 m6 m7 m8 m9 m10 m11 m12 now kept aside ik found carried T S) (As := [.int a1, .int a2]) (rest := []) (st1 := [.int x106]) (c_X7_lockIs l g m0 m1 m2 m3 m4 m5 m6 m7 m8 m9 m10 m11 m12 now kept aside ik found carried T S a1 a2 hg) (cwV 2 hts gX7_lockOf_X7_lockIs rfl rfl rfl q_X7_lockIs ⟨Nat.le_of_ble_eq_true rfl, Nat.le_of_ble_eq_true rfl⟩) ⟨hx, hb, hml, hown, hts⟩ hE hP hD hS hA 7 0 rfl rfl rfl rfl hl.1 rfl rfl (Nat.le_of_ble_eq_true rfl) dX7_lockOf_56 (fun H locs hP hD hS => ?_)
        obtain ⟨rfl, rfl⟩ := some_p2 hf
        rw [hQ]; exact Ct.iret hx hb hr hlocks hAe hP hD hS dX7_lockOf_59
      · have hf := if_t hf hc
        refine lv_aload_n hx hb dX7_lockOf_37 rfl (lv_at hl 0 rfl) ?_
        refine lv_iload_n hx hb dX7_lockOf_38 rfl (lv_at hl 1 rfl) ?_
        obtain ⟨x107, hg, hf⟩ := o1_s hf
        refine Ct.callV0 (ws' := wM g m0 m1 m2 m3 m4 m5 m6 m7 m8 m9 m10 m11 m12 now kept aside ik found carried T S) (As := [.int a1]) (rest := []) (st1 := [.int x107]) (c_X7_holds l g m0 m1 m2 m3 m4 m5 m6 m7 m8 m9 m10 m11 m12 now kept aside ik found carried T S a1 hg) (cwV 1 hts gX7_lockOf_X7_holds rfl rfl rfl q_X7_holds ⟨Nat.le_of_ble_eq_true rfl, Nat.le_of_ble_eq_true rfl⟩) ⟨hx, hb, hml, hown, hts⟩ hE hP hD hS hA 7 0 rfl rfl rfl rfl hl.1 rfl rfl (Nat.le_of_ble_eq_true rfl) dX7_lockOf_39 (fun H locs hP hD hS => ?_)
        refine lv_if_eq (tgt := 49) hx hb dX7_lockOf_42 (by decide) (fun hc => ?_) (fun hc => ?_)
        · have hf := if_t hf hc
          refine lv_iconst (v := (0 : Int32)) hx hb dX7_lockOf_49 (by decide) ?_
          refine lv_goto (tgt := 59) hx hb dX7_lockOf_50 (by decide) ?_
          obtain ⟨rfl, rfl⟩ := some_p2 hf
          rw [hQ]; exact Ct.iret hx hb hr hlocks hAe hP hD hS dX7_lockOf_59
        · have hf := if_f hf hc
          refine lv_iconst (v := (1 : Int32)) hx hb dX7_lockOf_45 (by decide) ?_
          refine lv_goto (tgt := 59) hx hb dX7_lockOf_46 (by decide) ?_
          obtain ⟨rfl, rfl⟩ := some_p2 hf
          rw [hQ]; exact Ct.iret hx hb hr hlocks hAe hP hD hS dX7_lockOf_59
    · have hf := if_t hf hc
      refine lv_aload_n hx hb dX7_lockOf_25 rfl (lv_at hl 0 rfl) ?_
      refine lv_ldc hx hb hown w2 dX7_lockOf_26 ?_
      obtain ⟨x108, found109, hg, hf⟩ := o2_s hf
      refine Ct.callV0 (ws' := wM g m0 m1 m2 m3 m4 m5 m6 m7 m8 m9 m10 m11 m12 now kept aside ik found109 carried T S) (As := [.int (-1000001 : Int32)]) (rest := []) (st1 := [.int x108]) (c_X7_finding l g m0 m1 m2 m3 m4 m5 m6 m7 m8 m9 m10 m11 m12 now kept aside ik found carried T S (-1000001 : Int32) hg) (cwV 1 hts gX7_lockOf_X7_finding rfl rfl rfl q_X7_finding ⟨Nat.le_of_ble_eq_true rfl, Nat.le_of_ble_eq_true rfl⟩) ⟨hx, hb, hml, hown, hts⟩ hE hP hD hS hA 7 0 rfl rfl rfl rfl hl.1 rfl rfl (Nat.le_of_ble_eq_true rfl) dX7_lockOf_28 (fun H locs hP hD hS => ?_)
      obtain ⟨rfl, rfl⟩ := some_p2 hf
      rw [hQ]; exact Ct.iret hx hb hr hlocks hAe hP hD hS dX7_lockOf_31
def fX7_takeOff_L7 (kx : (Nat → Int32) → Option ((Nat → Int32))) : Nat → (Nat → Int32) → Int32 → Option ((Nat → Int32))
  | 0, _, _ => none
  | k + 1, now, x2 => rd now 120 (3 : Int32) (fun x104 => if ((96 : Int32) + ((3 : Int32) * (x104 - (1 : Int32)))) ≤ x2 then (kx now) else (rd now 120 (x2 + (3 : Int32)) (fun x105 => wr now 120 x2 x105 (fun f106 => fX7_takeOff_L7 kx k f106 (x2 + (1 : Int32))))))
def fX7_takeOff (now : Nat → Int32) (a1 : Int32) : Option ((Nat → Int32)) := fX7_takeOff_L7 (fun now107 => rd now107 120 (3 : Int32) (fun x108 => wr now107 120 (3 : Int32) (x108 - (1 : Int32)) (fun f109 => some f109))) fu now ((96 : Int32) + ((3 : Int32) * a1))
theorem q_X7_takeOff : yX7_takeOff.cls = RX7 ∧ yX7_takeOff.cls ≠ "java/lang/invoke/MethodHandle" ∧ yX7_takeOff.cls ≠ "java/lang/invoke/VarHandle" ∧ (parseMethodDescriptor yX7_takeOff.desc).map (fun d => d.parameters.length) = some 1 := by decide +kernel
theorem i_X7_takeOff_X7 : ∀ w ∈ u_ws RX7 TX7 22, w ∈ wsX7_takeOff := fun _ h => List.mem_cons_of_mem _ (List.mem_append_right _ (h))
set_option maxHeartbeats 4000000 in
set_option maxRecDepth 100000 in
theorem c_X7_takeOff (l : Launch) (g : gG) (m0 m1 m2 m3 m4 m5 m6 m7 m8 m9 m10 m11 m12 : Nat) (now : Nat → Int32) (kept : Nat → Int32) (aside : Nat → Int32) (ik : Int32) (found : Nat → Int32) (carried : Nat → Int32) (T : Mt) (S : Ms) (a1 : Int32) {now' : Nat → Int32} (hf : fX7_takeOff now a1 = some now') : Ct l yX7_takeOff wsX7_takeOff (rmm 0 0) g (wM g m0 m1 m2 m3 m4 m5 m6 m7 m8 m9 m10 m11 m12 now kept aside ik found carried T S) (wM g m0 m1 m2 m3 m4 m5 m6 m7 m8 m9 m10 m11 m12 (now') kept aside ik found carried T S) [.ref m0, .int a1] none := by
  refine Ct.mk (by decide) rfl (Nat.le_of_ble_eq_true rfl) ?_
  intro p e s m args below meth c A ls hx hb hr hml hts hown hlocks hA hE hP hD hS hl hAe
  obtain ⟨Qx, hQ⟩ : ∃ Qx : State → Prop, Qx = MQ below (QcG g (wM g m0 m1 m2 m3 m4 m5 m6 m7 m8 m9 m10 m11 m12 now kept aside ik found carried T S) (wM g m0 m1 m2 m3 m4 m5 m6 m7 m8 m9 m10 m11 m12 (now') kept aside ik found carried T S) none s.heap.size) args s 0 0 A := ⟨_, rfl⟩
  rw [← hQ]
  have hown : s.vm.findClass RX7 = some m.cls := hown
  have hl : lv_has ls 3 [(0, .ref m0), (1, .int a1)] := hl
  have w1 := hts (.fieldLink RX7 9 "RainVaultModel" "now" "[I") (List.mem_of_getElem? (i := 1) rfl)
  have L7 : ∀ (kx : (Nat → Int32) → Option ((Nat → Int32))) (k : Nat) (now : Nat → Int32) (x2 : Int32) (H : Heap) (locs : List Loc) (ls : Array Slot), fX7_takeOff_L7 kx k now x2 = some now' → va_P g.1 vwK (wM g m0 m1 m2 m3 m4 m5 m6 m7 m8 m9 m10 m11 m12 now kept aside ik found carried T S) H → va_D A (wM g m0 m1 m2 m3 m4 m5 m6 m7 m8 m9 m10 m11 m12 now kept aside ik found carried T S) → va_S A s.heap H locs → lv_has ls 3 [(0, .ref m0), (2, .int x2)] → (∀ (now : Nat → Int32) (H : Heap) (locs : List Loc) (ls : Array Slot), kx now = some now' → va_P g.1 vwK (wM g m0 m1 m2 m3 m4 m5 m6 m7 m8 m9 m10 m11 m12 now kept aside ik found carried T S) H → va_D A (wM g m0 m1 m2 m3 m4 m5 m6 m7 m8 m9 m10 m11 m12 now kept aside ik found carried T S) → va_S A s.heap H locs → lv_has ls 3 [(0, .ref m0)] → W p l e (rmm 0 0) s m args below meth c H locs 0 0 Qx (F0 m 44 ls [])) → W p l e (rmm 0 0) s m args below meth c H locs 0 0 Qx (F0 m 7 ls []) := by
    intro kx k
    induction k with
    | zero => intro now x2 H locs ls hf; exact nomatch (show (none : Option ((Nat → Int32))) = some _ from hf)
    | succ k ih =>
      intro now x2 H locs ls hf hP hD hS hl hk
      rw [fX7_takeOff_L7] at hf
      refine lv_iload_n hx hb dX7_takeOff_7 rfl (lv_at hl 1 rfl) ?_
      refine lv_bipush (v := (96 : Int32)) hx hb dX7_takeOff_8 (by decide) ?_
      refine lv_iconst (v := (3 : Int32)) hx hb dX7_takeOff_10 (by decide) ?_
      refine lv_aload_n hx hb dX7_takeOff_11 rfl (lv_at hl 0 rfl) ?_
      refine va_get (D := g.1) (ci := 7) (v := .ref m1) (C := RX7) (T := TX7) (N := 22) hx hb hts i_X7_takeOff_X7 hown hE.1 hP 0 rfl rfl 0 (by decide) w1 (fun _ h9 => h9) rfl dX7_takeOff_12 ?_
      refine lv_iconst (v := (3 : Int32)) hx hb dX7_takeOff_15 (by decide) ?_
      obtain ⟨x104, ex, hin, hf⟩ := rd_s hf
      refine st_iald (f := now) hx hb hE.1 hP 1 0 rfl rfl hin ex dX7_takeOff_16 ?_
      refine lv_iconst (v := (1 : Int32)) hx hb dX7_takeOff_17 (by decide) ?_
      refine lv_isub hx hb dX7_takeOff_18 ?_
      refine lv_imul hx hb dX7_takeOff_19 ?_
      refine lv_iadd hx hb dX7_takeOff_20 ?_
      refine lv_icmp_ge (tgt := 44) hx hb dX7_takeOff_21 (by decide) (fun hc => ?_) (fun hc => ?_)
      · have hf := if_t hf hc
        exact hk _ _ _ _  hf hP hD hS (lv_sub hl [0] rfl)
      · have hf := if_f hf hc
        refine lv_aload_n hx hb dX7_takeOff_24 rfl (lv_at hl 0 rfl) ?_
        refine va_get (D := g.1) (ci := 7) (v := .ref m1) (C := RX7) (T := TX7) (N := 22) hx hb hts i_X7_takeOff_X7 hown hE.1 hP 0 rfl rfl 0 (by decide) w1 (fun _ h9 => h9) rfl dX7_takeOff_25 ?_
        refine lv_iload_n hx hb dX7_takeOff_28 rfl (lv_at hl 1 rfl) ?_
        refine lv_aload_n hx hb dX7_takeOff_29 rfl (lv_at hl 0 rfl) ?_
        refine va_get (D := g.1) (ci := 7) (v := .ref m1) (C := RX7) (T := TX7) (N := 22) hx hb hts i_X7_takeOff_X7 hown hE.1 hP 0 rfl rfl 0 (by decide) w1 (fun _ h9 => h9) rfl dX7_takeOff_30 ?_
        refine lv_iload_n hx hb dX7_takeOff_33 rfl (lv_at hl 1 rfl) ?_
        refine lv_iconst (v := (3 : Int32)) hx hb dX7_takeOff_34 (by decide) ?_
        refine lv_iadd hx hb dX7_takeOff_35 ?_
        obtain ⟨x105, ex, hin, hf⟩ := rd_s hf
        refine st_iald (f := now) hx hb hE.1 hP 1 0 rfl rfl hin ex dX7_takeOff_36 ?_
        obtain ⟨f106, ef, hin, hf⟩ := wr_s hf
        refine st_iast (ws' := wM g m0 m1 m2 m3 m4 m5 m6 m7 m8 m9 m10 m11 m12 f106 kept aside ik found carried T S) (f := now) (f2 := f106) hx hb hE.1 hP hD hS 1 0 rfl rfl hin ef rfl dX7_takeOff_37 (fun H locs hP hD hS => ?_)
        refine lv_iinc (v := (x2 + (1 : Int32))) (lv' := [(2, .int (x2 + (1 : Int32))), (0, .ref m0)]) hx hb dX7_takeOff_38 hl (k := 1) rfl rfl (by decide) rfl (fun ls hl => ?_)
        refine lv_goto (tgt := 7) hx hb dX7_takeOff_41 (by decide) ?_
        exact ih _ _ _ _ _  hf hP hD hS (lv_sub hl [1, 0] rfl) hk
  unfold fX7_takeOff at hf
  refine lv_bipush (v := (96 : Int32)) hx hb dX7_takeOff_0 (by decide) ?_
  refine lv_iconst (v := (3 : Int32)) hx hb dX7_takeOff_2 (by decide) ?_
  refine lv_iload_n hx hb dX7_takeOff_3 rfl (lv_at hl 1 rfl) ?_
  refine lv_imul hx hb dX7_takeOff_4 ?_
  refine lv_iadd hx hb dX7_takeOff_5 ?_
  refine lv_istore_n (lv' := [(2, .int ((96 : Int32) + ((3 : Int32) * a1))), (0, .ref m0), (1, .int a1)]) hx hb dX7_takeOff_6 rfl hl (by decide) rfl (fun ls hl => ?_)
  refine L7 _ _ _ _ _ _ _  hf hP hD hS (lv_sub hl [1, 0] rfl) (fun now107 H locs ls hf hP hD hS hl => ?_)
  refine lv_aload_n hx hb dX7_takeOff_44 rfl (lv_at hl 0 rfl) ?_
  refine va_get (D := g.1) (ci := 7) (v := .ref m1) (C := RX7) (T := TX7) (N := 22) hx hb hts i_X7_takeOff_X7 hown hE.1 hP 0 rfl rfl 0 (by decide) w1 (fun _ h9 => h9) rfl dX7_takeOff_45 ?_
  refine lv_iconst (v := (3 : Int32)) hx hb dX7_takeOff_48 (by decide) ?_
  refine lv_dup2_11 hx hb dX7_takeOff_49 rfl rfl ?_
  obtain ⟨x108, ex, hin, hf⟩ := rd_s hf
  refine st_iald (f := now107) hx hb hE.1 hP 1 0 rfl rfl hin ex dX7_takeOff_50 ?_
  refine lv_iconst (v := (1 : Int32)) hx hb dX7_takeOff_51 (by decide) ?_
  refine lv_isub hx hb dX7_takeOff_52 ?_
  obtain ⟨f109, ef, hin, hf⟩ := wr_s hf
  refine st_iast (ws' := wM g m0 m1 m2 m3 m4 m5 m6 m7 m8 m9 m10 m11 m12 f109 kept aside ik found carried T S) (f := now107) (f2 := f109) hx hb hE.1 hP hD hS 1 0 rfl rfl hin ef rfl dX7_takeOff_53 (fun H locs hP hD hS => ?_)
  obtain rfl := Option.some.inj hf
  rw [hQ]; exact Ct.vret hx hb hr hlocks hAe hP hD hS dX7_takeOff_54
def fX7_pick (now : Nat → Int32) (found : Nat → Int32) (a1 : Int32) : Option (Int32 × (Nat → Int32) × (Nat → Int32)) := rd now 120 (3 : Int32) (fun x101 => o1 (fX7_within a1 (0 : Int32) (x101 - (1 : Int32))) (fun x102 => if x102 = 0 then (o2 (fX7_finding found (-1000001 : Int32)) (fun x105 found106 => some (x105, now, found106))) else (o1 (fX7_takeOff now a1) (fun now103 => rd now103 120 (3 : Int32) (fun x104 => some (x104, now103, found))))))
theorem q_X7_pick : yX7_pick.cls = RX7 ∧ yX7_pick.cls ≠ "java/lang/invoke/MethodHandle" ∧ yX7_pick.cls ≠ "java/lang/invoke/VarHandle" ∧ (parseMethodDescriptor yX7_pick.desc).map (fun d => d.parameters.length) = some 1 := by decide +kernel
theorem i_X7_pick_X7 : ∀ w ∈ u_ws RX7 TX7 22, w ∈ wsX7_pick := fun _ h => List.mem_cons_of_mem _ (List.mem_append_right _ (h))
set_option maxHeartbeats 4000000 in
set_option maxRecDepth 100000 in
theorem c_X7_pick (l : Launch) (g : gG) (m0 m1 m2 m3 m4 m5 m6 m7 m8 m9 m10 m11 m12 : Nat) (now : Nat → Int32) (kept : Nat → Int32) (aside : Nat → Int32) (ik : Int32) (found : Nat → Int32) (carried : Nat → Int32) (T : Mt) (S : Ms) (a1 : Int32) {r : Int32} {now' : Nat → Int32} {found' : Nat → Int32} (hf : fX7_pick now found a1 = some (r, now', found')) : Ct l yX7_pick wsX7_pick (rmm 1 22) g (wM g m0 m1 m2 m3 m4 m5 m6 m7 m8 m9 m10 m11 m12 now kept aside ik found carried T S) (wM g m0 m1 m2 m3 m4 m5 m6 m7 m8 m9 m10 m11 m12 (now') kept aside ik (found') carried T S) [.ref m0, .int a1] (some (.int r)) := by
  refine Ct.mk (by decide) rfl (Nat.le_of_ble_eq_true rfl) ?_
  intro p e s m args below meth c A ls hx hb hr hml hts hown hlocks hA hE hP hD hS hl hAe
  obtain ⟨Qx, hQ⟩ : ∃ Qx : State → Prop, Qx = MQ below (QcG g (wM g m0 m1 m2 m3 m4 m5 m6 m7 m8 m9 m10 m11 m12 now kept aside ik found carried T S) (wM g m0 m1 m2 m3 m4 m5 m6 m7 m8 m9 m10 m11 m12 (now') kept aside ik (found') carried T S) (some (.int r)) s.heap.size) args s 0 0 A := ⟨_, rfl⟩
  rw [← hQ]
  have hown : s.vm.findClass RX7 = some m.cls := hown
  have hl : lv_has ls 2 [(0, .ref m0), (1, .int a1)] := hl
  have w1 := hts (.fieldLink RX7 9 "RainVaultModel" "now" "[I") (List.mem_of_getElem? (i := 1) rfl)
  have w2 := hts (.constant RX7 63 (-1000001)) (List.mem_of_getElem? (i := 2) rfl)
  unfold fX7_pick at hf
  refine lv_iload_n hx hb dX7_pick_0 rfl (lv_at hl 1 rfl) ?_
  refine lv_iconst (v := (0 : Int32)) hx hb dX7_pick_1 (by decide) ?_
  refine lv_aload_n hx hb dX7_pick_2 rfl (lv_at hl 0 rfl) ?_
  refine va_get (D := g.1) (ci := 7) (v := .ref m1) (C := RX7) (T := TX7) (N := 22) hx hb hts i_X7_pick_X7 hown hE.1 hP 0 rfl rfl 0 (by decide) w1 (fun _ h9 => h9) rfl dX7_pick_3 ?_
  refine lv_iconst (v := (3 : Int32)) hx hb dX7_pick_6 (by decide) ?_
  obtain ⟨x101, ex, hin, hf⟩ := rd_s hf
  refine st_iald (f := now) hx hb hE.1 hP 1 0 rfl rfl hin ex dX7_pick_7 ?_
  refine lv_iconst (v := (1 : Int32)) hx hb dX7_pick_8 (by decide) ?_
  refine lv_isub hx hb dX7_pick_9 ?_
  obtain ⟨x102, hg, hf⟩ := o1_s hf
  refine Ct.callS (ws' := wM g m0 m1 m2 m3 m4 m5 m6 m7 m8 m9 m10 m11 m12 now kept aside ik found carried T S) (As := [.int a1, .int (0 : Int32), .int (x101 - (1 : Int32))]) (rest := []) (st1 := [.int x102]) (c_X7_within l g a1 (0 : Int32) (x101 - (1 : Int32)) hg) (va_cwS 3 hts gX7_pick_X7_within rfl rfl rfl q_X7_within.2 ⟨Nat.le_of_ble_eq_true rfl, Nat.le_of_ble_eq_true rfl⟩) ⟨hx, hb, hml, hown, hts⟩ hE hP hD hS hA [] rfl rfl rfl rfl rfl hl.1 rfl rfl (Nat.le_of_ble_eq_true rfl) dX7_pick_10 (fun H locs hP hD hS => ?_)
  refine lv_if_ne (tgt := 23) hx hb dX7_pick_13 (by decide) (fun hc => ?_) (fun hc => ?_)
  · have hf := if_f hf hc
    refine lv_aload_n hx hb dX7_pick_23 rfl (lv_at hl 0 rfl) ?_
    refine lv_iload_n hx hb dX7_pick_24 rfl (lv_at hl 1 rfl) ?_
    obtain ⟨now103, hg, hf⟩ := o1_s hf
    refine Ct.callV0 (ws' := wM g m0 m1 m2 m3 m4 m5 m6 m7 m8 m9 m10 m11 m12 now103 kept aside ik found carried T S) (As := [.int a1]) (rest := []) (st1 := []) (c_X7_takeOff l g m0 m1 m2 m3 m4 m5 m6 m7 m8 m9 m10 m11 m12 now kept aside ik found carried T S a1 hg) (cwV 1 hts gX7_pick_X7_takeOff rfl rfl rfl q_X7_takeOff ⟨Nat.le_of_ble_eq_true rfl, Nat.le_of_ble_eq_true rfl⟩) ⟨hx, hb, hml, hown, hts⟩ hE hP hD hS hA 7 0 rfl rfl rfl rfl hl.1 rfl rfl (Nat.le_of_ble_eq_true rfl) dX7_pick_25 (fun H locs hP hD hS => ?_)
    refine lv_aload_n hx hb dX7_pick_28 rfl (lv_at hl 0 rfl) ?_
    refine va_get (D := g.1) (ci := 7) (v := .ref m1) (C := RX7) (T := TX7) (N := 22) hx hb hts i_X7_pick_X7 hown hE.1 hP 0 rfl rfl 0 (by decide) w1 (fun _ h9 => h9) rfl dX7_pick_29 ?_
    refine lv_iconst (v := (3 : Int32)) hx hb dX7_pick_32 (by decide) ?_
    obtain ⟨x104, ex, hin, hf⟩ := rd_s hf
    refine st_iald (f := now103) hx hb hE.1 hP 1 0 rfl rfl hin ex dX7_pick_33 ?_
    obtain ⟨rfl, rfl, rfl⟩ := some_p3 hf
    rw [hQ]; exact Ct.iret hx hb hr hlocks hAe hP hD hS dX7_pick_34
  · have hf := if_t hf hc
    refine lv_aload_n hx hb dX7_pick_16 rfl (lv_at hl 0 rfl) ?_
    refine lv_ldc hx hb hown w2 dX7_pick_17 ?_
    obtain ⟨x105, found106, hg, hf⟩ := o2_s hf
    refine Ct.callV0 (ws' := wM g m0 m1 m2 m3 m4 m5 m6 m7 m8 m9 m10 m11 m12 now kept aside ik found106 carried T S) (As := [.int (-1000001 : Int32)]) (rest := []) (st1 := [.int x105]) (c_X7_finding l g m0 m1 m2 m3 m4 m5 m6 m7 m8 m9 m10 m11 m12 now kept aside ik found carried T S (-1000001 : Int32) hg) (cwV 1 hts gX7_pick_X7_finding rfl rfl rfl q_X7_finding ⟨Nat.le_of_ble_eq_true rfl, Nat.le_of_ble_eq_true rfl⟩) ⟨hx, hb, hml, hown, hts⟩ hE hP hD hS hA 7 0 rfl rfl rfl rfl hl.1 rfl rfl (Nat.le_of_ble_eq_true rfl) dX7_pick_19 (fun H locs hP hD hS => ?_)
    obtain ⟨rfl, rfl, rfl⟩ := some_p3 hf
    rw [hQ]; exact Ct.iret hx hb hr hlocks hAe hP hD hS dX7_pick_22
def fX7_holding_L4 (now : Nat → Int32) (kx : Int32 → Option (Int32)) : Nat → Int32 → Int32 → Option (Int32)
  | 0, _, _ => none
  | k + 1, x1, x2 => rd now 120 (3 : Int32) (fun x103 => if x103 ≤ x2 then (kx x1) else (o1 (fX7_holds now x2) (fun x104 => if x104 = 0 then (fX7_holding_L4 now kx k (x1 ||| (0 : Int32)) (x2 + (1 : Int32))) else (fX7_holding_L4 now kx k (x1 ||| ((1 : Int32) <<< (x2 &&& 31))) (x2 + (1 : Int32))))))
def fX7_holding (now : Nat → Int32) : Option (Int32) := fX7_holding_L4 now (fun x105 => some x105) fu (0 : Int32) (0 : Int32)
theorem q_X7_holding : yX7_holding.cls = RX7 ∧ yX7_holding.cls ≠ "java/lang/invoke/MethodHandle" ∧ yX7_holding.cls ≠ "java/lang/invoke/VarHandle" ∧ (parseMethodDescriptor yX7_holding.desc).map (fun d => d.parameters.length) = some 0 := by decide +kernel
theorem i_X7_holding_X7 : ∀ w ∈ u_ws RX7 TX7 22, w ∈ wsX7_holding := fun _ h => List.mem_cons_of_mem _ (List.mem_append_right _ (h))
set_option maxHeartbeats 4000000 in
set_option maxRecDepth 100000 in
theorem c_X7_holding (l : Launch) (g : gG) (m0 m1 m2 m3 m4 m5 m6 m7 m8 m9 m10 m11 m12 : Nat) (now : Nat → Int32) (kept : Nat → Int32) (aside : Nat → Int32) (ik : Int32) (found : Nat → Int32) (carried : Nat → Int32) (T : Mt) (S : Ms) {r : Int32} (hf : fX7_holding now = some r) : Ct l yX7_holding wsX7_holding (rmm 4 90) g (wM g m0 m1 m2 m3 m4 m5 m6 m7 m8 m9 m10 m11 m12 now kept aside ik found carried T S) (wM g m0 m1 m2 m3 m4 m5 m6 m7 m8 m9 m10 m11 m12 now kept aside ik found carried T S) [.ref m0] (some (.int r)) := by
  refine Ct.mk (by decide) rfl (Nat.le_of_ble_eq_true rfl) ?_
  intro p e s m args below meth c A ls hx hb hr hml hts hown hlocks hA hE hP hD hS hl hAe
  obtain ⟨Qx, hQ⟩ : ∃ Qx : State → Prop, Qx = MQ below (QcG g (wM g m0 m1 m2 m3 m4 m5 m6 m7 m8 m9 m10 m11 m12 now kept aside ik found carried T S) (wM g m0 m1 m2 m3 m4 m5 m6 m7 m8 m9 m10 m11 m12 now kept aside ik found carried T S) (some (.int r)) s.heap.size) args s 0 0 A := ⟨_, rfl⟩
  rw [← hQ]
  have hown : s.vm.findClass RX7 = some m.cls := hown
  have hl : lv_has ls 3 [(0, .ref m0)] := hl
  have w1 := hts (.fieldLink RX7 9 "RainVaultModel" "now" "[I") (List.mem_of_getElem? (i := 1) rfl)
  have L4 : ∀ (kx : Int32 → Option (Int32)) (k : Nat) (x1 : Int32) (x2 : Int32) (H : Heap) (locs : List Loc) (ls : Array Slot), fX7_holding_L4 now kx k x1 x2 = some r → va_P g.1 vwK (wM g m0 m1 m2 m3 m4 m5 m6 m7 m8 m9 m10 m11 m12 now kept aside ik found carried T S) H → va_D A (wM g m0 m1 m2 m3 m4 m5 m6 m7 m8 m9 m10 m11 m12 now kept aside ik found carried T S) → va_S A s.heap H locs → lv_has ls 3 [(0, .ref m0), (1, .int x1), (2, .int x2)] → (∀ (x1 : Int32) (H : Heap) (locs : List Loc) (ls : Array Slot), kx x1 = some r → va_P g.1 vwK (wM g m0 m1 m2 m3 m4 m5 m6 m7 m8 m9 m10 m11 m12 now kept aside ik found carried T S) H → va_D A (wM g m0 m1 m2 m3 m4 m5 m6 m7 m8 m9 m10 m11 m12 now kept aside ik found carried T S) → va_S A s.heap H locs → lv_has ls 3 [(1, .int x1)] → W p l e (rmm 4 90) s m args below meth c H locs 0 0 Qx (F0 m 38 ls [])) → W p l e (rmm 4 90) s m args below meth c H locs 0 0 Qx (F0 m 4 ls []) := by
    intro kx k
    induction k with
    | zero => intro x1 x2 H locs ls hf; exact nomatch (show (none : Option (Int32)) = some _ from hf)
    | succ k ih =>
      intro x1 x2 H locs ls hf hP hD hS hl hk
      rw [fX7_holding_L4] at hf
      refine lv_iload_n hx hb dX7_holding_4 rfl (lv_at hl 2 rfl) ?_
      refine lv_aload_n hx hb dX7_holding_5 rfl (lv_at hl 0 rfl) ?_
      refine va_get (D := g.1) (ci := 7) (v := .ref m1) (C := RX7) (T := TX7) (N := 22) hx hb hts i_X7_holding_X7 hown hE.1 hP 0 rfl rfl 0 (by decide) w1 (fun _ h9 => h9) rfl dX7_holding_6 ?_
      refine lv_iconst (v := (3 : Int32)) hx hb dX7_holding_9 (by decide) ?_
      obtain ⟨x103, ex, hin, hf⟩ := rd_s hf
      refine st_iald (f := now) hx hb hE.1 hP 1 0 rfl rfl hin ex dX7_holding_10 ?_
      refine lv_icmp_ge (tgt := 38) hx hb dX7_holding_11 (by decide) (fun hc => ?_) (fun hc => ?_)
      · have hf := if_t hf hc
        exact hk _ _ _ _  hf hP hD hS (lv_sub hl [1] rfl)
      · have hf := if_f hf hc
        refine lv_iload_n hx hb dX7_holding_14 rfl (lv_at hl 1 rfl) ?_
        refine lv_aload_n hx hb dX7_holding_15 rfl (lv_at hl 0 rfl) ?_
        refine lv_iload_n hx hb dX7_holding_16 rfl (lv_at hl 2 rfl) ?_
        obtain ⟨x104, hg, hf⟩ := o1_s hf
        refine Ct.callV0 (ws' := wM g m0 m1 m2 m3 m4 m5 m6 m7 m8 m9 m10 m11 m12 now kept aside ik found carried T S) (As := [.int x2]) (rest := [.int x1]) (st1 := [.int x104, .int x1]) (c_X7_holds l g m0 m1 m2 m3 m4 m5 m6 m7 m8 m9 m10 m11 m12 now kept aside ik found carried T S x2 hg) (cwV 1 hts gX7_holding_X7_holds rfl rfl rfl q_X7_holds ⟨Nat.le_of_ble_eq_true rfl, Nat.le_of_ble_eq_true rfl⟩) ⟨hx, hb, hml, hown, hts⟩ hE hP hD hS hA 7 0 rfl rfl rfl rfl hl.1 rfl rfl (Nat.le_of_ble_eq_true rfl) dX7_holding_17 (fun H locs hP hD hS => ?_)
        refine lv_if_eq (tgt := 29) hx hb dX7_holding_20 (by decide) (fun hc => ?_) (fun hc => ?_)
        · have hf := if_t hf hc
          refine lv_iconst (v := (0 : Int32)) hx hb dX7_holding_29 (by decide) ?_
          refine lv_ior hx hb dX7_holding_30 ?_
          refine lv_istore_n (lv' := [(1, .int (x1 ||| (0 : Int32))), (0, .ref m0), (2, .int x2)]) hx hb dX7_holding_31 rfl hl (by decide) rfl (fun ls hl => ?_)
          refine lv_iinc (v := (x2 + (1 : Int32))) (lv' := [(2, .int (x2 + (1 : Int32))), (1, .int (x1 ||| (0 : Int32))), (0, .ref m0)]) hx hb dX7_holding_32 hl (k := 2) rfl rfl (by decide) rfl (fun ls hl => ?_)
          refine lv_goto (tgt := 4) hx hb dX7_holding_35 (by decide) ?_
          exact ih _ _ _ _ _  hf hP hD hS (lv_sub hl [2, 1, 0] rfl) hk
        · have hf := if_f hf hc
          refine lv_iconst (v := (1 : Int32)) hx hb dX7_holding_23 (by decide) ?_
          refine lv_iload_n hx hb dX7_holding_24 rfl (lv_at hl 2 rfl) ?_
          refine lv_ishl hx hb dX7_holding_25 ?_
          refine lv_goto (tgt := 30) hx hb dX7_holding_26 (by decide) ?_
          refine lv_ior hx hb dX7_holding_30 ?_
          refine lv_istore_n (lv' := [(1, .int (x1 ||| ((1 : Int32) <<< (x2 &&& 31)))), (0, .ref m0), (2, .int x2)]) hx hb dX7_holding_31 rfl hl (by decide) rfl (fun ls hl => ?_)
          refine lv_iinc (v := (x2 + (1 : Int32))) (lv' := [(2, .int (x2 + (1 : Int32))), (1, .int (x1 ||| ((1 : Int32) <<< (x2 &&& 31)))), (0, .ref m0)]) hx hb dX7_holding_32 hl (k := 2) rfl rfl (by decide) rfl (fun ls hl => ?_)
          refine lv_goto (tgt := 4) hx hb dX7_holding_35 (by decide) ?_
          exact ih _ _ _ _ _  hf hP hD hS (lv_sub hl [2, 1, 0] rfl) hk
  unfold fX7_holding at hf
  refine lv_iconst (v := (0 : Int32)) hx hb dX7_holding_0 (by decide) ?_
  refine lv_istore_n (lv' := [(1, .int (0 : Int32)), (0, .ref m0)]) hx hb dX7_holding_1 rfl hl (by decide) rfl (fun ls hl => ?_)
  refine lv_iconst (v := (0 : Int32)) hx hb dX7_holding_2 (by decide) ?_
  refine lv_istore_n (lv' := [(2, .int (0 : Int32)), (1, .int (0 : Int32)), (0, .ref m0)]) hx hb dX7_holding_3 rfl hl (by decide) rfl (fun ls hl => ?_)
  refine L4 _ _ _ _ _ _ _  hf hP hD hS (lv_sub hl [2, 1, 0] rfl) (fun x105 H locs ls hf hP hD hS hl => ?_)
  refine lv_iload_n hx hb dX7_holding_38 rfl (lv_at hl 0 rfl) ?_
  obtain rfl := Option.some.inj hf
  rw [hQ]; exact Ct.iret hx hb hr hlocks hAe hP hD hS dX7_holding_39
def fX7_isOpen (now : Nat → Int32) : Option (Int32) := o1 (fX7_holding now) (fun x101 => rd now 120 (3 : Int32) (fun x102 => if x101 = (((1 : Int32) <<< (x102 &&& 31)) - (1 : Int32)) then (some (1 : Int32)) else (some (0 : Int32))))
theorem q_X7_isOpen : yX7_isOpen.cls = RX7 ∧ yX7_isOpen.cls ≠ "java/lang/invoke/MethodHandle" ∧ yX7_isOpen.cls ≠ "java/lang/invoke/VarHandle" ∧ (parseMethodDescriptor yX7_isOpen.desc).map (fun d => d.parameters.length) = some 0 := by decide +kernel
theorem i_X7_isOpen_X7 : ∀ w ∈ u_ws RX7 TX7 22, w ∈ wsX7_isOpen := fun _ h => List.mem_cons_of_mem _ (List.mem_append_right _ (h))
set_option maxHeartbeats 4000000 in
set_option maxRecDepth 100000 in
theorem c_X7_isOpen (l : Launch) (g : gG) (m0 m1 m2 m3 m4 m5 m6 m7 m8 m9 m10 m11 m12 : Nat) (now : Nat → Int32) (kept : Nat → Int32) (aside : Nat → Int32) (ik : Int32) (found : Nat → Int32) (carried : Nat → Int32) (T : Mt) (S : Ms) {r : Int32} (hf : fX7_isOpen now = some r) : Ct l yX7_isOpen wsX7_isOpen (rmm 5 112) g (wM g m0 m1 m2 m3 m4 m5 m6 m7 m8 m9 m10 m11 m12 now kept aside ik found carried T S) (wM g m0 m1 m2 m3 m4 m5 m6 m7 m8 m9 m10 m11 m12 now kept aside ik found carried T S) [.ref m0] (some (.int r)) := by
  refine Ct.mk (by decide) rfl (Nat.le_of_ble_eq_true rfl) ?_
  intro p e s m args below meth c A ls hx hb hr hml hts hown hlocks hA hE hP hD hS hl hAe
  obtain ⟨Qx, hQ⟩ : ∃ Qx : State → Prop, Qx = MQ below (QcG g (wM g m0 m1 m2 m3 m4 m5 m6 m7 m8 m9 m10 m11 m12 now kept aside ik found carried T S) (wM g m0 m1 m2 m3 m4 m5 m6 m7 m8 m9 m10 m11 m12 now kept aside ik found carried T S) (some (.int r)) s.heap.size) args s 0 0 A := ⟨_, rfl⟩
  rw [← hQ]
  have hown : s.vm.findClass RX7 = some m.cls := hown
  have hl : lv_has ls 1 [(0, .ref m0)] := hl
  have w1 := hts (.fieldLink RX7 9 "RainVaultModel" "now" "[I") (List.mem_of_getElem? (i := 1) rfl)
  unfold fX7_isOpen at hf
  refine lv_aload_n hx hb dX7_isOpen_0 rfl (lv_at hl 0 rfl) ?_
  obtain ⟨x101, hg, hf⟩ := o1_s hf
  refine Ct.callV0 (ws' := wM g m0 m1 m2 m3 m4 m5 m6 m7 m8 m9 m10 m11 m12 now kept aside ik found carried T S) (As := []) (rest := []) (st1 := [.int x101]) (c_X7_holding l g m0 m1 m2 m3 m4 m5 m6 m7 m8 m9 m10 m11 m12 now kept aside ik found carried T S hg) (cwV 0 hts gX7_isOpen_X7_holding rfl rfl rfl q_X7_holding ⟨Nat.le_of_ble_eq_true rfl, Nat.le_of_ble_eq_true rfl⟩) ⟨hx, hb, hml, hown, hts⟩ hE hP hD hS hA 7 0 rfl rfl rfl rfl hl.1 rfl rfl (Nat.le_of_ble_eq_true rfl) dX7_isOpen_1 (fun H locs hP hD hS => ?_)
  refine lv_iconst (v := (1 : Int32)) hx hb dX7_isOpen_4 (by decide) ?_
  refine lv_aload_n hx hb dX7_isOpen_5 rfl (lv_at hl 0 rfl) ?_
  refine va_get (D := g.1) (ci := 7) (v := .ref m1) (C := RX7) (T := TX7) (N := 22) hx hb hts i_X7_isOpen_X7 hown hE.1 hP 0 rfl rfl 0 (by decide) w1 (fun _ h9 => h9) rfl dX7_isOpen_6 ?_
  refine lv_iconst (v := (3 : Int32)) hx hb dX7_isOpen_9 (by decide) ?_
  obtain ⟨x102, ex, hin, hf⟩ := rd_s hf
  refine st_iald (f := now) hx hb hE.1 hP 1 0 rfl rfl hin ex dX7_isOpen_10 ?_
  refine lv_ishl hx hb dX7_isOpen_11 ?_
  refine lv_iconst (v := (1 : Int32)) hx hb dX7_isOpen_12 (by decide) ?_
  refine lv_isub hx hb dX7_isOpen_13 ?_
  refine lv_icmp_ne (tgt := 21) hx hb dX7_isOpen_14 (by decide) (fun hc => ?_) (fun hc => ?_)
  · have hf := if_f hf hc
    refine lv_iconst (v := (0 : Int32)) hx hb dX7_isOpen_21 (by decide) ?_
    obtain rfl := Option.some.inj hf
    rw [hQ]; exact Ct.zret hx hb hr (by decide) hlocks hAe hP hD hS dX7_isOpen_22
  · have hf := if_t hf hc
    refine lv_iconst (v := (1 : Int32)) hx hb dX7_isOpen_17 (by decide) ?_
    refine lv_goto (tgt := 22) hx hb dX7_isOpen_18 (by decide) ?_
    obtain rfl := Option.some.inj hf
    rw [hQ]; exact Ct.zret hx hb hr (by decide) hlocks hAe hP hD hS dX7_isOpen_22
def fX7_open (now : Nat → Int32) : Option (Int32) := o1 (fX7_isOpen now) (fun x101 => if x101 = 0 then (some (0 : Int32)) else (some (1 : Int32)))
theorem q_X7_open : yX7_open.cls = RX7 ∧ yX7_open.cls ≠ "java/lang/invoke/MethodHandle" ∧ yX7_open.cls ≠ "java/lang/invoke/VarHandle" ∧ (parseMethodDescriptor yX7_open.desc).map (fun d => d.parameters.length) = some 0 := by decide +kernel
set_option maxHeartbeats 4000000 in
set_option maxRecDepth 100000 in
theorem c_X7_open (l : Launch) (g : gG) (m0 m1 m2 m3 m4 m5 m6 m7 m8 m9 m10 m11 m12 : Nat) (now : Nat → Int32) (kept : Nat → Int32) (aside : Nat → Int32) (ik : Int32) (found : Nat → Int32) (carried : Nat → Int32) (T : Mt) (S : Ms) {r : Int32} (hf : fX7_open now = some r) : Ct l yX7_open wsX7_open (rmm 6 132) g (wM g m0 m1 m2 m3 m4 m5 m6 m7 m8 m9 m10 m11 m12 now kept aside ik found carried T S) (wM g m0 m1 m2 m3 m4 m5 m6 m7 m8 m9 m10 m11 m12 now kept aside ik found carried T S) [.ref m0] (some (.int r)) := by
  refine Ct.mk (by decide) rfl (Nat.le_of_ble_eq_true rfl) ?_
  intro p e s m args below meth c A ls hx hb hr hml hts hown hlocks hA hE hP hD hS hl hAe
  obtain ⟨Qx, hQ⟩ : ∃ Qx : State → Prop, Qx = MQ below (QcG g (wM g m0 m1 m2 m3 m4 m5 m6 m7 m8 m9 m10 m11 m12 now kept aside ik found carried T S) (wM g m0 m1 m2 m3 m4 m5 m6 m7 m8 m9 m10 m11 m12 now kept aside ik found carried T S) (some (.int r)) s.heap.size) args s 0 0 A := ⟨_, rfl⟩
  rw [← hQ]
  have hown : s.vm.findClass RX7 = some m.cls := hown
  have hl : lv_has ls 1 [(0, .ref m0)] := hl
  unfold fX7_open at hf
  refine lv_aload_n hx hb dX7_open_0 rfl (lv_at hl 0 rfl) ?_
  obtain ⟨x101, hg, hf⟩ := o1_s hf
  refine Ct.callV0 (ws' := wM g m0 m1 m2 m3 m4 m5 m6 m7 m8 m9 m10 m11 m12 now kept aside ik found carried T S) (As := []) (rest := []) (st1 := [.int x101]) (c_X7_isOpen l g m0 m1 m2 m3 m4 m5 m6 m7 m8 m9 m10 m11 m12 now kept aside ik found carried T S hg) (cwV 0 hts gX7_open_X7_isOpen rfl rfl rfl q_X7_isOpen ⟨Nat.le_of_ble_eq_true rfl, Nat.le_of_ble_eq_true rfl⟩) ⟨hx, hb, hml, hown, hts⟩ hE hP hD hS hA 7 0 rfl rfl rfl rfl hl.1 rfl rfl (Nat.le_of_ble_eq_true rfl) dX7_open_1 (fun H locs hP hD hS => ?_)
  refine lv_if_eq (tgt := 11) hx hb dX7_open_4 (by decide) (fun hc => ?_) (fun hc => ?_)
  · have hf := if_t hf hc
    refine lv_iconst (v := (0 : Int32)) hx hb dX7_open_11 (by decide) ?_
    obtain rfl := Option.some.inj hf
    rw [hQ]; exact Ct.iret hx hb hr hlocks hAe hP hD hS dX7_open_12
  · have hf := if_f hf hc
    refine lv_iconst (v := (1 : Int32)) hx hb dX7_open_7 (by decide) ?_
    refine lv_goto (tgt := 12) hx hb dX7_open_8 (by decide) ?_
    obtain rfl := Option.some.inj hf
    rw [hQ]; exact Ct.iret hx hb hr hlocks hAe hP hD hS dX7_open_12
def fX7_hour_L2 (x1 : Int32) (x2 : Int32) (kx : (Nat → Int32) → Option (Int32 × (Nat → Int32))) : Nat → (Nat → Int32) → Int32 → Option (Int32 × (Nat → Int32))
  | 0, _, _ => none
  | k + 1, now, x3 => rd now 120 (2 : Int32) (fun x106 => if x106 ≤ x3 then (kx now) else (o1 (fX7_at x3 (2 : Int32)) (fun x107 => rd now 120 x107 (fun x108 => o1 (fX7_comesIn now x3 x1 x2) (fun x109 => wr now 120 x107 (x108 + x109) (fun f110 => fX7_hour_L2 x1 x2 kx k f110 (x3 + (1 : Int32))))))))
def fX7_hour_L40 (kx : (Nat → Int32) → Option (Int32 × (Nat → Int32))) : Nat → (Nat → Int32) → Int32 → Option (Int32 × (Nat → Int32))
  | 0, _, _ => none
  | k + 1, now, x3 => rd now 120 (2 : Int32) (fun x123 => if x123 ≤ x3 then (kx now) else (o1 (fX7_runsOver now x3) (fun x124 => o1 (fX7_leadsTo now x3) (fun x125 => o1 (fX7_at x3 (2 : Int32)) (fun x126 => rd now 120 x126 (fun x127 => wr now 120 x126 (x127 - x124) (fun f128 => if 0 ≤ x125 then (o1 (fX7_at x125 (2 : Int32)) (fun x129 => rd f128 120 x129 (fun x130 => wr f128 120 x129 (x130 + x124) (fun f131 => fX7_hour_L40 kx k f131 (x3 + (1 : Int32)))))) else (rd f128 120 (4 : Int32) (fun x132 => wr f128 120 (4 : Int32) (x132 + x124) (fun f133 => fX7_hour_L40 kx k f133 (x3 + (1 : Int32))))))))))))
def fX7_hour_L112 (kx : (Nat → Int32) → Option (Int32 × (Nat → Int32))) : Nat → (Nat → Int32) → Int32 → Option (Int32 × (Nat → Int32))
  | 0, _, _ => none
  | k + 1, now, x3 => rd now 120 (2 : Int32) (fun x143 => if x143 ≤ x3 then (kx now) else (o1 (fX7_cisternIs now x3 (2 : Int32)) (fun x144 => o1 (fX7_cisternIs now x3 (1 : Int32)) (fun x145 => o1 (fX7_at x3 (2 : Int32)) (fun x146 => rd now 120 x146 (fun x147 => wr now 120 x146 (x147 - (if (0 : Int32) < (x144 - x145) then (x144 - x145) else (0 : Int32))) (fun f148 => rd f148 120 (4 : Int32) (fun x149 => wr f148 120 (4 : Int32) (x149 + (if (0 : Int32) < (x144 - x145) then (x144 - x145) else (0 : Int32))) (fun f150 => fX7_hour_L112 kx k f150 (x3 + (1 : Int32)))))))))))
def fX7_hour_L175 (kx : (Nat → Int32) → Option (Int32 × (Nat → Int32))) : Nat → (Nat → Int32) → Int32 → Option (Int32 × (Nat → Int32))
  | 0, _, _ => none
  | k + 1, now, x3 => rd now 120 (2 : Int32) (fun x157 => if x157 ≤ x3 then (kx now) else (o1 (fX7_at x3 (2 : Int32)) (fun x158 => rd now 120 x158 (fun x159 => o1 (fX7_leaksNow now x3) (fun x160 => wr now 120 x158 (x159 - x160) (fun f161 => fX7_hour_L175 kx k f161 (x3 + (1 : Int32))))))))
def fX7_hour (now : Nat → Int32) (a1 : Int32) (a2 : Int32) : Option (Int32 × (Nat → Int32)) := fX7_hour_L2 a1 a2 (fun now111 => fX7_hour_L40 (fun now134 => fX7_hour_L112 (fun now151 => fX7_hour_L175 (fun now162 => rd now162 120 (0 : Int32) (fun x163 => wr now162 120 (0 : Int32) (x163 + (1 : Int32)) (fun f164 => o1 (fX7_open f164) (fun x165 => some (x165, f164))))) fu now151 (0 : Int32)) fu now134 (0 : Int32)) fu now111 (0 : Int32)) fu now (0 : Int32)
theorem q_X7_hour : yX7_hour.cls = RX7 ∧ yX7_hour.cls ≠ "java/lang/invoke/MethodHandle" ∧ yX7_hour.cls ≠ "java/lang/invoke/VarHandle" ∧ (parseMethodDescriptor yX7_hour.desc).map (fun d => d.parameters.length) = some 2 := by decide +kernel
theorem i_X7_hour_X7 : ∀ w ∈ u_ws RX7 TX7 22, w ∈ wsX7_hour := fun _ h => List.mem_cons_of_mem _ (List.mem_append_right _ (h))
set_option maxHeartbeats 4000000 in
set_option maxRecDepth 100000 in
theorem c_X7_hour (l : Launch) (g : gG) (m0 m1 m2 m3 m4 m5 m6 m7 m8 m9 m10 m11 m12 : Nat) (now : Nat → Int32) (kept : Nat → Int32) (aside : Nat → Int32) (ik : Int32) (found : Nat → Int32) (carried : Nat → Int32) (T : Mt) (S : Ms) (a1 : Int32) (a2 : Int32) {r : Int32} {now' : Nat → Int32} (hf : fX7_hour now a1 a2 = some (r, now')) : Ct l yX7_hour wsX7_hour (rmm 7 152) g (wM g m0 m1 m2 m3 m4 m5 m6 m7 m8 m9 m10 m11 m12 now kept aside ik found carried T S) (wM g m0 m1 m2 m3 m4 m5 m6 m7 m8 m9 m10 m11 m12 (now') kept aside ik found carried T S) [.ref m0, .int a1, .int a2] (some (.int r)) := by
  refine Ct.mk (by decide) rfl (Nat.le_of_ble_eq_true rfl) ?_
  intro p e s m args below meth c A ls hx hb hr hml hts hown hlocks hA hE hP hD hS hl hAe
  obtain ⟨Qx, hQ⟩ : ∃ Qx : State → Prop, Qx = MQ below (QcG g (wM g m0 m1 m2 m3 m4 m5 m6 m7 m8 m9 m10 m11 m12 now kept aside ik found carried T S) (wM g m0 m1 m2 m3 m4 m5 m6 m7 m8 m9 m10 m11 m12 (now') kept aside ik found carried T S) (some (.int r)) s.heap.size) args s 0 0 A := ⟨_, rfl⟩
  rw [← hQ]
  have hown : s.vm.findClass RX7 = some m.cls := hown
  have hl : lv_has ls 6 [(0, .ref m0), (1, .int a1), (2, .int a2)] := hl
  have w1 := hts (.fieldLink RX7 9 "RainVaultModel" "now" "[I") (List.mem_of_getElem? (i := 1) rfl)
  have w2 := hts (.methodLink RX7 109 Lib.Math.max.name) (List.mem_of_getElem? (i := 2) rfl)
  have w3 := hts (.static Lib.Math.max.name) (List.mem_of_getElem? (i := 3) rfl)
  have w4 := hts (.initialized "java/lang/Math") (List.mem_of_getElem? (i := 4) rfl)
  have w5 := hts (.code Lib.Math.max.name Lib.Math.max.code 2 (some .int)) (List.mem_of_getElem? (i := 5) rfl)
  have L2 : ∀ (x1 : Int32) (x2 : Int32) (kx : (Nat → Int32) → Option (Int32 × (Nat → Int32))) (k : Nat) (now : Nat → Int32) (x3 : Int32) (H : Heap) (locs : List Loc) (ls : Array Slot), fX7_hour_L2 x1 x2 kx k now x3 = some (r, now') → va_P g.1 vwK (wM g m0 m1 m2 m3 m4 m5 m6 m7 m8 m9 m10 m11 m12 now kept aside ik found carried T S) H → va_D A (wM g m0 m1 m2 m3 m4 m5 m6 m7 m8 m9 m10 m11 m12 now kept aside ik found carried T S) → va_S A s.heap H locs → lv_has ls 6 [(0, .ref m0), (1, .int x1), (2, .int x2), (3, .int x3)] → (∀ (now : Nat → Int32) (H : Heap) (locs : List Loc) (ls : Array Slot), kx now = some (r, now') → va_P g.1 vwK (wM g m0 m1 m2 m3 m4 m5 m6 m7 m8 m9 m10 m11 m12 now kept aside ik found carried T S) H → va_D A (wM g m0 m1 m2 m3 m4 m5 m6 m7 m8 m9 m10 m11 m12 now kept aside ik found carried T S) → va_S A s.heap H locs → lv_has ls 6 [(0, .ref m0)] → W p l e (rmm 7 152) s m args below meth c H locs 0 0 Qx (F0 m 38 ls [])) → W p l e (rmm 7 152) s m args below meth c H locs 0 0 Qx (F0 m 2 ls []) := by
    intro x1 x2 kx k
    induction k with
    | zero => intro now x3 H locs ls hf; exact nomatch (show (none : Option (Int32 × (Nat → Int32))) = some _ from hf)
    | succ k ih =>
      intro now x3 H locs ls hf hP hD hS hl hk
      rw [fX7_hour_L2] at hf
      refine lv_iload_n hx hb dX7_hour_2 rfl (lv_at hl 3 rfl) ?_
      refine lv_aload_n hx hb dX7_hour_3 rfl (lv_at hl 0 rfl) ?_
      refine va_get (D := g.1) (ci := 7) (v := .ref m1) (C := RX7) (T := TX7) (N := 22) hx hb hts i_X7_hour_X7 hown hE.1 hP 0 rfl rfl 0 (by decide) w1 (fun _ h9 => h9) rfl dX7_hour_4 ?_
      refine lv_iconst (v := (2 : Int32)) hx hb dX7_hour_7 (by decide) ?_
      obtain ⟨x106, ex, hin, hf⟩ := rd_s hf
      refine st_iald (f := now) hx hb hE.1 hP 1 0 rfl rfl hin ex dX7_hour_8 ?_
      refine lv_icmp_ge (tgt := 38) hx hb dX7_hour_9 (by decide) (fun hc => ?_) (fun hc => ?_)
      · have hf := if_t hf hc
        exact hk _ _ _ _  hf hP hD hS (lv_sub hl [0] rfl)
      · have hf := if_f hf hc
        refine lv_aload_n hx hb dX7_hour_12 rfl (lv_at hl 0 rfl) ?_
        refine va_get (D := g.1) (ci := 7) (v := .ref m1) (C := RX7) (T := TX7) (N := 22) hx hb hts i_X7_hour_X7 hown hE.1 hP 0 rfl rfl 0 (by decide) w1 (fun _ h9 => h9) rfl dX7_hour_13 ?_
        refine lv_iload_n hx hb dX7_hour_16 rfl (lv_at hl 3 rfl) ?_
        refine lv_iconst (v := (2 : Int32)) hx hb dX7_hour_17 (by decide) ?_
        obtain ⟨x107, hg, hf⟩ := o1_s hf
        refine Ct.callS (ws' := wM g m0 m1 m2 m3 m4 m5 m6 m7 m8 m9 m10 m11 m12 now kept aside ik found carried T S) (As := [.int x3, .int (2 : Int32)]) (rest := [.ref m1]) (st1 := [.int x107, .ref m1]) (c_X7_at l g x3 (2 : Int32) hg) (va_cwS 2 hts gX7_hour_X7_at rfl rfl rfl q_X7_at.2 ⟨Nat.le_of_ble_eq_true rfl, Nat.le_of_ble_eq_true rfl⟩) ⟨hx, hb, hml, hown, hts⟩ hE hP hD hS hA [] rfl rfl rfl rfl rfl hl.1 rfl rfl (Nat.le_of_ble_eq_true rfl) dX7_hour_18 (fun H locs hP hD hS => ?_)
        refine lv_dup2_11 hx hb dX7_hour_21 rfl rfl ?_
        obtain ⟨x108, ex, hin, hf⟩ := rd_s hf
        refine st_iald (f := now) hx hb hE.1 hP 1 0 rfl rfl hin ex dX7_hour_22 ?_
        refine lv_aload_n hx hb dX7_hour_23 rfl (lv_at hl 0 rfl) ?_
        refine lv_iload_n hx hb dX7_hour_24 rfl (lv_at hl 3 rfl) ?_
        refine lv_iload_n hx hb dX7_hour_25 rfl (lv_at hl 1 rfl) ?_
        refine lv_iload_n hx hb dX7_hour_26 rfl (lv_at hl 2 rfl) ?_
        obtain ⟨x109, hg, hf⟩ := o1_s hf
        refine Ct.callV0 (ws' := wM g m0 m1 m2 m3 m4 m5 m6 m7 m8 m9 m10 m11 m12 now kept aside ik found carried T S) (As := [.int x3, .int x1, .int x2]) (rest := [.int x108, .int x107, .ref m1]) (st1 := [.int x109, .int x108, .int x107, .ref m1]) (c_X7_comesIn l g m0 m1 m2 m3 m4 m5 m6 m7 m8 m9 m10 m11 m12 now kept aside ik found carried T S x3 x1 x2 hg) (cwV 3 hts gX7_hour_X7_comesIn rfl rfl rfl q_X7_comesIn ⟨Nat.le_of_ble_eq_true rfl, Nat.le_of_ble_eq_true rfl⟩) ⟨hx, hb, hml, hown, hts⟩ hE hP hD hS hA 7 0 rfl rfl rfl rfl hl.1 rfl rfl (Nat.le_of_ble_eq_true rfl) dX7_hour_27 (fun H locs hP hD hS => ?_)
        refine lv_iadd hx hb dX7_hour_30 ?_
        obtain ⟨f110, ef, hin, hf⟩ := wr_s hf
        refine st_iast (ws' := wM g m0 m1 m2 m3 m4 m5 m6 m7 m8 m9 m10 m11 m12 f110 kept aside ik found carried T S) (f := now) (f2 := f110) hx hb hE.1 hP hD hS 1 0 rfl rfl hin ef rfl dX7_hour_31 (fun H locs hP hD hS => ?_)
        refine lv_iinc (v := (x3 + (1 : Int32))) (lv' := [(3, .int (x3 + (1 : Int32))), (0, .ref m0), (1, .int x1), (2, .int x2)]) hx hb dX7_hour_32 hl (k := 3) rfl rfl (by decide) rfl (fun ls hl => ?_)
        refine lv_goto (tgt := 2) hx hb dX7_hour_35 (by decide) ?_
        exact ih _ _ _ _ _  hf hP hD hS (lv_sub hl [1, 2, 3, 0] rfl) hk
  have L40 : ∀ (kx : (Nat → Int32) → Option (Int32 × (Nat → Int32))) (k : Nat) (now : Nat → Int32) (x3 : Int32) (H : Heap) (locs : List Loc) (ls : Array Slot), fX7_hour_L40 kx k now x3 = some (r, now') → va_P g.1 vwK (wM g m0 m1 m2 m3 m4 m5 m6 m7 m8 m9 m10 m11 m12 now kept aside ik found carried T S) H → va_D A (wM g m0 m1 m2 m3 m4 m5 m6 m7 m8 m9 m10 m11 m12 now kept aside ik found carried T S) → va_S A s.heap H locs → lv_has ls 6 [(0, .ref m0), (3, .int x3)] → (∀ (now : Nat → Int32) (H : Heap) (locs : List Loc) (ls : Array Slot), kx now = some (r, now') → va_P g.1 vwK (wM g m0 m1 m2 m3 m4 m5 m6 m7 m8 m9 m10 m11 m12 now kept aside ik found carried T S) H → va_D A (wM g m0 m1 m2 m3 m4 m5 m6 m7 m8 m9 m10 m11 m12 now kept aside ik found carried T S) → va_S A s.heap H locs → lv_has ls 6 [(0, .ref m0)] → W p l e (rmm 7 152) s m args below meth c H locs 0 0 Qx (F0 m 110 ls [])) → W p l e (rmm 7 152) s m args below meth c H locs 0 0 Qx (F0 m 40 ls []) := by
    intro kx k
    induction k with
    | zero => intro now x3 H locs ls hf; exact nomatch (show (none : Option (Int32 × (Nat → Int32))) = some _ from hf)
    | succ k ih =>
      intro now x3 H locs ls hf hP hD hS hl hk
      rw [fX7_hour_L40] at hf
      refine lv_iload_n hx hb dX7_hour_40 rfl (lv_at hl 1 rfl) ?_
      refine lv_aload_n hx hb dX7_hour_41 rfl (lv_at hl 0 rfl) ?_
      refine va_get (D := g.1) (ci := 7) (v := .ref m1) (C := RX7) (T := TX7) (N := 22) hx hb hts i_X7_hour_X7 hown hE.1 hP 0 rfl rfl 0 (by decide) w1 (fun _ h9 => h9) rfl dX7_hour_42 ?_
      refine lv_iconst (v := (2 : Int32)) hx hb dX7_hour_45 (by decide) ?_
      obtain ⟨x123, ex, hin, hf⟩ := rd_s hf
      refine st_iald (f := now) hx hb hE.1 hP 1 0 rfl rfl hin ex dX7_hour_46 ?_
      refine lv_icmp_ge (tgt := 110) hx hb dX7_hour_47 (by decide) (fun hc => ?_) (fun hc => ?_)
      · have hf := if_t hf hc
        exact hk _ _ _ _  hf hP hD hS (lv_sub hl [0] rfl)
      · have hf := if_f hf hc
        refine lv_aload_n hx hb dX7_hour_50 rfl (lv_at hl 0 rfl) ?_
        refine lv_iload_n hx hb dX7_hour_51 rfl (lv_at hl 1 rfl) ?_
        obtain ⟨x124, hg, hf⟩ := o1_s hf
        refine Ct.callV0 (ws' := wM g m0 m1 m2 m3 m4 m5 m6 m7 m8 m9 m10 m11 m12 now kept aside ik found carried T S) (As := [.int x3]) (rest := []) (st1 := [.int x124]) (c_X7_runsOver l g m0 m1 m2 m3 m4 m5 m6 m7 m8 m9 m10 m11 m12 now kept aside ik found carried T S x3 hg) (cwV 1 hts gX7_hour_X7_runsOver rfl rfl rfl q_X7_runsOver ⟨Nat.le_of_ble_eq_true rfl, Nat.le_of_ble_eq_true rfl⟩) ⟨hx, hb, hml, hown, hts⟩ hE hP hD hS hA 7 0 rfl rfl rfl rfl hl.1 rfl rfl (Nat.le_of_ble_eq_true rfl) dX7_hour_52 (fun H locs hP hD hS => ?_)
        refine lv_istore (lv' := [(4, .int x124), (0, .ref m0), (3, .int x3)]) hx hb dX7_hour_55 hl (by decide) rfl (fun ls hl => ?_)
        refine lv_aload_n hx hb dX7_hour_57 rfl (lv_at hl 1 rfl) ?_
        refine lv_iload_n hx hb dX7_hour_58 rfl (lv_at hl 2 rfl) ?_
        obtain ⟨x125, hg, hf⟩ := o1_s hf
        refine Ct.callV0 (ws' := wM g m0 m1 m2 m3 m4 m5 m6 m7 m8 m9 m10 m11 m12 now kept aside ik found carried T S) (As := [.int x3]) (rest := []) (st1 := [.int x125]) (c_X7_leadsTo l g m0 m1 m2 m3 m4 m5 m6 m7 m8 m9 m10 m11 m12 now kept aside ik found carried T S x3 hg) (cwV 1 hts gX7_hour_X7_leadsTo rfl rfl rfl q_X7_leadsTo ⟨Nat.le_of_ble_eq_true rfl, Nat.le_of_ble_eq_true rfl⟩) ⟨hx, hb, hml, hown, hts⟩ hE hP hD hS hA 7 0 rfl rfl rfl rfl hl.1 rfl rfl (Nat.le_of_ble_eq_true rfl) dX7_hour_59 (fun H locs hP hD hS => ?_)
        refine lv_istore (lv' := [(5, .int x125), (4, .int x124), (0, .ref m0), (3, .int x3)]) hx hb dX7_hour_62 hl (by decide) rfl (fun ls hl => ?_)
        refine lv_aload_n hx hb dX7_hour_64 rfl (lv_at hl 2 rfl) ?_
        refine va_get (D := g.1) (ci := 7) (v := .ref m1) (C := RX7) (T := TX7) (N := 22) hx hb hts i_X7_hour_X7 hown hE.1 hP 0 rfl rfl 0 (by decide) w1 (fun _ h9 => h9) rfl dX7_hour_65 ?_
        refine lv_iload_n hx hb dX7_hour_68 rfl (lv_at hl 3 rfl) ?_
        refine lv_iconst (v := (2 : Int32)) hx hb dX7_hour_69 (by decide) ?_
        obtain ⟨x126, hg, hf⟩ := o1_s hf
        refine Ct.callS (ws' := wM g m0 m1 m2 m3 m4 m5 m6 m7 m8 m9 m10 m11 m12 now kept aside ik found carried T S) (As := [.int x3, .int (2 : Int32)]) (rest := [.ref m1]) (st1 := [.int x126, .ref m1]) (c_X7_at l g x3 (2 : Int32) hg) (va_cwS 2 hts gX7_hour_X7_at rfl rfl rfl q_X7_at.2 ⟨Nat.le_of_ble_eq_true rfl, Nat.le_of_ble_eq_true rfl⟩) ⟨hx, hb, hml, hown, hts⟩ hE hP hD hS hA [] rfl rfl rfl rfl rfl hl.1 rfl rfl (Nat.le_of_ble_eq_true rfl) dX7_hour_70 (fun H locs hP hD hS => ?_)
        refine lv_dup2_11 hx hb dX7_hour_73 rfl rfl ?_
        obtain ⟨x127, ex, hin, hf⟩ := rd_s hf
        refine st_iald (f := now) hx hb hE.1 hP 1 0 rfl rfl hin ex dX7_hour_74 ?_
        refine lv_iload hx hb dX7_hour_75 (lv_at hl 1 rfl) ?_
        refine lv_isub hx hb dX7_hour_77 ?_
        obtain ⟨f128, ef, hin, hf⟩ := wr_s hf
        refine st_iast (ws' := wM g m0 m1 m2 m3 m4 m5 m6 m7 m8 m9 m10 m11 m12 f128 kept aside ik found carried T S) (f := now) (f2 := f128) hx hb hE.1 hP hD hS 1 0 rfl rfl hin ef rfl dX7_hour_78 (fun H locs hP hD hS => ?_)
        refine lv_aload_n hx hb dX7_hour_79 rfl (lv_at hl 2 rfl) ?_
        refine va_get (D := g.1) (ci := 7) (v := .ref m1) (C := RX7) (T := TX7) (N := 22) hx hb hts i_X7_hour_X7 hown hE.1 hP 0 rfl rfl 0 (by decide) w1 (fun _ h9 => h9) rfl dX7_hour_80 ?_
        refine lv_iload hx hb dX7_hour_83 (lv_at hl 0 rfl) ?_
        refine lv_if_ge (tgt := 92) hx hb dX7_hour_85 (by decide) (fun hc => ?_) (fun hc => ?_)
        · have hf := if_t hf hc
          refine lv_iload hx hb dX7_hour_92 (lv_at hl 0 rfl) ?_
          refine lv_iconst (v := (2 : Int32)) hx hb dX7_hour_94 (by decide) ?_
          obtain ⟨x129, hg, hf⟩ := o1_s hf
          refine Ct.callS (ws' := wM g m0 m1 m2 m3 m4 m5 m6 m7 m8 m9 m10 m11 m12 f128 kept aside ik found carried T S) (As := [.int x125, .int (2 : Int32)]) (rest := [.ref m1]) (st1 := [.int x129, .ref m1]) (c_X7_at l g x125 (2 : Int32) hg) (va_cwS 2 hts gX7_hour_X7_at rfl rfl rfl q_X7_at.2 ⟨Nat.le_of_ble_eq_true rfl, Nat.le_of_ble_eq_true rfl⟩) ⟨hx, hb, hml, hown, hts⟩ hE hP hD hS hA [] rfl rfl rfl rfl rfl hl.1 rfl rfl (Nat.le_of_ble_eq_true rfl) dX7_hour_95 (fun H locs hP hD hS => ?_)
          refine lv_dup2_11 hx hb dX7_hour_98 rfl rfl ?_
          obtain ⟨x130, ex, hin, hf⟩ := rd_s hf
          refine st_iald (f := f128) hx hb hE.1 hP 1 0 rfl rfl hin ex dX7_hour_99 ?_
          refine lv_iload hx hb dX7_hour_100 (lv_at hl 1 rfl) ?_
          refine lv_iadd hx hb dX7_hour_102 ?_
          obtain ⟨f131, ef, hin, hf⟩ := wr_s hf
          refine st_iast (ws' := wM g m0 m1 m2 m3 m4 m5 m6 m7 m8 m9 m10 m11 m12 f131 kept aside ik found carried T S) (f := f128) (f2 := f131) hx hb hE.1 hP hD hS 1 0 rfl rfl hin ef rfl dX7_hour_103 (fun H locs hP hD hS => ?_)
          refine lv_iinc (v := (x3 + (1 : Int32))) (lv' := [(3, .int (x3 + (1 : Int32))), (5, .int x125), (4, .int x124), (0, .ref m0)]) hx hb dX7_hour_104 hl (k := 3) rfl rfl (by decide) rfl (fun ls hl => ?_)
          refine lv_goto (tgt := 40) hx hb dX7_hour_107 (by decide) ?_
          exact ih _ _ _ _ _  hf hP hD hS (lv_sub hl [3, 0] rfl) hk
        · have hf := if_f hf hc
          refine lv_iconst (v := (4 : Int32)) hx hb dX7_hour_88 (by decide) ?_
          refine lv_goto (tgt := 98) hx hb dX7_hour_89 (by decide) ?_
          refine lv_dup2_11 hx hb dX7_hour_98 rfl rfl ?_
          obtain ⟨x132, ex, hin, hf⟩ := rd_s hf
          refine st_iald (f := f128) hx hb hE.1 hP 1 0 rfl rfl hin ex dX7_hour_99 ?_
          refine lv_iload hx hb dX7_hour_100 (lv_at hl 1 rfl) ?_
          refine lv_iadd hx hb dX7_hour_102 ?_
          obtain ⟨f133, ef, hin, hf⟩ := wr_s hf
          refine st_iast (ws' := wM g m0 m1 m2 m3 m4 m5 m6 m7 m8 m9 m10 m11 m12 f133 kept aside ik found carried T S) (f := f128) (f2 := f133) hx hb hE.1 hP hD hS 1 0 rfl rfl hin ef rfl dX7_hour_103 (fun H locs hP hD hS => ?_)
          refine lv_iinc (v := (x3 + (1 : Int32))) (lv' := [(3, .int (x3 + (1 : Int32))), (5, .int x125), (4, .int x124), (0, .ref m0)]) hx hb dX7_hour_104 hl (k := 3) rfl rfl (by decide) rfl (fun ls hl => ?_)
          refine lv_goto (tgt := 40) hx hb dX7_hour_107 (by decide) ?_
          exact ih _ _ _ _ _  hf hP hD hS (lv_sub hl [3, 0] rfl) hk
  have L112 : ∀ (kx : (Nat → Int32) → Option (Int32 × (Nat → Int32))) (k : Nat) (now : Nat → Int32) (x3 : Int32) (H : Heap) (locs : List Loc) (ls : Array Slot), fX7_hour_L112 kx k now x3 = some (r, now') → va_P g.1 vwK (wM g m0 m1 m2 m3 m4 m5 m6 m7 m8 m9 m10 m11 m12 now kept aside ik found carried T S) H → va_D A (wM g m0 m1 m2 m3 m4 m5 m6 m7 m8 m9 m10 m11 m12 now kept aside ik found carried T S) → va_S A s.heap H locs → lv_has ls 6 [(0, .ref m0), (3, .int x3)] → (∀ (now : Nat → Int32) (H : Heap) (locs : List Loc) (ls : Array Slot), kx now = some (r, now') → va_P g.1 vwK (wM g m0 m1 m2 m3 m4 m5 m6 m7 m8 m9 m10 m11 m12 now kept aside ik found carried T S) H → va_D A (wM g m0 m1 m2 m3 m4 m5 m6 m7 m8 m9 m10 m11 m12 now kept aside ik found carried T S) → va_S A s.heap H locs → lv_has ls 6 [(0, .ref m0)] → W p l e (rmm 7 152) s m args below meth c H locs 0 0 Qx (F0 m 173 ls [])) → W p l e (rmm 7 152) s m args below meth c H locs 0 0 Qx (F0 m 112 ls []) := by
    intro kx k
    induction k with
    | zero => intro now x3 H locs ls hf; exact nomatch (show (none : Option (Int32 × (Nat → Int32))) = some _ from hf)
    | succ k ih =>
      intro now x3 H locs ls hf hP hD hS hl hk
      rw [fX7_hour_L112] at hf
      refine lv_iload_n hx hb dX7_hour_112 rfl (lv_at hl 1 rfl) ?_
      refine lv_aload_n hx hb dX7_hour_113 rfl (lv_at hl 0 rfl) ?_
      refine va_get (D := g.1) (ci := 7) (v := .ref m1) (C := RX7) (T := TX7) (N := 22) hx hb hts i_X7_hour_X7 hown hE.1 hP 0 rfl rfl 0 (by decide) w1 (fun _ h9 => h9) rfl dX7_hour_114 ?_
      refine lv_iconst (v := (2 : Int32)) hx hb dX7_hour_117 (by decide) ?_
      obtain ⟨x143, ex, hin, hf⟩ := rd_s hf
      refine st_iald (f := now) hx hb hE.1 hP 1 0 rfl rfl hin ex dX7_hour_118 ?_
      refine lv_icmp_ge (tgt := 173) hx hb dX7_hour_119 (by decide) (fun hc => ?_) (fun hc => ?_)
      · have hf := if_t hf hc
        exact hk _ _ _ _  hf hP hD hS (lv_sub hl [0] rfl)
      · have hf := if_f hf hc
        refine lv_iconst (v := (0 : Int32)) hx hb dX7_hour_122 (by decide) ?_
        refine lv_aload_n hx hb dX7_hour_123 rfl (lv_at hl 0 rfl) ?_
        refine lv_iload_n hx hb dX7_hour_124 rfl (lv_at hl 1 rfl) ?_
        refine lv_iconst (v := (2 : Int32)) hx hb dX7_hour_125 (by decide) ?_
        obtain ⟨x144, hg, hf⟩ := o1_s hf
        refine Ct.callV0 (ws' := wM g m0 m1 m2 m3 m4 m5 m6 m7 m8 m9 m10 m11 m12 now kept aside ik found carried T S) (As := [.int x3, .int (2 : Int32)]) (rest := [.int (0 : Int32)]) (st1 := [.int x144, .int (0 : Int32)]) (c_X7_cisternIs l g m0 m1 m2 m3 m4 m5 m6 m7 m8 m9 m10 m11 m12 now kept aside ik found carried T S x3 (2 : Int32) hg) (cwV 2 hts gX7_hour_X7_cisternIs rfl rfl rfl q_X7_cisternIs ⟨Nat.le_of_ble_eq_true rfl, Nat.le_of_ble_eq_true rfl⟩) ⟨hx, hb, hml, hown, hts⟩ hE hP hD hS hA 7 0 rfl rfl rfl rfl hl.1 rfl rfl (Nat.le_of_ble_eq_true rfl) dX7_hour_126 (fun H locs hP hD hS => ?_)
        refine lv_aload_n hx hb dX7_hour_129 rfl (lv_at hl 0 rfl) ?_
        refine lv_iload_n hx hb dX7_hour_130 rfl (lv_at hl 1 rfl) ?_
        refine lv_iconst (v := (1 : Int32)) hx hb dX7_hour_131 (by decide) ?_
        obtain ⟨x145, hg, hf⟩ := o1_s hf
        refine Ct.callV0 (ws' := wM g m0 m1 m2 m3 m4 m5 m6 m7 m8 m9 m10 m11 m12 now kept aside ik found carried T S) (As := [.int x3, .int (1 : Int32)]) (rest := [.int x144, .int (0 : Int32)]) (st1 := [.int x145, .int x144, .int (0 : Int32)]) (c_X7_cisternIs l g m0 m1 m2 m3 m4 m5 m6 m7 m8 m9 m10 m11 m12 now kept aside ik found carried T S x3 (1 : Int32) hg) (cwV 2 hts gX7_hour_X7_cisternIs rfl rfl rfl q_X7_cisternIs ⟨Nat.le_of_ble_eq_true rfl, Nat.le_of_ble_eq_true rfl⟩) ⟨hx, hb, hml, hown, hts⟩ hE hP hD hS hA 7 0 rfl rfl rfl rfl hl.1 rfl rfl (Nat.le_of_ble_eq_true rfl) dX7_hour_132 (fun H locs hP hD hS => ?_)
        refine lv_isub hx hb dX7_hour_135 ?_
        refine va_mmax hx hb (hml.trans hl.1.symm) hown w2 w3 w4 w5 (Nat.le_of_ble_eq_true rfl) (Nat.le_of_ble_eq_true rfl) (Nat.zero_le _) (Nat.zero_le _) dX7_hour_136 ?_
        refine lv_istore (lv' := [(4, .int (if (0 : Int32) < (x144 - x145) then (x144 - x145) else (0 : Int32))), (0, .ref m0), (3, .int x3)]) hx hb dX7_hour_139 hl (by decide) rfl (fun ls hl => ?_)
        refine lv_aload_n hx hb dX7_hour_141 rfl (lv_at hl 1 rfl) ?_
        refine va_get (D := g.1) (ci := 7) (v := .ref m1) (C := RX7) (T := TX7) (N := 22) hx hb hts i_X7_hour_X7 hown hE.1 hP 0 rfl rfl 0 (by decide) w1 (fun _ h9 => h9) rfl dX7_hour_142 ?_
        refine lv_iload_n hx hb dX7_hour_145 rfl (lv_at hl 2 rfl) ?_
        refine lv_iconst (v := (2 : Int32)) hx hb dX7_hour_146 (by decide) ?_
        obtain ⟨x146, hg, hf⟩ := o1_s hf
        refine Ct.callS (ws' := wM g m0 m1 m2 m3 m4 m5 m6 m7 m8 m9 m10 m11 m12 now kept aside ik found carried T S) (As := [.int x3, .int (2 : Int32)]) (rest := [.ref m1]) (st1 := [.int x146, .ref m1]) (c_X7_at l g x3 (2 : Int32) hg) (va_cwS 2 hts gX7_hour_X7_at rfl rfl rfl q_X7_at.2 ⟨Nat.le_of_ble_eq_true rfl, Nat.le_of_ble_eq_true rfl⟩) ⟨hx, hb, hml, hown, hts⟩ hE hP hD hS hA [] rfl rfl rfl rfl rfl hl.1 rfl rfl (Nat.le_of_ble_eq_true rfl) dX7_hour_147 (fun H locs hP hD hS => ?_)
        refine lv_dup2_11 hx hb dX7_hour_150 rfl rfl ?_
        obtain ⟨x147, ex, hin, hf⟩ := rd_s hf
        refine st_iald (f := now) hx hb hE.1 hP 1 0 rfl rfl hin ex dX7_hour_151 ?_
        refine lv_iload hx hb dX7_hour_152 (lv_at hl 0 rfl) ?_
        refine lv_isub hx hb dX7_hour_154 ?_
        obtain ⟨f148, ef, hin, hf⟩ := wr_s hf
        refine st_iast (ws' := wM g m0 m1 m2 m3 m4 m5 m6 m7 m8 m9 m10 m11 m12 f148 kept aside ik found carried T S) (f := now) (f2 := f148) hx hb hE.1 hP hD hS 1 0 rfl rfl hin ef rfl dX7_hour_155 (fun H locs hP hD hS => ?_)
        refine lv_aload_n hx hb dX7_hour_156 rfl (lv_at hl 1 rfl) ?_
        refine va_get (D := g.1) (ci := 7) (v := .ref m1) (C := RX7) (T := TX7) (N := 22) hx hb hts i_X7_hour_X7 hown hE.1 hP 0 rfl rfl 0 (by decide) w1 (fun _ h9 => h9) rfl dX7_hour_157 ?_
        refine lv_iconst (v := (4 : Int32)) hx hb dX7_hour_160 (by decide) ?_
        refine lv_dup2_11 hx hb dX7_hour_161 rfl rfl ?_
        obtain ⟨x149, ex, hin, hf⟩ := rd_s hf
        refine st_iald (f := f148) hx hb hE.1 hP 1 0 rfl rfl hin ex dX7_hour_162 ?_
        refine lv_iload hx hb dX7_hour_163 (lv_at hl 0 rfl) ?_
        refine lv_iadd hx hb dX7_hour_165 ?_
        obtain ⟨f150, ef, hin, hf⟩ := wr_s hf
        refine st_iast (ws' := wM g m0 m1 m2 m3 m4 m5 m6 m7 m8 m9 m10 m11 m12 f150 kept aside ik found carried T S) (f := f148) (f2 := f150) hx hb hE.1 hP hD hS 1 0 rfl rfl hin ef rfl dX7_hour_166 (fun H locs hP hD hS => ?_)
        refine lv_iinc (v := (x3 + (1 : Int32))) (lv' := [(3, .int (x3 + (1 : Int32))), (4, .int (if (0 : Int32) < (x144 - x145) then (x144 - x145) else (0 : Int32))), (0, .ref m0)]) hx hb dX7_hour_167 hl (k := 2) rfl rfl (by decide) rfl (fun ls hl => ?_)
        refine lv_goto (tgt := 112) hx hb dX7_hour_170 (by decide) ?_
        exact ih _ _ _ _ _  hf hP hD hS (lv_sub hl [2, 0] rfl) hk
  have L175 : ∀ (kx : (Nat → Int32) → Option (Int32 × (Nat → Int32))) (k : Nat) (now : Nat → Int32) (x3 : Int32) (H : Heap) (locs : List Loc) (ls : Array Slot), fX7_hour_L175 kx k now x3 = some (r, now') → va_P g.1 vwK (wM g m0 m1 m2 m3 m4 m5 m6 m7 m8 m9 m10 m11 m12 now kept aside ik found carried T S) H → va_D A (wM g m0 m1 m2 m3 m4 m5 m6 m7 m8 m9 m10 m11 m12 now kept aside ik found carried T S) → va_S A s.heap H locs → lv_has ls 6 [(0, .ref m0), (3, .int x3)] → (∀ (now : Nat → Int32) (H : Heap) (locs : List Loc) (ls : Array Slot), kx now = some (r, now') → va_P g.1 vwK (wM g m0 m1 m2 m3 m4 m5 m6 m7 m8 m9 m10 m11 m12 now kept aside ik found carried T S) H → va_D A (wM g m0 m1 m2 m3 m4 m5 m6 m7 m8 m9 m10 m11 m12 now kept aside ik found carried T S) → va_S A s.heap H locs → lv_has ls 6 [(0, .ref m0)] → W p l e (rmm 7 152) s m args below meth c H locs 0 0 Qx (F0 m 209 ls [])) → W p l e (rmm 7 152) s m args below meth c H locs 0 0 Qx (F0 m 175 ls []) := by
    intro kx k
    induction k with
    | zero => intro now x3 H locs ls hf; exact nomatch (show (none : Option (Int32 × (Nat → Int32))) = some _ from hf)
    | succ k ih =>
      intro now x3 H locs ls hf hP hD hS hl hk
      rw [fX7_hour_L175] at hf
      refine lv_iload_n hx hb dX7_hour_175 rfl (lv_at hl 1 rfl) ?_
      refine lv_aload_n hx hb dX7_hour_176 rfl (lv_at hl 0 rfl) ?_
      refine va_get (D := g.1) (ci := 7) (v := .ref m1) (C := RX7) (T := TX7) (N := 22) hx hb hts i_X7_hour_X7 hown hE.1 hP 0 rfl rfl 0 (by decide) w1 (fun _ h9 => h9) rfl dX7_hour_177 ?_
      refine lv_iconst (v := (2 : Int32)) hx hb dX7_hour_180 (by decide) ?_
      obtain ⟨x157, ex, hin, hf⟩ := rd_s hf
      refine st_iald (f := now) hx hb hE.1 hP 1 0 rfl rfl hin ex dX7_hour_181 ?_
      refine lv_icmp_ge (tgt := 209) hx hb dX7_hour_182 (by decide) (fun hc => ?_) (fun hc => ?_)
      · have hf := if_t hf hc
        exact hk _ _ _ _  hf hP hD hS (lv_sub hl [0] rfl)
      · have hf := if_f hf hc
        refine lv_aload_n hx hb dX7_hour_185 rfl (lv_at hl 0 rfl) ?_
        refine va_get (D := g.1) (ci := 7) (v := .ref m1) (C := RX7) (T := TX7) (N := 22) hx hb hts i_X7_hour_X7 hown hE.1 hP 0 rfl rfl 0 (by decide) w1 (fun _ h9 => h9) rfl dX7_hour_186 ?_
        refine lv_iload_n hx hb dX7_hour_189 rfl (lv_at hl 1 rfl) ?_
        refine lv_iconst (v := (2 : Int32)) hx hb dX7_hour_190 (by decide) ?_
        obtain ⟨x158, hg, hf⟩ := o1_s hf
        refine Ct.callS (ws' := wM g m0 m1 m2 m3 m4 m5 m6 m7 m8 m9 m10 m11 m12 now kept aside ik found carried T S) (As := [.int x3, .int (2 : Int32)]) (rest := [.ref m1]) (st1 := [.int x158, .ref m1]) (c_X7_at l g x3 (2 : Int32) hg) (va_cwS 2 hts gX7_hour_X7_at rfl rfl rfl q_X7_at.2 ⟨Nat.le_of_ble_eq_true rfl, Nat.le_of_ble_eq_true rfl⟩) ⟨hx, hb, hml, hown, hts⟩ hE hP hD hS hA [] rfl rfl rfl rfl rfl hl.1 rfl rfl (Nat.le_of_ble_eq_true rfl) dX7_hour_191 (fun H locs hP hD hS => ?_)
        refine lv_dup2_11 hx hb dX7_hour_194 rfl rfl ?_
        obtain ⟨x159, ex, hin, hf⟩ := rd_s hf
        refine st_iald (f := now) hx hb hE.1 hP 1 0 rfl rfl hin ex dX7_hour_195 ?_
        refine lv_aload_n hx hb dX7_hour_196 rfl (lv_at hl 0 rfl) ?_
        refine lv_iload_n hx hb dX7_hour_197 rfl (lv_at hl 1 rfl) ?_
        obtain ⟨x160, hg, hf⟩ := o1_s hf
        refine Ct.callV0 (ws' := wM g m0 m1 m2 m3 m4 m5 m6 m7 m8 m9 m10 m11 m12 now kept aside ik found carried T S) (As := [.int x3]) (rest := [.int x159, .int x158, .ref m1]) (st1 := [.int x160, .int x159, .int x158, .ref m1]) (c_X7_leaksNow l g m0 m1 m2 m3 m4 m5 m6 m7 m8 m9 m10 m11 m12 now kept aside ik found carried T S x3 hg) (cwV 1 hts gX7_hour_X7_leaksNow rfl rfl rfl q_X7_leaksNow ⟨Nat.le_of_ble_eq_true rfl, Nat.le_of_ble_eq_true rfl⟩) ⟨hx, hb, hml, hown, hts⟩ hE hP hD hS hA 7 0 rfl rfl rfl rfl hl.1 rfl rfl (Nat.le_of_ble_eq_true rfl) dX7_hour_198 (fun H locs hP hD hS => ?_)
        refine lv_isub hx hb dX7_hour_201 ?_
        obtain ⟨f161, ef, hin, hf⟩ := wr_s hf
        refine st_iast (ws' := wM g m0 m1 m2 m3 m4 m5 m6 m7 m8 m9 m10 m11 m12 f161 kept aside ik found carried T S) (f := now) (f2 := f161) hx hb hE.1 hP hD hS 1 0 rfl rfl hin ef rfl dX7_hour_202 (fun H locs hP hD hS => ?_)
        refine lv_iinc (v := (x3 + (1 : Int32))) (lv' := [(3, .int (x3 + (1 : Int32))), (0, .ref m0)]) hx hb dX7_hour_203 hl (k := 1) rfl rfl (by decide) rfl (fun ls hl => ?_)
        refine lv_goto (tgt := 175) hx hb dX7_hour_206 (by decide) ?_
        exact ih _ _ _ _ _  hf hP hD hS (lv_sub hl [1, 0] rfl) hk
  unfold fX7_hour at hf
  refine lv_iconst (v := (0 : Int32)) hx hb dX7_hour_0 (by decide) ?_
  refine lv_istore_n (lv' := [(3, .int (0 : Int32)), (0, .ref m0), (1, .int a1), (2, .int a2)]) hx hb dX7_hour_1 rfl hl (by decide) rfl (fun ls hl => ?_)
  refine L2 _ _ _ _ _ _ _ _ _  hf hP hD hS (lv_sub hl [1, 2, 3, 0] rfl) (fun now111 H locs ls hf hP hD hS hl => ?_)
  refine lv_iconst (v := (0 : Int32)) hx hb dX7_hour_38 (by decide) ?_
  refine lv_istore_n (lv' := [(3, .int (0 : Int32)), (0, .ref m0)]) hx hb dX7_hour_39 rfl hl (by decide) rfl (fun ls hl => ?_)
  refine L40 _ _ _ _ _ _ _  hf hP hD hS (lv_sub hl [1, 0] rfl) (fun now134 H locs ls hf hP hD hS hl => ?_)
  refine lv_iconst (v := (0 : Int32)) hx hb dX7_hour_110 (by decide) ?_
  refine lv_istore_n (lv' := [(3, .int (0 : Int32)), (0, .ref m0)]) hx hb dX7_hour_111 rfl hl (by decide) rfl (fun ls hl => ?_)
  refine L112 _ _ _ _ _ _ _  hf hP hD hS (lv_sub hl [1, 0] rfl) (fun now151 H locs ls hf hP hD hS hl => ?_)
  refine lv_iconst (v := (0 : Int32)) hx hb dX7_hour_173 (by decide) ?_
  refine lv_istore_n (lv' := [(3, .int (0 : Int32)), (0, .ref m0)]) hx hb dX7_hour_174 rfl hl (by decide) rfl (fun ls hl => ?_)
  refine L175 _ _ _ _ _ _ _  hf hP hD hS (lv_sub hl [1, 0] rfl) (fun now162 H locs ls hf hP hD hS hl => ?_)
  refine lv_aload_n hx hb dX7_hour_209 rfl (lv_at hl 0 rfl) ?_
  refine va_get (D := g.1) (ci := 7) (v := .ref m1) (C := RX7) (T := TX7) (N := 22) hx hb hts i_X7_hour_X7 hown hE.1 hP 0 rfl rfl 0 (by decide) w1 (fun _ h9 => h9) rfl dX7_hour_210 ?_
  refine lv_iconst (v := (0 : Int32)) hx hb dX7_hour_213 (by decide) ?_
  refine lv_dup2_11 hx hb dX7_hour_214 rfl rfl ?_
  obtain ⟨x163, ex, hin, hf⟩ := rd_s hf
  refine st_iald (f := now162) hx hb hE.1 hP 1 0 rfl rfl hin ex dX7_hour_215 ?_
  refine lv_iconst (v := (1 : Int32)) hx hb dX7_hour_216 (by decide) ?_
  refine lv_iadd hx hb dX7_hour_217 ?_
  obtain ⟨f164, ef, hin, hf⟩ := wr_s hf
  refine st_iast (ws' := wM g m0 m1 m2 m3 m4 m5 m6 m7 m8 m9 m10 m11 m12 f164 kept aside ik found carried T S) (f := now162) (f2 := f164) hx hb hE.1 hP hD hS 1 0 rfl rfl hin ef rfl dX7_hour_218 (fun H locs hP hD hS => ?_)
  refine lv_aload_n hx hb dX7_hour_219 rfl (lv_at hl 0 rfl) ?_
  obtain ⟨x165, hg, hf⟩ := o1_s hf
  refine Ct.callV0 (ws' := wM g m0 m1 m2 m3 m4 m5 m6 m7 m8 m9 m10 m11 m12 f164 kept aside ik found carried T S) (As := []) (rest := []) (st1 := [.int x165]) (c_X7_open l g m0 m1 m2 m3 m4 m5 m6 m7 m8 m9 m10 m11 m12 f164 kept aside ik found carried T S hg) (cwV 0 hts gX7_hour_X7_open rfl rfl rfl q_X7_open ⟨Nat.le_of_ble_eq_true rfl, Nat.le_of_ble_eq_true rfl⟩) ⟨hx, hb, hml, hown, hts⟩ hE hP hD hS hA 7 0 rfl rfl rfl rfl hl.1 rfl rfl (Nat.le_of_ble_eq_true rfl) dX7_hour_220 (fun H locs hP hD hS => ?_)
  obtain ⟨rfl, rfl⟩ := some_p2 hf
  rw [hQ]; exact Ct.iret hx hb hr hlocks hAe hP hD hS dX7_hour_223
def fX7_hoursGo_L6 (x1 : Int32) (x2 : Int32) (x3 : Int32) (kx : (Nat → Int32) → Int32 → Option (Int32 × (Nat → Int32))) : Nat → (Nat → Int32) → Int32 → Int32 → Option (Int32 × (Nat → Int32))
  | 0, _, _, _ => none
  | k + 1, now, x4, x5 => if x3 ≤ x5 then (kx now x4) else (o2 (fX7_hour now x1 x2) (fun x103 now104 => fX7_hoursGo_L6 x1 x2 x3 kx k now104 (x4 + x103) (x5 + (1 : Int32))))
def fX7_hoursGo (now : Nat → Int32) (a1 : Int32) (a2 : Int32) (a3 : Int32) : Option (Int32 × (Nat → Int32)) := fX7_hoursGo_L6 a1 a2 a3 (fun now105 x106 => some (x106, now105)) fu now (0 : Int32) (0 : Int32)
theorem q_X7_hoursGo : yX7_hoursGo.cls = RX7 ∧ yX7_hoursGo.cls ≠ "java/lang/invoke/MethodHandle" ∧ yX7_hoursGo.cls ≠ "java/lang/invoke/VarHandle" ∧ (parseMethodDescriptor yX7_hoursGo.desc).map (fun d => d.parameters.length) = some 3 := by decide +kernel
set_option maxHeartbeats 4000000 in
set_option maxRecDepth 100000 in
theorem c_X7_hoursGo (l : Launch) (g : gG) (m0 m1 m2 m3 m4 m5 m6 m7 m8 m9 m10 m11 m12 : Nat) (now : Nat → Int32) (kept : Nat → Int32) (aside : Nat → Int32) (ik : Int32) (found : Nat → Int32) (carried : Nat → Int32) (T : Mt) (S : Ms) (a1 : Int32) (a2 : Int32) (a3 : Int32) {r : Int32} {now' : Nat → Int32} (hf : fX7_hoursGo now a1 a2 a3 = some (r, now')) : Ct l yX7_hoursGo wsX7_hoursGo (rmm 8 177) g (wM g m0 m1 m2 m3 m4 m5 m6 m7 m8 m9 m10 m11 m12 now kept aside ik found carried T S) (wM g m0 m1 m2 m3 m4 m5 m6 m7 m8 m9 m10 m11 m12 (now') kept aside ik found carried T S) [.ref m0, .int a1, .int a2, .int a3] (some (.int r)) := by
  refine Ct.mk (by decide) rfl (Nat.le_of_ble_eq_true rfl) ?_
  intro p e s m args below meth c A ls hx hb hr hml hts hown hlocks hA hE hP hD hS hl hAe
  obtain ⟨Qx, hQ⟩ : ∃ Qx : State → Prop, Qx = MQ below (QcG g (wM g m0 m1 m2 m3 m4 m5 m6 m7 m8 m9 m10 m11 m12 now kept aside ik found carried T S) (wM g m0 m1 m2 m3 m4 m5 m6 m7 m8 m9 m10 m11 m12 (now') kept aside ik found carried T S) (some (.int r)) s.heap.size) args s 0 0 A := ⟨_, rfl⟩
  rw [← hQ]
  have hown : s.vm.findClass RX7 = some m.cls := hown
  have hl : lv_has ls 6 [(0, .ref m0), (1, .int a1), (2, .int a2), (3, .int a3)] := hl
  have L6 : ∀ (x1 : Int32) (x2 : Int32) (x3 : Int32) (kx : (Nat → Int32) → Int32 → Option (Int32 × (Nat → Int32))) (k : Nat) (now : Nat → Int32) (x4 : Int32) (x5 : Int32) (H : Heap) (locs : List Loc) (ls : Array Slot), fX7_hoursGo_L6 x1 x2 x3 kx k now x4 x5 = some (r, now') → va_P g.1 vwK (wM g m0 m1 m2 m3 m4 m5 m6 m7 m8 m9 m10 m11 m12 now kept aside ik found carried T S) H → va_D A (wM g m0 m1 m2 m3 m4 m5 m6 m7 m8 m9 m10 m11 m12 now kept aside ik found carried T S) → va_S A s.heap H locs → lv_has ls 6 [(0, .ref m0), (1, .int x1), (2, .int x2), (3, .int x3), (4, .int x4), (5, .int x5)] → (∀ (now : Nat → Int32) (x4 : Int32) (H : Heap) (locs : List Loc) (ls : Array Slot), kx now x4 = some (r, now') → va_P g.1 vwK (wM g m0 m1 m2 m3 m4 m5 m6 m7 m8 m9 m10 m11 m12 now kept aside ik found carried T S) H → va_D A (wM g m0 m1 m2 m3 m4 m5 m6 m7 m8 m9 m10 m11 m12 now kept aside ik found carried T S) → va_S A s.heap H locs → lv_has ls 6 [(4, .int x4)] → W p l e (rmm 8 177) s m args below meth c H locs 0 0 Qx (F0 m 29 ls [])) → W p l e (rmm 8 177) s m args below meth c H locs 0 0 Qx (F0 m 6 ls []) := by
    intro x1 x2 x3 kx k
    induction k with
    | zero => intro now x4 x5 H locs ls hf; exact nomatch (show (none : Option (Int32 × (Nat → Int32))) = some _ from hf)
    | succ k ih =>
      intro now x4 x5 H locs ls hf hP hD hS hl hk
      rw [fX7_hoursGo_L6] at hf
      refine lv_iload hx hb dX7_hoursGo_6 (lv_at hl 5 rfl) ?_
      refine lv_iload_n hx hb dX7_hoursGo_8 rfl (lv_at hl 3 rfl) ?_
      refine lv_icmp_ge (tgt := 29) hx hb dX7_hoursGo_9 (by decide) (fun hc => ?_) (fun hc => ?_)
      · have hf := if_t hf hc
        exact hk _ _ _ _ _  hf hP hD hS (lv_sub hl [4] rfl)
      · have hf := if_f hf hc
        refine lv_iload hx hb dX7_hoursGo_12 (lv_at hl 4 rfl) ?_
        refine lv_aload_n hx hb dX7_hoursGo_14 rfl (lv_at hl 0 rfl) ?_
        refine lv_iload_n hx hb dX7_hoursGo_15 rfl (lv_at hl 1 rfl) ?_
        refine lv_iload_n hx hb dX7_hoursGo_16 rfl (lv_at hl 2 rfl) ?_
        obtain ⟨x103, now104, hg, hf⟩ := o2_s hf
        refine Ct.callV0 (ws' := wM g m0 m1 m2 m3 m4 m5 m6 m7 m8 m9 m10 m11 m12 now104 kept aside ik found carried T S) (As := [.int x1, .int x2]) (rest := [.int x4]) (st1 := [.int x103, .int x4]) (c_X7_hour l g m0 m1 m2 m3 m4 m5 m6 m7 m8 m9 m10 m11 m12 now kept aside ik found carried T S x1 x2 hg) (cwV 2 hts gX7_hoursGo_X7_hour rfl rfl rfl q_X7_hour ⟨Nat.le_of_ble_eq_true rfl, Nat.le_of_ble_eq_true rfl⟩) ⟨hx, hb, hml, hown, hts⟩ hE hP hD hS hA 7 0 rfl rfl rfl rfl hl.1 rfl rfl (Nat.le_of_ble_eq_true rfl) dX7_hoursGo_17 (fun H locs hP hD hS => ?_)
        refine lv_iadd hx hb dX7_hoursGo_20 ?_
        refine lv_istore (lv' := [(4, .int (x4 + x103)), (0, .ref m0), (1, .int x1), (2, .int x2), (3, .int x3), (5, .int x5)]) hx hb dX7_hoursGo_21 hl (by decide) rfl (fun ls hl => ?_)
        refine lv_iinc (v := (x5 + (1 : Int32))) (lv' := [(5, .int (x5 + (1 : Int32))), (4, .int (x4 + x103)), (0, .ref m0), (1, .int x1), (2, .int x2), (3, .int x3)]) hx hb dX7_hoursGo_23 hl (k := 5) rfl rfl (by decide) rfl (fun ls hl => ?_)
        refine lv_goto (tgt := 6) hx hb dX7_hoursGo_26 (by decide) ?_
        exact ih _ _ _ _ _ _  hf hP hD hS (lv_sub hl [2, 3, 4, 5, 1, 0] rfl) hk
  unfold fX7_hoursGo at hf
  refine lv_iconst (v := (0 : Int32)) hx hb dX7_hoursGo_0 (by decide) ?_
  refine lv_istore (lv' := [(4, .int (0 : Int32)), (0, .ref m0), (1, .int a1), (2, .int a2), (3, .int a3)]) hx hb dX7_hoursGo_1 hl (by decide) rfl (fun ls hl => ?_)
  refine lv_iconst (v := (0 : Int32)) hx hb dX7_hoursGo_3 (by decide) ?_
  refine lv_istore (lv' := [(5, .int (0 : Int32)), (4, .int (0 : Int32)), (0, .ref m0), (1, .int a1), (2, .int a2), (3, .int a3)]) hx hb dX7_hoursGo_4 hl (by decide) rfl (fun ls hl => ?_)
  refine L6 _ _ _ _ _ _ _ _ _ _ _  hf hP hD hS (lv_sub hl [2, 3, 4, 5, 1, 0] rfl) (fun now105 x106 H locs ls hf hP hD hS hl => ?_)
  refine lv_iload hx hb dX7_hoursGo_29 (lv_at hl 0 rfl) ?_
  obtain ⟨rfl, rfl⟩ := some_p2 hf
  rw [hQ]; exact Ct.iret hx hb hr hlocks hAe hP hD hS dX7_hoursGo_31
def fX7_isTooLate (now : Nat → Int32) (a1 : Int32) : Option (Int32) := rd now 120 (0 : Int32) (fun x101 => if (x101 + a1) ≤ (9999 : Int32) then (some (0 : Int32)) else (some (1 : Int32)))
theorem q_X7_isTooLate : yX7_isTooLate.cls = RX7 ∧ yX7_isTooLate.cls ≠ "java/lang/invoke/MethodHandle" ∧ yX7_isTooLate.cls ≠ "java/lang/invoke/VarHandle" ∧ (parseMethodDescriptor yX7_isTooLate.desc).map (fun d => d.parameters.length) = some 1 := by decide +kernel
theorem i_X7_isTooLate_X7 : ∀ w ∈ u_ws RX7 TX7 22, w ∈ wsX7_isTooLate := fun _ h => List.mem_cons_of_mem _ (List.mem_append_right _ (h))
set_option maxHeartbeats 4000000 in
set_option maxRecDepth 100000 in
theorem c_X7_isTooLate (l : Launch) (g : gG) (m0 m1 m2 m3 m4 m5 m6 m7 m8 m9 m10 m11 m12 : Nat) (now : Nat → Int32) (kept : Nat → Int32) (aside : Nat → Int32) (ik : Int32) (found : Nat → Int32) (carried : Nat → Int32) (T : Mt) (S : Ms) (a1 : Int32) {r : Int32} (hf : fX7_isTooLate now a1 = some r) : Ct l yX7_isTooLate wsX7_isTooLate (rmm 0 0) g (wM g m0 m1 m2 m3 m4 m5 m6 m7 m8 m9 m10 m11 m12 now kept aside ik found carried T S) (wM g m0 m1 m2 m3 m4 m5 m6 m7 m8 m9 m10 m11 m12 now kept aside ik found carried T S) [.ref m0, .int a1] (some (.int r)) := by
  refine Ct.mk (by decide) rfl (Nat.le_of_ble_eq_true rfl) ?_
  intro p e s m args below meth c A ls hx hb hr hml hts hown hlocks hA hE hP hD hS hl hAe
  obtain ⟨Qx, hQ⟩ : ∃ Qx : State → Prop, Qx = MQ below (QcG g (wM g m0 m1 m2 m3 m4 m5 m6 m7 m8 m9 m10 m11 m12 now kept aside ik found carried T S) (wM g m0 m1 m2 m3 m4 m5 m6 m7 m8 m9 m10 m11 m12 now kept aside ik found carried T S) (some (.int r)) s.heap.size) args s 0 0 A := ⟨_, rfl⟩
  rw [← hQ]
  have hown : s.vm.findClass RX7 = some m.cls := hown
  have hl : lv_has ls 2 [(0, .ref m0), (1, .int a1)] := hl
  have w1 := hts (.fieldLink RX7 9 "RainVaultModel" "now" "[I") (List.mem_of_getElem? (i := 1) rfl)
  unfold fX7_isTooLate at hf
  refine lv_aload_n hx hb dX7_isTooLate_0 rfl (lv_at hl 0 rfl) ?_
  refine va_get (D := g.1) (ci := 7) (v := .ref m1) (C := RX7) (T := TX7) (N := 22) hx hb hts i_X7_isTooLate_X7 hown hE.1 hP 0 rfl rfl 0 (by decide) w1 (fun _ h9 => h9) rfl dX7_isTooLate_1 ?_
  refine lv_iconst (v := (0 : Int32)) hx hb dX7_isTooLate_4 (by decide) ?_
  obtain ⟨x101, ex, hin, hf⟩ := rd_s hf
  refine st_iald (f := now) hx hb hE.1 hP 1 0 rfl rfl hin ex dX7_isTooLate_5 ?_
  refine lv_iload_n hx hb dX7_isTooLate_6 rfl (lv_at hl 1 rfl) ?_
  refine lv_iadd hx hb dX7_isTooLate_7 ?_
  refine lv_sipush (v := (9999 : Int32)) hx hb dX7_isTooLate_8 (by decide) ?_
  refine lv_icmp_le (tgt := 18) hx hb dX7_isTooLate_11 (by decide) (fun hc => ?_) (fun hc => ?_)
  · have hf := if_t hf hc
    refine lv_iconst (v := (0 : Int32)) hx hb dX7_isTooLate_18 (by decide) ?_
    obtain rfl := Option.some.inj hf
    rw [hQ]; exact Ct.zret hx hb hr (by decide) hlocks hAe hP hD hS dX7_isTooLate_19
  · have hf := if_f hf hc
    refine lv_iconst (v := (1 : Int32)) hx hb dX7_isTooLate_14 (by decide) ?_
    refine lv_goto (tgt := 19) hx hb dX7_isTooLate_15 (by decide) ?_
    obtain rfl := Option.some.inj hf
    rw [hQ]; exact Ct.zret hx hb hr (by decide) hlocks hAe hP hD hS dX7_isTooLate_19
def fX7_refuses (now : Nat → Int32) (a1 : Int32) (a2 : Int32) (a3 : Int32) (a4 : Int32) (a5 : Int32) : Option (Int32) := o1 (fX7_isRain a1 a2) (fun x101 => if x101 = 0 then (some (-1000001 : Int32)) else (o1 (fX7_within a3 a4 a5) (fun x102 => if x102 = 0 then (some (-1000001 : Int32)) else (o1 (fX7_isTooLate now a3) (fun x103 => if x103 = 0 then (some (0 : Int32)) else (some (-1000005 : Int32)))))))
theorem q_X7_refuses : yX7_refuses.cls = RX7 ∧ yX7_refuses.cls ≠ "java/lang/invoke/MethodHandle" ∧ yX7_refuses.cls ≠ "java/lang/invoke/VarHandle" ∧ (parseMethodDescriptor yX7_refuses.desc).map (fun d => d.parameters.length) = some 5 := by decide +kernel
set_option maxHeartbeats 4000000 in
set_option maxRecDepth 100000 in
theorem c_X7_refuses (l : Launch) (g : gG) (m0 m1 m2 m3 m4 m5 m6 m7 m8 m9 m10 m11 m12 : Nat) (now : Nat → Int32) (kept : Nat → Int32) (aside : Nat → Int32) (ik : Int32) (found : Nat → Int32) (carried : Nat → Int32) (T : Mt) (S : Ms) (a1 : Int32) (a2 : Int32) (a3 : Int32) (a4 : Int32) (a5 : Int32) {r : Int32} (hf : fX7_refuses now a1 a2 a3 a4 a5 = some r) : Ct l yX7_refuses wsX7_refuses (rmm 2 43) g (wM g m0 m1 m2 m3 m4 m5 m6 m7 m8 m9 m10 m11 m12 now kept aside ik found carried T S) (wM g m0 m1 m2 m3 m4 m5 m6 m7 m8 m9 m10 m11 m12 now kept aside ik found carried T S) [.ref m0, .int a1, .int a2, .int a3, .int a4, .int a5] (some (.int r)) := by
  refine Ct.mk (by decide) rfl (Nat.le_of_ble_eq_true rfl) ?_
  intro p e s m args below meth c A ls hx hb hr hml hts hown hlocks hA hE hP hD hS hl hAe
  obtain ⟨Qx, hQ⟩ : ∃ Qx : State → Prop, Qx = MQ below (QcG g (wM g m0 m1 m2 m3 m4 m5 m6 m7 m8 m9 m10 m11 m12 now kept aside ik found carried T S) (wM g m0 m1 m2 m3 m4 m5 m6 m7 m8 m9 m10 m11 m12 now kept aside ik found carried T S) (some (.int r)) s.heap.size) args s 0 0 A := ⟨_, rfl⟩
  rw [← hQ]
  have hown : s.vm.findClass RX7 = some m.cls := hown
  have hl : lv_has ls 6 [(0, .ref m0), (1, .int a1), (2, .int a2), (3, .int a3), (4, .int a4), (5, .int a5)] := hl
  have w1 := hts (.constant RX7 63 (-1000001)) (List.mem_of_getElem? (i := 1) rfl)
  have w2 := hts (.constant RX7 173 (-1000005)) (List.mem_of_getElem? (i := 2) rfl)
  unfold fX7_refuses at hf
  refine lv_iload_n hx hb dX7_refuses_0 rfl (lv_at hl 1 rfl) ?_
  refine lv_iload_n hx hb dX7_refuses_1 rfl (lv_at hl 2 rfl) ?_
  obtain ⟨x101, hg, hf⟩ := o1_s hf
  refine Ct.callS (ws' := wM g m0 m1 m2 m3 m4 m5 m6 m7 m8 m9 m10 m11 m12 now kept aside ik found carried T S) (As := [.int a1, .int a2]) (rest := []) (st1 := [.int x101]) (c_X7_isRain l g a1 a2 hg) (va_cwS 2 hts gX7_refuses_X7_isRain rfl rfl rfl q_X7_isRain.2 ⟨Nat.le_of_ble_eq_true rfl, Nat.le_of_ble_eq_true rfl⟩) ⟨hx, hb, hml, hown, hts⟩ hE hP hD hS hA [] rfl rfl rfl rfl rfl hl.1 rfl rfl (Nat.le_of_ble_eq_true rfl) dX7_refuses_2 (fun H locs hP hD hS => ?_)
  refine lv_if_eq (tgt := 19) hx hb dX7_refuses_5 (by decide) (fun hc => ?_) (fun hc => ?_)
  · have hf := if_t hf hc
    refine lv_ldc hx hb hown w1 dX7_refuses_19 ?_
    refine lv_goto (tgt := 38) hx hb dX7_refuses_21 (by decide) ?_
    obtain rfl := Option.some.inj hf
    rw [hQ]; exact Ct.iret hx hb hr hlocks hAe hP hD hS dX7_refuses_38
  · have hf := if_f hf hc
    refine lv_iload_n hx hb dX7_refuses_8 rfl (lv_at hl 3 rfl) ?_
    refine lv_iload hx hb dX7_refuses_9 (lv_at hl 4 rfl) ?_
    refine lv_iload hx hb dX7_refuses_11 (lv_at hl 5 rfl) ?_
    obtain ⟨x102, hg, hf⟩ := o1_s hf
    refine Ct.callS (ws' := wM g m0 m1 m2 m3 m4 m5 m6 m7 m8 m9 m10 m11 m12 now kept aside ik found carried T S) (As := [.int a3, .int a4, .int a5]) (rest := []) (st1 := [.int x102]) (c_X7_within l g a3 a4 a5 hg) (va_cwS 3 hts gX7_refuses_X7_within rfl rfl rfl q_X7_within.2 ⟨Nat.le_of_ble_eq_true rfl, Nat.le_of_ble_eq_true rfl⟩) ⟨hx, hb, hml, hown, hts⟩ hE hP hD hS hA [] rfl rfl rfl rfl rfl hl.1 rfl rfl (Nat.le_of_ble_eq_true rfl) dX7_refuses_13 (fun H locs hP hD hS => ?_)
    refine lv_if_ne (tgt := 24) hx hb dX7_refuses_16 (by decide) (fun hc => ?_) (fun hc => ?_)
    · have hf := if_f hf hc
      refine lv_aload_n hx hb dX7_refuses_24 rfl (lv_at hl 0 rfl) ?_
      refine lv_iload_n hx hb dX7_refuses_25 rfl (lv_at hl 3 rfl) ?_
      obtain ⟨x103, hg, hf⟩ := o1_s hf
      refine Ct.callV0 (ws' := wM g m0 m1 m2 m3 m4 m5 m6 m7 m8 m9 m10 m11 m12 now kept aside ik found carried T S) (As := [.int a3]) (rest := []) (st1 := [.int x103]) (c_X7_isTooLate l g m0 m1 m2 m3 m4 m5 m6 m7 m8 m9 m10 m11 m12 now kept aside ik found carried T S a3 hg) (cwV 1 hts gX7_refuses_X7_isTooLate rfl rfl rfl q_X7_isTooLate ⟨Nat.le_of_ble_eq_true rfl, Nat.le_of_ble_eq_true rfl⟩) ⟨hx, hb, hml, hown, hts⟩ hE hP hD hS hA 7 0 rfl rfl rfl rfl hl.1 rfl rfl (Nat.le_of_ble_eq_true rfl) dX7_refuses_26 (fun H locs hP hD hS => ?_)
      refine lv_if_eq (tgt := 37) hx hb dX7_refuses_29 (by decide) (fun hc => ?_) (fun hc => ?_)
      · have hf := if_t hf hc
        refine lv_iconst (v := (0 : Int32)) hx hb dX7_refuses_37 (by decide) ?_
        obtain rfl := Option.some.inj hf
        rw [hQ]; exact Ct.iret hx hb hr hlocks hAe hP hD hS dX7_refuses_38
      · have hf := if_f hf hc
        refine lv_ldc hx hb hown w2 dX7_refuses_32 ?_
        refine lv_goto (tgt := 38) hx hb dX7_refuses_34 (by decide) ?_
        obtain rfl := Option.some.inj hf
        rw [hQ]; exact Ct.iret hx hb hr hlocks hAe hP hD hS dX7_refuses_38
    · have hf := if_t hf hc
      refine lv_ldc hx hb hown w1 dX7_refuses_19 ?_
      refine lv_goto (tgt := 38) hx hb dX7_refuses_21 (by decide) ?_
      obtain rfl := Option.some.inj hf
      rw [hQ]; exact Ct.iret hx hb hr hlocks hAe hP hD hS dX7_refuses_38
def fX7_rain (now : Nat → Int32) (found : Nat → Int32) (a1 : Int32) (a2 : Int32) (a3 : Int32) : Option (Int32 × (Nat → Int32) × (Nat → Int32)) := o1 (fX7_refuses now a1 a2 a3 (1 : Int32) (100 : Int32)) (fun x101 => if x101 = 0 then (o2 (fX7_hoursGo now a1 a2 a3) (fun x102 now103 => some (x102, now103, found))) else (o2 (fX7_finding found x101) (fun x104 found105 => some (x104, now, found105))))
theorem q_X7_rain : yX7_rain.cls = RX7 ∧ yX7_rain.cls ≠ "java/lang/invoke/MethodHandle" ∧ yX7_rain.cls ≠ "java/lang/invoke/VarHandle" ∧ (parseMethodDescriptor yX7_rain.desc).map (fun d => d.parameters.length) = some 3 := by decide +kernel
set_option maxHeartbeats 4000000 in
set_option maxRecDepth 100000 in
theorem c_X7_rain (l : Launch) (g : gG) (m0 m1 m2 m3 m4 m5 m6 m7 m8 m9 m10 m11 m12 : Nat) (now : Nat → Int32) (kept : Nat → Int32) (aside : Nat → Int32) (ik : Int32) (found : Nat → Int32) (carried : Nat → Int32) (T : Mt) (S : Ms) (a1 : Int32) (a2 : Int32) (a3 : Int32) {r : Int32} {now' : Nat → Int32} {found' : Nat → Int32} (hf : fX7_rain now found a1 a2 a3 = some (r, now', found')) : Ct l yX7_rain wsX7_rain (rmm 9 202) g (wM g m0 m1 m2 m3 m4 m5 m6 m7 m8 m9 m10 m11 m12 now kept aside ik found carried T S) (wM g m0 m1 m2 m3 m4 m5 m6 m7 m8 m9 m10 m11 m12 (now') kept aside ik (found') carried T S) [.ref m0, .int a1, .int a2, .int a3] (some (.int r)) := by
  refine Ct.mk (by decide) rfl (Nat.le_of_ble_eq_true rfl) ?_
  intro p e s m args below meth c A ls hx hb hr hml hts hown hlocks hA hE hP hD hS hl hAe
  obtain ⟨Qx, hQ⟩ : ∃ Qx : State → Prop, Qx = MQ below (QcG g (wM g m0 m1 m2 m3 m4 m5 m6 m7 m8 m9 m10 m11 m12 now kept aside ik found carried T S) (wM g m0 m1 m2 m3 m4 m5 m6 m7 m8 m9 m10 m11 m12 (now') kept aside ik (found') carried T S) (some (.int r)) s.heap.size) args s 0 0 A := ⟨_, rfl⟩
  rw [← hQ]
  have hown : s.vm.findClass RX7 = some m.cls := hown
  have hl : lv_has ls 5 [(0, .ref m0), (1, .int a1), (2, .int a2), (3, .int a3)] := hl
  unfold fX7_rain at hf
  refine lv_aload_n hx hb dX7_rain_0 rfl (lv_at hl 0 rfl) ?_
  refine lv_iload_n hx hb dX7_rain_1 rfl (lv_at hl 1 rfl) ?_
  refine lv_iload_n hx hb dX7_rain_2 rfl (lv_at hl 2 rfl) ?_
  refine lv_iload_n hx hb dX7_rain_3 rfl (lv_at hl 3 rfl) ?_
  refine lv_iconst (v := (1 : Int32)) hx hb dX7_rain_4 (by decide) ?_
  refine lv_bipush (v := (100 : Int32)) hx hb dX7_rain_5 (by decide) ?_
  obtain ⟨x101, hg, hf⟩ := o1_s hf
  refine Ct.callV0 (ws' := wM g m0 m1 m2 m3 m4 m5 m6 m7 m8 m9 m10 m11 m12 now kept aside ik found carried T S) (As := [.int a1, .int a2, .int a3, .int (1 : Int32), .int (100 : Int32)]) (rest := []) (st1 := [.int x101]) (c_X7_refuses l g m0 m1 m2 m3 m4 m5 m6 m7 m8 m9 m10 m11 m12 now kept aside ik found carried T S a1 a2 a3 (1 : Int32) (100 : Int32) hg) (cwV 5 hts gX7_rain_X7_refuses rfl rfl rfl q_X7_refuses ⟨Nat.le_of_ble_eq_true rfl, Nat.le_of_ble_eq_true rfl⟩) ⟨hx, hb, hml, hown, hts⟩ hE hP hD hS hA 7 0 rfl rfl rfl rfl hl.1 rfl rfl (Nat.le_of_ble_eq_true rfl) dX7_rain_7 (fun H locs hP hD hS => ?_)
  refine lv_istore (lv' := [(4, .int x101), (0, .ref m0), (1, .int a1), (2, .int a2), (3, .int a3)]) hx hb dX7_rain_10 hl (by decide) rfl (fun ls hl => ?_)
  refine lv_iload hx hb dX7_rain_12 (lv_at hl 0 rfl) ?_
  refine lv_if_eq (tgt := 26) hx hb dX7_rain_14 (by decide) (fun hc => ?_) (fun hc => ?_)
  · have hf := if_t hf hc
    refine lv_aload_n hx hb dX7_rain_26 rfl (lv_at hl 1 rfl) ?_
    refine lv_iload_n hx hb dX7_rain_27 rfl (lv_at hl 2 rfl) ?_
    refine lv_iload_n hx hb dX7_rain_28 rfl (lv_at hl 3 rfl) ?_
    refine lv_iload_n hx hb dX7_rain_29 rfl (lv_at hl 4 rfl) ?_
    obtain ⟨x102, now103, hg, hf⟩ := o2_s hf
    refine Ct.callV0 (ws' := wM g m0 m1 m2 m3 m4 m5 m6 m7 m8 m9 m10 m11 m12 now103 kept aside ik found carried T S) (As := [.int a1, .int a2, .int a3]) (rest := []) (st1 := [.int x102]) (c_X7_hoursGo l g m0 m1 m2 m3 m4 m5 m6 m7 m8 m9 m10 m11 m12 now kept aside ik found carried T S a1 a2 a3 hg) (cwV 3 hts gX7_rain_X7_hoursGo rfl rfl rfl q_X7_hoursGo ⟨Nat.le_of_ble_eq_true rfl, Nat.le_of_ble_eq_true rfl⟩) ⟨hx, hb, hml, hown, hts⟩ hE hP hD hS hA 7 0 rfl rfl rfl rfl hl.1 rfl rfl (Nat.le_of_ble_eq_true rfl) dX7_rain_30 (fun H locs hP hD hS => ?_)
    obtain ⟨rfl, rfl, rfl⟩ := some_p3 hf
    rw [hQ]; exact Ct.iret hx hb hr hlocks hAe hP hD hS dX7_rain_33
  · have hf := if_f hf hc
    refine lv_aload_n hx hb dX7_rain_17 rfl (lv_at hl 1 rfl) ?_
    refine lv_iload hx hb dX7_rain_18 (lv_at hl 0 rfl) ?_
    obtain ⟨x104, found105, hg, hf⟩ := o2_s hf
    refine Ct.callV0 (ws' := wM g m0 m1 m2 m3 m4 m5 m6 m7 m8 m9 m10 m11 m12 now kept aside ik found105 carried T S) (As := [.int x101]) (rest := []) (st1 := [.int x104]) (c_X7_finding l g m0 m1 m2 m3 m4 m5 m6 m7 m8 m9 m10 m11 m12 now kept aside ik found carried T S x101 hg) (cwV 1 hts gX7_rain_X7_finding rfl rfl rfl q_X7_finding ⟨Nat.le_of_ble_eq_true rfl, Nat.le_of_ble_eq_true rfl⟩) ⟨hx, hb, hml, hown, hts⟩ hE hP hD hS hA 7 0 rfl rfl rfl rfl hl.1 rfl rfl (Nat.le_of_ble_eq_true rfl) dX7_rain_20 (fun H locs hP hD hS => ?_)
    refine lv_goto (tgt := 33) hx hb dX7_rain_23 (by decide) ?_
    obtain ⟨rfl, rfl, rfl⟩ := some_p3 hf
    rw [hQ]; exact Ct.iret hx hb hr hlocks hAe hP hD hS dX7_rain_33
def fX7_drawn (now : Nat → Int32) (a1 : Int32) : Option (Int32 × (Nat → Int32)) := rd now 120 (5 : Int32) (fun x101 => wr now 120 (5 : Int32) ((x101 * (1103515245 : Int32)) + (12345 : Int32)) (fun f102 => rd f102 120 (5 : Int32) (fun x103 => nz a1 (some ((((x103.toUInt32 >>> ((8 : Int32).toUInt32 &&& Int32.toUInt32 31)).toInt32) - ((x103.toUInt32 >>> ((8 : Int32).toUInt32 &&& Int32.toUInt32 31)).toInt32) / a1 * a1), f102)))))
theorem q_X7_drawn : yX7_drawn.cls = RX7 ∧ yX7_drawn.cls ≠ "java/lang/invoke/MethodHandle" ∧ yX7_drawn.cls ≠ "java/lang/invoke/VarHandle" ∧ (parseMethodDescriptor yX7_drawn.desc).map (fun d => d.parameters.length) = some 1 := by decide +kernel
theorem i_X7_drawn_X7 : ∀ w ∈ u_ws RX7 TX7 22, w ∈ wsX7_drawn := fun _ h => List.mem_cons_of_mem _ (List.mem_append_right _ (h))
set_option maxHeartbeats 4000000 in
set_option maxRecDepth 100000 in
theorem c_X7_drawn (l : Launch) (g : gG) (m0 m1 m2 m3 m4 m5 m6 m7 m8 m9 m10 m11 m12 : Nat) (now : Nat → Int32) (kept : Nat → Int32) (aside : Nat → Int32) (ik : Int32) (found : Nat → Int32) (carried : Nat → Int32) (T : Mt) (S : Ms) (a1 : Int32) {r : Int32} {now' : Nat → Int32} (hf : fX7_drawn now a1 = some (r, now')) : Ct l yX7_drawn wsX7_drawn (rmm 0 0) g (wM g m0 m1 m2 m3 m4 m5 m6 m7 m8 m9 m10 m11 m12 now kept aside ik found carried T S) (wM g m0 m1 m2 m3 m4 m5 m6 m7 m8 m9 m10 m11 m12 (now') kept aside ik found carried T S) [.ref m0, .int a1] (some (.int r)) := by
  refine Ct.mk (by decide) rfl (Nat.le_of_ble_eq_true rfl) ?_
  intro p e s m args below meth c A ls hx hb hr hml hts hown hlocks hA hE hP hD hS hl hAe
  obtain ⟨Qx, hQ⟩ : ∃ Qx : State → Prop, Qx = MQ below (QcG g (wM g m0 m1 m2 m3 m4 m5 m6 m7 m8 m9 m10 m11 m12 now kept aside ik found carried T S) (wM g m0 m1 m2 m3 m4 m5 m6 m7 m8 m9 m10 m11 m12 (now') kept aside ik found carried T S) (some (.int r)) s.heap.size) args s 0 0 A := ⟨_, rfl⟩
  rw [← hQ]
  have hown : s.vm.findClass RX7 = some m.cls := hown
  have hl : lv_has ls 2 [(0, .ref m0), (1, .int a1)] := hl
  have w1 := hts (.fieldLink RX7 9 "RainVaultModel" "now" "[I") (List.mem_of_getElem? (i := 1) rfl)
  have w2 := hts (.constant RX7 180 (1103515245)) (List.mem_of_getElem? (i := 2) rfl)
  unfold fX7_drawn at hf
  refine lv_aload_n hx hb dX7_drawn_0 rfl (lv_at hl 0 rfl) ?_
  refine va_get (D := g.1) (ci := 7) (v := .ref m1) (C := RX7) (T := TX7) (N := 22) hx hb hts i_X7_drawn_X7 hown hE.1 hP 0 rfl rfl 0 (by decide) w1 (fun _ h9 => h9) rfl dX7_drawn_1 ?_
  refine lv_iconst (v := (5 : Int32)) hx hb dX7_drawn_4 (by decide) ?_
  refine lv_aload_n hx hb dX7_drawn_5 rfl (lv_at hl 0 rfl) ?_
  refine va_get (D := g.1) (ci := 7) (v := .ref m1) (C := RX7) (T := TX7) (N := 22) hx hb hts i_X7_drawn_X7 hown hE.1 hP 0 rfl rfl 0 (by decide) w1 (fun _ h9 => h9) rfl dX7_drawn_6 ?_
  refine lv_iconst (v := (5 : Int32)) hx hb dX7_drawn_9 (by decide) ?_
  obtain ⟨x101, ex, hin, hf⟩ := rd_s hf
  refine st_iald (f := now) hx hb hE.1 hP 1 0 rfl rfl hin ex dX7_drawn_10 ?_
  refine lv_ldc hx hb hown w2 dX7_drawn_11 ?_
  refine lv_imul hx hb dX7_drawn_13 ?_
  refine lv_sipush (v := (12345 : Int32)) hx hb dX7_drawn_14 (by decide) ?_
  refine lv_iadd hx hb dX7_drawn_17 ?_
  obtain ⟨f102, ef, hin, hf⟩ := wr_s hf
  refine st_iast (ws' := wM g m0 m1 m2 m3 m4 m5 m6 m7 m8 m9 m10 m11 m12 f102 kept aside ik found carried T S) (f := now) (f2 := f102) hx hb hE.1 hP hD hS 1 0 rfl rfl hin ef rfl dX7_drawn_18 (fun H locs hP hD hS => ?_)
  refine lv_aload_n hx hb dX7_drawn_19 rfl (lv_at hl 0 rfl) ?_
  refine va_get (D := g.1) (ci := 7) (v := .ref m1) (C := RX7) (T := TX7) (N := 22) hx hb hts i_X7_drawn_X7 hown hE.1 hP 0 rfl rfl 0 (by decide) w1 (fun _ h9 => h9) rfl dX7_drawn_20 ?_
  refine lv_iconst (v := (5 : Int32)) hx hb dX7_drawn_23 (by decide) ?_
  obtain ⟨x103, ex, hin, hf⟩ := rd_s hf
  refine st_iald (f := f102) hx hb hE.1 hP 1 0 rfl rfl hin ex dX7_drawn_24 ?_
  refine lv_bipush (v := (8 : Int32)) hx hb dX7_drawn_25 (by decide) ?_
  refine lv_iushr (v := (x103.toUInt32 >>> ((8 : Int32).toUInt32 &&& Int32.toUInt32 31)).toInt32) hx hb dX7_drawn_27 rfl ?_
  refine lv_iload_n hx hb dX7_drawn_28 rfl (lv_at hl 1 rfl) ?_
  obtain ⟨hz, hf⟩ := nz_s hf
  refine lv_irem hx hb dX7_drawn_29 hz ?_
  obtain ⟨rfl, rfl⟩ := some_p2 hf
  rw [hQ]; exact Ct.iret hx hb hr hlocks hAe hP hD hS dX7_drawn_30
def fX7_weather_L26 (x1 : Int32) (kx : (Nat → Int32) → Int32 → Option (Int32 × (Nat → Int32) × (Nat → Int32))) : Nat → (Nat → Int32) → Int32 → Int32 → Option (Int32 × (Nat → Int32) × (Nat → Int32))
  | 0, _, _, _ => none
  | k + 1, now, x3, x4 => if x1 ≤ x4 then (kx now x3) else (o2 (fX7_drawn now (5 : Int32)) (fun x110 now111 => if x110 = 0 then (o2 (fX7_hour now111 (0 : Int32) (0 : Int32)) (fun x116 now117 => fX7_weather_L26 x1 kx k now117 (x3 + x116) (x4 + (1 : Int32)))) else (o2 (fX7_drawn now111 (10 : Int32)) (fun x112 now113 => o2 (fX7_hour now113 (x110 - (1 : Int32)) x112) (fun x114 now115 => fX7_weather_L26 x1 kx k now115 (x3 + x114) (x4 + (1 : Int32)))))))
def fX7_weather (now : Nat → Int32) (found : Nat → Int32) (a1 : Int32) : Option (Int32 × (Nat → Int32) × (Nat → Int32)) := o1 (fX7_refuses now (0 : Int32) (0 : Int32) a1 (1 : Int32) (100 : Int32)) (fun x101 => if x101 = 0 then (fX7_weather_L26 a1 (fun now118 x119 => some (x119, now118, found)) fu now (0 : Int32) (0 : Int32)) else (o2 (fX7_finding found x101) (fun x120 found121 => some (x120, now, found121))))
theorem q_X7_weather : yX7_weather.cls = RX7 ∧ yX7_weather.cls ≠ "java/lang/invoke/MethodHandle" ∧ yX7_weather.cls ≠ "java/lang/invoke/VarHandle" ∧ (parseMethodDescriptor yX7_weather.desc).map (fun d => d.parameters.length) = some 1 := by decide +kernel
set_option maxHeartbeats 4000000 in
set_option maxRecDepth 100000 in
theorem c_X7_weather (l : Launch) (g : gG) (m0 m1 m2 m3 m4 m5 m6 m7 m8 m9 m10 m11 m12 : Nat) (now : Nat → Int32) (kept : Nat → Int32) (aside : Nat → Int32) (ik : Int32) (found : Nat → Int32) (carried : Nat → Int32) (T : Mt) (S : Ms) (a1 : Int32) {r : Int32} {now' : Nat → Int32} {found' : Nat → Int32} (hf : fX7_weather now found a1 = some (r, now', found')) : Ct l yX7_weather wsX7_weather (rmm 8 177) g (wM g m0 m1 m2 m3 m4 m5 m6 m7 m8 m9 m10 m11 m12 now kept aside ik found carried T S) (wM g m0 m1 m2 m3 m4 m5 m6 m7 m8 m9 m10 m11 m12 (now') kept aside ik (found') carried T S) [.ref m0, .int a1] (some (.int r)) := by
  refine Ct.mk (by decide) rfl (Nat.le_of_ble_eq_true rfl) ?_
  intro p e s m args below meth c A ls hx hb hr hml hts hown hlocks hA hE hP hD hS hl hAe
  obtain ⟨Qx, hQ⟩ : ∃ Qx : State → Prop, Qx = MQ below (QcG g (wM g m0 m1 m2 m3 m4 m5 m6 m7 m8 m9 m10 m11 m12 now kept aside ik found carried T S) (wM g m0 m1 m2 m3 m4 m5 m6 m7 m8 m9 m10 m11 m12 (now') kept aside ik (found') carried T S) (some (.int r)) s.heap.size) args s 0 0 A := ⟨_, rfl⟩
  rw [← hQ]
  have hown : s.vm.findClass RX7 = some m.cls := hown
  have hl : lv_has ls 6 [(0, .ref m0), (1, .int a1)] := hl
  have L26 : ∀ (found : Nat → Int32) (x1 : Int32) (kx : (Nat → Int32) → Int32 → Option (Int32 × (Nat → Int32) × (Nat → Int32))) (k : Nat) (now : Nat → Int32) (x3 : Int32) (x4 : Int32) (H : Heap) (locs : List Loc) (ls : Array Slot), fX7_weather_L26 x1 kx k now x3 x4 = some (r, now', found') → va_P g.1 vwK (wM g m0 m1 m2 m3 m4 m5 m6 m7 m8 m9 m10 m11 m12 now kept aside ik found carried T S) H → va_D A (wM g m0 m1 m2 m3 m4 m5 m6 m7 m8 m9 m10 m11 m12 now kept aside ik found carried T S) → va_S A s.heap H locs → lv_has ls 6 [(0, .ref m0), (1, .int x1), (3, .int x3), (4, .int x4)] → (∀ (now : Nat → Int32) (x3 : Int32) (H : Heap) (locs : List Loc) (ls : Array Slot), kx now x3 = some (r, now', found') → va_P g.1 vwK (wM g m0 m1 m2 m3 m4 m5 m6 m7 m8 m9 m10 m11 m12 now kept aside ik found carried T S) H → va_D A (wM g m0 m1 m2 m3 m4 m5 m6 m7 m8 m9 m10 m11 m12 now kept aside ik found carried T S) → va_S A s.heap H locs → lv_has ls 6 [(3, .int x3)] → W p l e (rmm 8 177) s m args below meth c H locs 0 0 Qx (F0 m 76 ls [])) → W p l e (rmm 8 177) s m args below meth c H locs 0 0 Qx (F0 m 26 ls []) := by
    intro found x1 kx k
    induction k with
    | zero => intro now x3 x4 H locs ls hf; exact nomatch (show (none : Option (Int32 × (Nat → Int32) × (Nat → Int32))) = some _ from hf)
    | succ k ih =>
      intro now x3 x4 H locs ls hf hP hD hS hl hk
      rw [fX7_weather_L26] at hf
      refine lv_iload hx hb dX7_weather_26 (lv_at hl 3 rfl) ?_
      refine lv_iload_n hx hb dX7_weather_28 rfl (lv_at hl 1 rfl) ?_
      refine lv_icmp_ge (tgt := 76) hx hb dX7_weather_29 (by decide) (fun hc => ?_) (fun hc => ?_)
      · have hf := if_t hf hc
        exact hk _ _ _ _ _  hf hP hD hS (lv_sub hl [2] rfl)
      · have hf := if_f hf hc
        refine lv_aload_n hx hb dX7_weather_32 rfl (lv_at hl 0 rfl) ?_
        refine lv_iconst (v := (5 : Int32)) hx hb dX7_weather_33 (by decide) ?_
        obtain ⟨x110, now111, hg, hf⟩ := o2_s hf
        refine Ct.callV0 (ws' := wM g m0 m1 m2 m3 m4 m5 m6 m7 m8 m9 m10 m11 m12 now111 kept aside ik found carried T S) (As := [.int (5 : Int32)]) (rest := []) (st1 := [.int x110]) (c_X7_drawn l g m0 m1 m2 m3 m4 m5 m6 m7 m8 m9 m10 m11 m12 now kept aside ik found carried T S (5 : Int32) hg) (cwV 1 hts gX7_weather_X7_drawn rfl rfl rfl q_X7_drawn ⟨Nat.le_of_ble_eq_true rfl, Nat.le_of_ble_eq_true rfl⟩) ⟨hx, hb, hml, hown, hts⟩ hE hP hD hS hA 7 0 rfl rfl rfl rfl hl.1 rfl rfl (Nat.le_of_ble_eq_true rfl) dX7_weather_34 (fun H locs hP hD hS => ?_)
        refine lv_istore (lv' := [(5, .int x110), (0, .ref m0), (1, .int x1), (3, .int x3), (4, .int x4)]) hx hb dX7_weather_37 hl (by decide) rfl (fun ls hl => ?_)
        refine lv_iload_n hx hb dX7_weather_39 rfl (lv_at hl 3 rfl) ?_
        refine lv_iload hx hb dX7_weather_40 (lv_at hl 0 rfl) ?_
        refine lv_if_ne (tgt := 54) hx hb dX7_weather_42 (by decide) (fun hc => ?_) (fun hc => ?_)
        · have hf := if_f hf hc
          refine lv_aload_n hx hb dX7_weather_54 rfl (lv_at hl 1 rfl) ?_
          refine lv_iload hx hb dX7_weather_55 (lv_at hl 0 rfl) ?_
          refine lv_iconst (v := (1 : Int32)) hx hb dX7_weather_57 (by decide) ?_
          refine lv_isub hx hb dX7_weather_58 ?_
          refine lv_aload_n hx hb dX7_weather_59 rfl (lv_at hl 1 rfl) ?_
          refine lv_bipush (v := (10 : Int32)) hx hb dX7_weather_60 (by decide) ?_
          obtain ⟨x112, now113, hg, hf⟩ := o2_s hf
          refine Ct.callV0 (ws' := wM g m0 m1 m2 m3 m4 m5 m6 m7 m8 m9 m10 m11 m12 now113 kept aside ik found carried T S) (As := [.int (10 : Int32)]) (rest := [.int (x110 - (1 : Int32)), .ref m0, .int x3]) (st1 := [.int x112, .int (x110 - (1 : Int32)), .ref m0, .int x3]) (c_X7_drawn l g m0 m1 m2 m3 m4 m5 m6 m7 m8 m9 m10 m11 m12 now111 kept aside ik found carried T S (10 : Int32) hg) (cwV 1 hts gX7_weather_X7_drawn rfl rfl rfl q_X7_drawn ⟨Nat.le_of_ble_eq_true rfl, Nat.le_of_ble_eq_true rfl⟩) ⟨hx, hb, hml, hown, hts⟩ hE hP hD hS hA 7 0 rfl rfl rfl rfl hl.1 rfl rfl (Nat.le_of_ble_eq_true rfl) dX7_weather_62 (fun H locs hP hD hS => ?_)
          obtain ⟨x114, now115, hg, hf⟩ := o2_s hf
          refine Ct.callV0 (ws' := wM g m0 m1 m2 m3 m4 m5 m6 m7 m8 m9 m10 m11 m12 now115 kept aside ik found carried T S) (As := [.int (x110 - (1 : Int32)), .int x112]) (rest := [.int x3]) (st1 := [.int x114, .int x3]) (c_X7_hour l g m0 m1 m2 m3 m4 m5 m6 m7 m8 m9 m10 m11 m12 now113 kept aside ik found carried T S (x110 - (1 : Int32)) x112 hg) (cwV 2 hts gX7_weather_X7_hour rfl rfl rfl q_X7_hour ⟨Nat.le_of_ble_eq_true rfl, Nat.le_of_ble_eq_true rfl⟩) ⟨hx, hb, hml, hown, hts⟩ hE hP hD hS hA 7 0 rfl rfl rfl rfl hl.1 rfl rfl (Nat.le_of_ble_eq_true rfl) dX7_weather_65 (fun H locs hP hD hS => ?_)
          refine lv_iadd hx hb dX7_weather_68 ?_
          refine lv_istore_n (lv' := [(3, .int (x3 + x114)), (5, .int x110), (0, .ref m0), (1, .int x1), (4, .int x4)]) hx hb dX7_weather_69 rfl hl (by decide) rfl (fun ls hl => ?_)
          refine lv_iinc (v := (x4 + (1 : Int32))) (lv' := [(4, .int (x4 + (1 : Int32))), (3, .int (x3 + x114)), (5, .int x110), (0, .ref m0), (1, .int x1)]) hx hb dX7_weather_70 hl (k := 4) rfl rfl (by decide) rfl (fun ls hl => ?_)
          refine lv_goto (tgt := 26) hx hb dX7_weather_73 (by decide) ?_
          exact ih _ _ _ _ _ _  hf hP hD hS (lv_sub hl [3, 4, 1, 0] rfl) hk
        · have hf := if_t hf hc
          refine lv_aload_n hx hb dX7_weather_45 rfl (lv_at hl 1 rfl) ?_
          refine lv_iconst (v := (0 : Int32)) hx hb dX7_weather_46 (by decide) ?_
          refine lv_iconst (v := (0 : Int32)) hx hb dX7_weather_47 (by decide) ?_
          obtain ⟨x116, now117, hg, hf⟩ := o2_s hf
          refine Ct.callV0 (ws' := wM g m0 m1 m2 m3 m4 m5 m6 m7 m8 m9 m10 m11 m12 now117 kept aside ik found carried T S) (As := [.int (0 : Int32), .int (0 : Int32)]) (rest := [.int x3]) (st1 := [.int x116, .int x3]) (c_X7_hour l g m0 m1 m2 m3 m4 m5 m6 m7 m8 m9 m10 m11 m12 now111 kept aside ik found carried T S (0 : Int32) (0 : Int32) hg) (cwV 2 hts gX7_weather_X7_hour rfl rfl rfl q_X7_hour ⟨Nat.le_of_ble_eq_true rfl, Nat.le_of_ble_eq_true rfl⟩) ⟨hx, hb, hml, hown, hts⟩ hE hP hD hS hA 7 0 rfl rfl rfl rfl hl.1 rfl rfl (Nat.le_of_ble_eq_true rfl) dX7_weather_48 (fun H locs hP hD hS => ?_)
          refine lv_goto (tgt := 68) hx hb dX7_weather_51 (by decide) ?_
          refine lv_iadd hx hb dX7_weather_68 ?_
          refine lv_istore_n (lv' := [(3, .int (x3 + x116)), (5, .int x110), (0, .ref m0), (1, .int x1), (4, .int x4)]) hx hb dX7_weather_69 rfl hl (by decide) rfl (fun ls hl => ?_)
          refine lv_iinc (v := (x4 + (1 : Int32))) (lv' := [(4, .int (x4 + (1 : Int32))), (3, .int (x3 + x116)), (5, .int x110), (0, .ref m0), (1, .int x1)]) hx hb dX7_weather_70 hl (k := 4) rfl rfl (by decide) rfl (fun ls hl => ?_)
          refine lv_goto (tgt := 26) hx hb dX7_weather_73 (by decide) ?_
          exact ih _ _ _ _ _ _  hf hP hD hS (lv_sub hl [3, 4, 1, 0] rfl) hk
  unfold fX7_weather at hf
  refine lv_aload_n hx hb dX7_weather_0 rfl (lv_at hl 0 rfl) ?_
  refine lv_iconst (v := (0 : Int32)) hx hb dX7_weather_1 (by decide) ?_
  refine lv_iconst (v := (0 : Int32)) hx hb dX7_weather_2 (by decide) ?_
  refine lv_iload_n hx hb dX7_weather_3 rfl (lv_at hl 1 rfl) ?_
  refine lv_iconst (v := (1 : Int32)) hx hb dX7_weather_4 (by decide) ?_
  refine lv_bipush (v := (100 : Int32)) hx hb dX7_weather_5 (by decide) ?_
  obtain ⟨x101, hg, hf⟩ := o1_s hf
  refine Ct.callV0 (ws' := wM g m0 m1 m2 m3 m4 m5 m6 m7 m8 m9 m10 m11 m12 now kept aside ik found carried T S) (As := [.int (0 : Int32), .int (0 : Int32), .int a1, .int (1 : Int32), .int (100 : Int32)]) (rest := []) (st1 := [.int x101]) (c_X7_refuses l g m0 m1 m2 m3 m4 m5 m6 m7 m8 m9 m10 m11 m12 now kept aside ik found carried T S (0 : Int32) (0 : Int32) a1 (1 : Int32) (100 : Int32) hg) (cwV 5 hts gX7_weather_X7_refuses rfl rfl rfl q_X7_refuses ⟨Nat.le_of_ble_eq_true rfl, Nat.le_of_ble_eq_true rfl⟩) ⟨hx, hb, hml, hown, hts⟩ hE hP hD hS hA 7 0 rfl rfl rfl rfl hl.1 rfl rfl (Nat.le_of_ble_eq_true rfl) dX7_weather_7 (fun H locs hP hD hS => ?_)
  refine lv_istore_n (lv' := [(2, .int x101), (0, .ref m0), (1, .int a1)]) hx hb dX7_weather_10 rfl hl (by decide) rfl (fun ls hl => ?_)
  refine lv_iload_n hx hb dX7_weather_11 rfl (lv_at hl 0 rfl) ?_
  refine lv_if_eq (tgt := 21) hx hb dX7_weather_12 (by decide) (fun hc => ?_) (fun hc => ?_)
  · have hf := if_t hf hc
    refine lv_iconst (v := (0 : Int32)) hx hb dX7_weather_21 (by decide) ?_
    refine lv_istore_n (lv' := [(3, .int (0 : Int32)), (2, .int x101), (0, .ref m0), (1, .int a1)]) hx hb dX7_weather_22 rfl hl (by decide) rfl (fun ls hl => ?_)
    refine lv_iconst (v := (0 : Int32)) hx hb dX7_weather_23 (by decide) ?_
    refine lv_istore (lv' := [(4, .int (0 : Int32)), (3, .int (0 : Int32)), (2, .int x101), (0, .ref m0), (1, .int a1)]) hx hb dX7_weather_24 hl (by decide) rfl (fun ls hl => ?_)
    refine L26 _ _ _ _ _ _ _ _ _ _  hf hP hD hS (lv_sub hl [3, 4, 1, 0] rfl) (fun now118 x119 H locs ls hf hP hD hS hl => ?_)
    refine lv_iload_n hx hb dX7_weather_76 rfl (lv_at hl 0 rfl) ?_
    obtain ⟨rfl, rfl, rfl⟩ := some_p3 hf
    rw [hQ]; exact Ct.iret hx hb hr hlocks hAe hP hD hS dX7_weather_77
  · have hf := if_f hf hc
    refine lv_aload_n hx hb dX7_weather_15 rfl (lv_at hl 1 rfl) ?_
    refine lv_iload_n hx hb dX7_weather_16 rfl (lv_at hl 0 rfl) ?_
    obtain ⟨x120, found121, hg, hf⟩ := o2_s hf
    refine Ct.callV0 (ws' := wM g m0 m1 m2 m3 m4 m5 m6 m7 m8 m9 m10 m11 m12 now kept aside ik found121 carried T S) (As := [.int x101]) (rest := []) (st1 := [.int x120]) (c_X7_finding l g m0 m1 m2 m3 m4 m5 m6 m7 m8 m9 m10 m11 m12 now kept aside ik found carried T S x101 hg) (cwV 1 hts gX7_weather_X7_finding rfl rfl rfl q_X7_finding ⟨Nat.le_of_ble_eq_true rfl, Nat.le_of_ble_eq_true rfl⟩) ⟨hx, hb, hml, hown, hts⟩ hE hP hD hS hA 7 0 rfl rfl rfl rfl hl.1 rfl rfl (Nat.le_of_ble_eq_true rfl) dX7_weather_17 (fun H locs hP hD hS => ?_)
    obtain ⟨rfl, rfl, rfl⟩ := some_p3 hf
    rw [hQ]; exact Ct.iret hx hb hr hlocks hAe hP hD hS dX7_weather_20
