/-! ===== what holds at the law's entry (printed by gen4.py) ===== -/
set_option maxRecDepth 100000
theorem inT_X0 : ∀ w ∈ u_ws RX0 TX0 3, w ∈ lw_tbl := fun w h => (goodIn_r (big := lw_tbl) (u_ws RX0 TX0 3) [184, 186, 188] (by decide +kernel) (by decide +kernel) w h).1
theorem inI_X0 : Cond.instantiable RX0 3 ∈ lw_tbl := List.mem_of_getElem? (i := 175) (by decide +kernel)
theorem inT_X1 : ∀ w ∈ u_ws RX1 TX1 9, w ∈ lw_tbl := fun w h => (goodIn_r (big := lw_tbl) (u_ws RX1 TX1 9) [119, 121, 123, 125, 127, 129, 131, 133, 135] (by decide +kernel) (by decide +kernel) w h).1
theorem inI_X1 : Cond.instantiable RX1 9 ∈ lw_tbl := List.mem_of_getElem? (i := 95) (by decide +kernel)
theorem inT_X2 : ∀ w ∈ u_ws RX2 TX2 3, w ∈ lw_tbl := fun w h => (goodIn_r (big := lw_tbl) (u_ws RX2 TX2 3) [251, 253, 255] (by decide +kernel) (by decide +kernel) w h).1
theorem inI_X2 : Cond.instantiable RX2 3 ∈ lw_tbl := List.mem_of_getElem? (i := 240) (by decide +kernel)
theorem inT_X3 : ∀ w ∈ u_ws RX3 TX3 8, w ∈ lw_tbl := fun w h => (goodIn_r (big := lw_tbl) (u_ws RX3 TX3 8) [157, 159, 161, 163, 165, 167, 169, 171] (by decide +kernel) (by decide +kernel) w h).1
theorem inI_X3 : Cond.instantiable RX3 8 ∈ lw_tbl := List.mem_of_getElem? (i := 140) (by decide +kernel)
theorem inT_X4 : ∀ w ∈ u_ws RX4 TX4 4, w ∈ lw_tbl := fun w h => (goodIn_r (big := lw_tbl) (u_ws RX4 TX4 4) [229, 231, 233, 235] (by decide +kernel) (by decide +kernel) w h).1
theorem inI_X4 : Cond.instantiable RX4 4 ∈ lw_tbl := List.mem_of_getElem? (i := 192) (by decide +kernel)
theorem inT_X5 : ∀ w ∈ u_ws RX5 TX5 6, w ∈ lw_tbl := fun w h => (goodIn_r (big := lw_tbl) (u_ws RX5 TX5 6) [212, 214, 216, 218, 220, 222] (by decide +kernel) (by decide +kernel) w h).1
theorem inI_X5 : Cond.instantiable RX5 6 ∈ lw_tbl := List.mem_of_getElem? (i := 198) (by decide +kernel)
theorem inT_X6 : ∀ w ∈ u_ws RX6 TX6 11, w ∈ lw_tbl := fun w h => (goodIn_r (big := lw_tbl) (u_ws RX6 TX6 11) [269, 271, 273, 275, 277, 279, 281, 283, 285, 287, 289] (by decide +kernel) (by decide +kernel) w h).1
theorem inI_X6 : Cond.instantiable RX6 11 ∈ lw_tbl := List.mem_of_getElem? (i := 87) (by decide +kernel)
theorem inT_X7 : ∀ w ∈ u_ws RX7 TX7 22, w ∈ lw_tbl := fun w h => (goodIn_r (big := lw_tbl) (u_ws RX7 TX7 22) [932, 934, 936, 938, 940, 942, 944, 946, 948, 950, 952, 954, 956, 958, 960, 962, 964, 966, 968, 970, 972, 974] (by decide +kernel) (by decide +kernel) w h).1
theorem inI_X7 : Cond.instantiable RX7 22 ∈ lw_tbl := List.mem_of_getElem? (i := 896) (by decide +kernel)
theorem in_aI : Cond.arrayClass .int ∈ lw_tbl := List.mem_of_getElem? (i := 138) (by decide +kernel)
theorem in_aS : Cond.arrayOver (.object "RainVault$Sheet") ∈ lw_tbl := List.mem_of_getElem? (i := 239) (by decide +kernel)
theorem in_aT : Cond.arrayOver (.object "java/lang/String") ∈ lw_tbl := List.mem_of_getElem? (i := 902) (by decide +kernel)
theorem NST_in : NST = [103, 105, 106, 108, 109, 111, 112, 114, 116, 118, 149, 152, 154, 156, 183, 205, 207, 209, 246, 248, 250, 339, 353, 356, 96, 241, 355, 358, 403, 494, 505, 551, 552, 557, 564, 600, 609, 678, 767, 776, 789, 804, 843].filterMap (fun i => lw_tbl[i]?) := by decide +kernel
theorem NST_on : NST.all (fun w => w.onTables) = true := by decide +kernel
theorem in_zL : Cond.laysStatic "RainVault" "LEAST_FACT" "[I" ∈ lw_tbl := List.mem_of_getElem? (i := 354) (by decide +kernel)
theorem in_zM : Cond.laysStatic "RainVault" "MOST_FACT" "[I" ∈ lw_tbl := List.mem_of_getElem? (i := 357) (by decide +kernel)
theorem in_zK : Cond.laysStatic "RainVault" "KINDS_OF" "[I" ∈ lw_tbl := List.mem_of_getElem? (i := 340) (by decide +kernel)
theorem in_zC : Cond.laysStatic "java/lang/String" "COMPACT_STRINGS" "Z" ∈ lw_tbl := List.mem_of_getElem? (i := 721) (by decide +kernel)
theorem in_zF : Cond.laysStatic "jdk/internal/util/Preconditions" "SIOOBE_FORMATTER" "Ljava/util/function/BiFunction;" ∈ lw_tbl := List.mem_of_getElem? (i := 737) (by decide +kernel)
theorem in_yV : Cond.initialized "RainVault" ∈ lw_tbl := List.mem_of_getElem? (i := 71) (by decide +kernel)
theorem in_yS : Cond.initialized "java/lang/String" ∈ lw_tbl := List.mem_of_getElem? (i := 82) (by decide +kernel)
theorem in_yP : Cond.initialized "jdk/internal/util/Preconditions" ∈ lw_tbl := List.mem_of_getElem? (i := 84) (by decide +kernel)
/-- what the start gives, one by one -/
def flG : List Cond := flatC (Jvm.Cond.and given_1 narrow_1)
abbrev tLeast : Term := .static "RainVault" "LEAST_FACT" "[I"
abbrev tMost : Term := .static "RainVault" "MOST_FACT" "[I"
abbrev tKinds : Term := .static "RainVault" "KINDS_OF" "[I"
theorem fl_L : Cond.arrayOf tLeast .int ∈ flG ∧ Cond.eq (.length tLeast) (.int (Int32.ofNat 11)) ∈ flG ∧ ∀ j, j < 11 → Cond.eq (.elem tLeast (.int (Int32.ofNat j))) (.int (kLeast j)) ∈ flG := by decide +kernel
theorem fl_M : Cond.arrayOf tMost .int ∈ flG ∧ Cond.eq (.length tMost) (.int (Int32.ofNat 11)) ∈ flG ∧ ∀ j, j < 11 → Cond.eq (.elem tMost (.int (Int32.ofNat j))) (.int (kMost j)) ∈ flG := by decide +kernel
theorem fl_K : Cond.arrayOf tKinds .int ∈ flG ∧ Cond.eq (.length tKinds) (.int (Int32.ofNat 7)) ∈ flG ∧ ∀ j, j < 7 → Cond.eq (.elem tKinds (.int (Int32.ofNat j))) (.int (kKinds j)) ∈ flG := by decide +kernel
theorem fl_C : Cond.eq (.static "java/lang/String" "COMPACT_STRINGS" "Z") (.int 1) ∈ flG ∧ Cond.isRef (.static "jdk/internal/util/Preconditions" "SIOOBE_FORMATTER" "Ljava/util/function/BiFunction;") ∈ flG := by decide +kernel
/-- the texts' terms -/
def tmL : List Nat := [107, 79, 81, 83, 85, 87, 89, 91, 93, 95, 97, 99, 101, 103, 105]
def tmS (i : Nat) : Term := .string "RainVault$Tokens" (tmL.getD i 0)
abbrev tmV (i : Nat) : Term := .field (tmS i) "java/lang/String" "value" "[B"
theorem fl_S : ∀ i, i < 15 → Cond.exactly (tmS i) "java/lang/String" ∈ flG ∧ Cond.eq (.field (tmS i) "java/lang/String" "coder" "B") (.int 0) ∈ flG ∧ Cond.arrayOf (tmV i) .byte ∈ flG ∧ Cond.eq (.length (tmV i)) (.int (Int32.ofNat (sLen.getD i 0))) ∈ flG := by decide +kernel
theorem fl_E : ∀ i, i < 15 → ∀ j, j < sLen.getD i 0 → Cond.eq (.elem (tmV i) (.int (Int32.ofNat j))) (.int ((sByt.getD i []).getD j 0)) ∈ flG := by decide +kernel
theorem fl_Q : ∀ q ∈ sTab, (Term.string q.1 q.2.1 = tmS q.2.2.2 ∨ Cond.eq (tmS q.2.2.2) (.string q.1 q.2.1) ∈ flG) ∧ q.2.2.2 < 15 := by decide +kernel
theorem sTab_in : sTab.map (fun q => Cond.stringRef q.1 q.2.1 q.2.2.1) = [704, 705, 706, 707, 693, 694, 695, 696, 697, 698, 699, 700, 701, 702, 703, 1324, 1325, 1326, 1327, 1308, 903, 1317, 1318, 1319, 904, 905, 906, 907, 908, 909].filterMap (fun i => lw_tbl[i]?) := by decide +kernel
theorem sDis : ∀ i, i < 15 → ∀ j, j < 15 → i ≠ j → Int32.ofNat (sLen.getD i 0) ≠ Int32.ofNat (sLen.getD j 0) ∨ ((List.range 7).any (fun k => decide (k < sLen.getD i 0) && decide (k < sLen.getD j 0) && decide ((sByt.getD i []).getD k 0 ≠ (sByt.getD j []).getD k 0))) = true := by decide +kernel
theorem ev_eq {args : Array Value} {s : State} {t u : Term} {a : Nat} (h : (Cond.eq t u).before args s = true) (ht : t.eval args s none [] s = some (.ref a)) : u.eval args s none [] s = some (.ref a) := by
  cases hv : u.eval args s none [] s with
  | none => simp [Cond.before, Cond.holds, Cond.value, hv] at h
  | some w =>
    simp only [Cond.before, Cond.holds, Cond.value, hv, ht] at h
    cases w <;> simp_all
theorem ev_len {args : Array Value} {s : State} {t u : Term} {c n d : String} (h : t.eval args s none [] s = u.eval args s none [] s) : (Term.length (.field t c n d)).eval args s none [] s = (Term.length (.field u c n d)).eval args s none [] s := by simp only [Term.eval, h]
theorem ev_elm {args : Array Value} {s : State} {t u x : Term} {c n d : String} (h : t.eval args s none [] s = u.eval args s none [] s) : (Term.elem (.field t c n d) x).eval args s none [] s = (Term.elem (.field u c n d) x).eval args s none [] s := by simp only [Term.eval, h]
/-- the texts at the start: their cells, apart, and where the classes name them -/
theorem texts_start {args : Array Value} {s : State} {A : Nat → Prop} (fl : ∀ c ∈ flG, c.before args s = true) (hts : ∀ w ∈ lw_tbl, w.before args s = true) (hA : ∀ a : Nat, a < s.heap.size → ¬ A a) : ∃ adK adV : Nat → Nat, vk_S 15 sLen sByt adK adV A s s.heap ∧ ∀ q ∈ sTab, vk_R q.1 q.2.1 q.2.2.1 (adK q.2.2.2) s := by
  have h0 : ∀ i : Nat, ∃ q : Nat × Nat, i < 15 → (tmS i).eval args s none [] s = some (.ref q.1) ∧ va_O "java/lang/String" q.1 A s s.heap ∧ va_OF "java/lang/String" "coder" "B" (.int 0) q.1 A s s.heap ∧ va_OF "java/lang/String" "value" "[B" (.ref q.2) q.1 A s s.heap ∧ va_T .byte q.2 (sLen.getD i 0) (fun j => .int ((sByt.getD i []).getD j 0)) A s s.heap := by
    intro i
    by_cases hi : i < 15
    · obtain ⟨m1, m2, m3, m4⟩ := fl_S i hi
      have hlt : sLen.getD i 0 < 2 ^ 31 := by
        have : ∀ i, i < 15 → sLen.getD i 0 < 2 ^ 31 := by decide +kernel
        exact this i hi
      obtain ⟨aK, aV, h1, h2⟩ := vk_Sof (N := 1) (tm := fun _ => tmS i) (len := [sLen.getD i 0]) (byt := [sByt.getD i []]) (A := A) (args := args) (s := s) (fun k hk => by
        obtain rfl : k = 0 := by omega
        exact hlt) (fun _ _ => fl _ m1) (fun _ _ => fl _ m2) (fun _ _ => fl _ m3) (fun k hk => by
        obtain rfl : k = 0 := by omega
        exact fl _ m4) (fun k hk j hj => by
        obtain rfl : k = 0 := by omega
        exact fl _ (fl_E i hi j hj)) (fun k j hk hj e => absurd (show k = j by omega) e) hA
      exact ⟨(aK 0, aV 0), fun _ => ⟨h2 0 (by decide), h1.1 0 (by decide)⟩⟩
    · exact ⟨(0, 0), fun h => absurd h hi⟩
  obtain ⟨ad, had⟩ := Classical.axiomOfChoice h0
  refine ⟨fun i => (ad i).1, fun i => (ad i).2, ⟨fun i hi => (had i hi).2, fun i j hi hj e => ?_⟩, fun q hq => ?_⟩
  · by_cases hij : i = j
    · exact hij
    · have e : (ad i).1 = (ad j).1 := e
      have he : (tmS i).eval args s none [] s = (tmS j).eval args s none [] s := by rw [(had i hi).1, (had j hj).1, e]
      rcases sDis i hi j hj hij with h | h
      · have h1 := va_eqt (fl _ (fl_S i hi).2.2.2)
        have h2 := va_eqt (fl _ (fl_S j hj).2.2.2)
        rw [ev_len he] at h1
        exact absurd (Value.int.inj (Option.some.inj (h1.symm.trans h2))) h
      · obtain ⟨k, -, hk⟩ := List.any_eq_true.mp h
        simp only [Bool.and_eq_true, decide_eq_true_eq] at hk
        have h1 := va_eqt (fl _ (fl_E i hi k hk.1.1))
        have h2 := va_eqt (fl _ (fl_E j hj k hk.1.2))
        rw [ev_elm he] at h1
        exact absurd (Value.int.inj (Option.some.inj (h1.symm.trans h2))) hk.2
  · obtain ⟨h1, h2⟩ := fl_Q q hq
    have hm : Cond.stringRef q.1 q.2.1 q.2.2.1 ∈ lw_tbl := by
      have h3 : Cond.stringRef q.1 q.2.1 q.2.2.1 ∈ sTab.map (fun q => Cond.stringRef q.1 q.2.1 q.2.2.1) := List.mem_map_of_mem hq
      rw [sTab_in] at h3
      obtain ⟨i, -, hi⟩ := List.mem_filterMap.mp h3
      exact List.mem_of_getElem? hi
    refine vk_R.of (hts _ hm) ?_
    rcases h1 with h1 | h1
    · rw [h1]; exact (had _ h2).1
    · exact ev_eq (fl _ h1) (had _ h2).1
/-- the ground at the start -/
theorem ev_start {args : Array Value} {s : State} (fl : ∀ c ∈ flG, c.before args s = true) (hts : ∀ w ∈ lw_tbl, w.before args s = true) : ∃ g : gG, EV g (fun q : Nat => s.heap.size ≤ q) s ∧ aoX s := by
  have hA : ∀ a : Nat, a < s.heap.size → ¬ (fun q : Nat => s.heap.size ≤ q) a := fun a h => Nat.not_le.mpr h
  obtain ⟨c0, i0, k0⟩ := u_known (C := RX0) (T := TX0) (N := 3) (n := 3) hts inT_X0 (hts _ inI_X0)
  obtain ⟨c1, i1, k1⟩ := u_known (C := RX1) (T := TX1) (N := 9) (n := 9) hts inT_X1 (hts _ inI_X1)
  obtain ⟨c2, i2, k2⟩ := u_known (C := RX2) (T := TX2) (N := 3) (n := 3) hts inT_X2 (hts _ inI_X2)
  obtain ⟨c3, i3, k3⟩ := u_known (C := RX3) (T := TX3) (N := 8) (n := 8) hts inT_X3 (hts _ inI_X3)
  obtain ⟨c4, i4, k4⟩ := u_known (C := RX4) (T := TX4) (N := 4) (n := 4) hts inT_X4 (hts _ inI_X4)
  obtain ⟨c5, i5, k5⟩ := u_known (C := RX5) (T := TX5) (N := 6) (n := 6) hts inT_X5 (hts _ inI_X5)
  obtain ⟨c6, i6, k6⟩ := u_known (C := RX6) (T := TX6) (N := 11) (n := 11) hts inT_X6 (hts _ inI_X6)
  obtain ⟨c7, i7, k7⟩ := u_known (C := RX7) (T := TX7) (N := 22) (n := 22) hts inT_X7 (hts _ inI_X7)
  obtain ⟨dC, dI, hKc⟩ : ∃ (dC : Nat → ClassId) (dI : Nat → Nat → Nat), ∀ (k : Nat) (q : vw_C), vwK[k]? = some q → u_Kn s q.1 q.2.1 q.2.2 (dC k) (dI k) := by
    refine ⟨fun k => [c0, c1, c2, c3, c4, c5, c6, c7].getD k c0, fun k => [i0, i1, i2, i3, i4, i5, i6, i7].getD k i0, ?_⟩
    intro k q hq
    match k, hq with
    | 0, hq => cases hq; exact k0
    | 1, hq => cases hq; exact k1
    | 2, hq => cases hq; exact k2
    | 3, hq => cases hq; exact k3
    | 4, hq => cases hq; exact k4
    | 5, hq => cases hq; exact k5
    | 6, hq => cases hq; exact k6
    | 7, hq => cases hq; exact k7
    | k + 8, hq => exact nomatch (show (none : Option vw_C) = some q from hq)
  obtain ⟨aI, kI, pI, a1, a2, a3⟩ := Cond.arrayClass_spec (hts _ in_aI)
  obtain ⟨pS, aS, kS, b1, b2, b3, b4, b5⟩ := Cond.arrayOver_spec (hts _ in_aS)
  obtain ⟨pT, aT, kT, e1, e2, e3, e4, e5⟩ := Cond.arrayOver_spec (hts _ in_aT)
  obtain ⟨tL, tL1, tL2⟩ := va_Tof (f := fun j => .int (kLeast j)) (A := fun q : Nat => s.heap.size ≤ q) (by decide) (fl _ fl_L.1) (va_eqt (fl _ fl_L.2.1)) (fun j hj => va_eqt (fl _ (fl_L.2.2 j hj))) hA
  obtain ⟨tM, tM1, tM2⟩ := va_Tof (f := fun j => .int (kMost j)) (A := fun q : Nat => s.heap.size ≤ q) (by decide) (fl _ fl_M.1) (va_eqt (fl _ fl_M.2.1)) (fun j hj => va_eqt (fl _ (fl_M.2.2 j hj))) hA
  obtain ⟨tK, tK1, tK2⟩ := va_Tof (f := fun j => .int (kKinds j)) (A := fun q : Nat => s.heap.size ≤ q) (by decide) (fl _ fl_K.1) (va_eqt (fl _ fl_K.2.1)) (fun j hj => va_eqt (fl _ (fl_K.2.2 j hj))) hA
  obtain ⟨adK, adV, hS1, hS2⟩ := texts_start (A := fun q : Nat => s.heap.size ≤ q) fl hts hA
  obtain ⟨ad, d0, d1, d2, dK, dV⟩ : ∃ ad : Nat → Nat, ad 0 = tL ∧ ad 1 = tM ∧ ad 2 = tK ∧ (∀ i, i < 15 → ad (10 + i) = adK i) ∧ ∀ i, i < 15 → ad (30 + i) = adV i := by
    refine ⟨fun n => if n < 10 then [tL, tM, tK].getD n 0 else if n < 30 then adK (n - 10) else adV (n - 30), rfl, rfl, rfl, fun i hi => ?_, fun i hi => ?_⟩
    · show (if 10 + i < 10 then _ else if 10 + i < 30 then adK (10 + i - 10) else _) = adK i
      rw [if_neg (by omega), if_pos (by omega), Nat.add_sub_cancel_left]
    · show (if 30 + i < 10 then _ else if 30 + i < 30 then _ else adV (30 + i - 30)) = adV i
      rw [if_neg (by omega), if_neg (by omega), Nat.add_sub_cancel_left]
  refine ⟨((dC, dI), (fun k => [aI, aS, aT].getD k aI), ad), ⟨⟨hKc, fun k q hq => ?_⟩, fun w hw => ?_, ⟨?_, ?_, ?_⟩, trivial, ⟨?_, ?_, ?_⟩, ⟨fun i hi => ?_, fun i j hi hj e => ?_⟩, fun q hq => ?_, ?_, ?_⟩, va_AO.of (hts _ in_aS), va_AO.of (hts _ in_aT)⟩
  · match k, hq with
    | 0, hq => cases hq; exact ⟨fun n z => ⟨fun k h => (by cases h), kI, a2, pI, a3⟩, a1⟩
    | 1, hq => cases hq; exact ⟨fun n z => ⟨fun k h => (by cases h), kS, b3, pS, b4⟩, kS, pS, b3, b4, b1, b5⟩
    | 2, hq => cases hq; exact ⟨fun n z => ⟨fun k h => (by cases h), kT, e3, pT, e4⟩, kT, pT, e3, e4, e1, e5⟩
    | k + 3, hq => exact nomatch (show (none : Option (ClassId × FieldType)) = some q from hq)
  · have h1 := List.all_eq_true.mp NST_on w hw
    rw [NST_in] at hw
    obtain ⟨i, -, hi⟩ := List.mem_filterMap.mp hw
    exact va_Nw.of h1 (hts w (List.mem_of_getElem? hi))
  · show va_T .int (ad 0) _ _ _ _ _; rw [d0]; exact tL2
  · show va_T .int (ad 1) _ _ _ _ _; rw [d1]; exact tM2
  · show va_T .int (ad 2) _ _ _ _ _; rw [d2]; exact tK2
  · show va_Z _ _ _ (.ref (ad 0)) _ _ _; rw [d0]; exact va_Zof (hts _ in_zL) (hts _ in_yV) tL1 hA
  · show va_Z _ _ _ (.ref (ad 1)) _ _ _; rw [d1]; exact va_Zof (hts _ in_zM) (hts _ in_yV) tM1 hA
  · show va_Z _ _ _ (.ref (ad 2)) _ _ _; rw [d2]; exact va_Zof (hts _ in_zK) (hts _ in_yV) tK1 hA
  · show va_O _ (ad (10 + i)) _ _ _ ∧ va_OF _ _ _ _ (ad (10 + i)) _ _ _ ∧ va_OF _ _ _ (.ref (ad (30 + i))) (ad (10 + i)) _ _ _ ∧ va_T _ (ad (30 + i)) _ _ _ _ _
    rw [dK i hi, dV i hi]
    exact hS1.1 i hi
  · have e : ad (10 + i) = ad (10 + j) := e
    rw [dK i hi, dK j hj] at e
    exact hS1.2 i j hi hj e
  · show vk_R _ _ _ (ad (10 + q.2.2.2)) _
    rw [dK _ (fl_Q q hq).2]
    exact hS2 q hq
  · exact va_Zof (hts _ in_zC) (hts _ in_yS) (va_eqi (fl _ fl_C.1)) hA
  · exact va_Zqof (hts _ in_zF) (hts _ in_yP) (fl _ fl_C.2) hA
