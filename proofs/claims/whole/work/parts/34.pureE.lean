/-! ===== guard, sides, leaks ===== -/
theorem fault_v {R : Rf} {now : Nat → Int32} (h : R.2.2.2.2.2.2.1 = now 0 + 0) (a b c : Int32) : fX6_faultOfTrial R a b c = some (rfS now a b c 1 20) := by
  unfold fX6_faultOfTrial rfS
  rw [rain6_v, ob, win_v, ob, late6_v, ob, h, Int32.add_zero]
  by_cases h1 : raB a b
  · rw [if_pos h1, if_pos h1]
    by_cases h2 : ¬ c < (1 : Int32) ∧ ¬ (20 : Int32) < c
    · rw [if_pos h2, if_pos h2]
      by_cases h3 : ¬ (now 0 + c) ≤ (9999 : Int32)
      · rw [if_pos h3, if_pos h3]
      · rw [if_neg h3, if_neg h3]
    · rw [if_neg h2, if_neg h2]
  · rw [if_neg h1, if_neg h1]
theorem rfS_or (now : Nat → Int32) (a b c lo hi : Int32) : (rfS now a b c lo hi = 0 ∧ raB a b ∧ ¬ c < lo ∧ ¬ hi < c) ∨ rfS now a b c lo hi = -1000001 ∨ rfS now a b c lo hi = -1000005 := by
  unfold rfS
  by_cases h1 : raB a b
  · rw [if_pos h1]
    by_cases h2 : ¬ c < lo ∧ ¬ hi < c
    · rw [if_pos h2]
      by_cases h3 : ¬ (now 0 + c) ≤ (9999 : Int32)
      · rw [if_pos h3]; exact Or.inr (Or.inr rfl)
      · rw [if_neg h3]; exact Or.inl ⟨rfl, h1, h2⟩
    · rw [if_neg h2]; exact Or.inr (Or.inl rfl)
  · rw [if_neg h1]; exact Or.inr (Or.inl rfl)
theorem sides_L {n k : Nat} (hn : n < 9) {R : Rf} {now : Nat → Int32} (h : SM n 0 0 R now) (hci : CI k now) (am : Int32) {m : Nat} (hm : m < 1000) (kx : Rf → Int32 → Option (Int32 × Rf × (Nat → Int32))) (kx' : (Nat → Int32) → Int32 → Option (Int32 × (Nat → Int32) × (Nat → Int32) × (Nat → Int32))) : ∀ (j i f f' : Nat) (B : Rf) (x : Int32), i + j = 4 → j < f → j < f' → (B.2.2.2.2.2.1 = 0 ∨ B.2.2.2.2.2.1 = 1) → ∃ B' v, fX6_sides_L24 R am (nI m) kx f B x (nI i) = kx B' v ∧ fX7_sides_L38 now am (nI m) kx' f' now x (nI i) = kx' now v ∧ (B'.2.2.2.2.2.1 = 0 ∨ B'.2.2.2.2.2.1 = 1) := by
  intro j
  induction j with
  | zero =>
    intro i f f' B x hi hf hf' hB
    obtain ⟨f, rfl⟩ : ∃ q, f = q + 1 := ⟨f - 1, by omega⟩
    obtain ⟨f', rfl⟩ : ∃ q, f' = q + 1 := ⟨f' - 1, by omega⟩
    have hle : (4 : Int32) ≤ nI i := nI_le (a := 4) (by omega) (by omega)
    exact ⟨B, x, by rw [fX6_sides_L24, if_pos hle], by rw [fX7_sides_L38, if_pos hle], hB⟩
  | succ j ih =>
    intro i f f' B x hi hf hf' hB
    obtain ⟨f, rfl⟩ : ∃ q, f = q + 1 := ⟨f - 1, by omega⟩
    obtain ⟨f', rfl⟩ : ∃ q, f' = q + 1 := ⟨f' - 1, by omega⟩
    have hle : ¬ (4 : Int32) ≤ nI i := nle (b := 4) (by omega) (by omega)
    obtain ⟨R', v, b, e1, e2, e3, g⟩ := leavesOpen_v hn (s := i) (by omega) am hm now h hci
    rw [fX6_sides_L24, if_neg hle, become_v B h.c01, o1_v, e1, o2_v, e2, ob, fX7_sides_L38, if_neg hle, e3, o2_v, show nI i + (1 : Int32) = nI (i + 1) from nI_1 i]
    by_cases q : b = true
    · rw [if_pos q, if_neg (fun z => (bz _).mp z q)]
      exact ih (i + 1) f f' R' _ (by omega) (by omega) (by omega) g
    · rw [if_neg q, if_pos ((bz _).mpr q), Int32.or_zero]
      exact ih (i + 1) f f' R' _ (by omega) (by omega) (by omega) g
theorem op_sides {R B : Rf} {now aside fd found : Nat → Int32} (hR : Rl R now) (hB : B.2.2.2.2.2.1 = 0 ∨ B.2.2.2.2.2.1 = 1) (hF : Fnd fd found) (a c : Int32) : P3 now (fX6_sides R B fd a c) (fX7_sides now aside found a c) := by
  obtain ⟨n, k, hn, h, hci, hsp⟩ := hR
  unfold fX6_sides fX7_sides
  rw [fault_v h.ho, o1_v, ref_v, o1_v]
  rcases rfS_or now 0 a c 1 20 with ⟨e, h1, h2⟩ | e | e
  · rw [e, if_pos rfl, if_pos rfl, copy7_v, o1_v]
    obtain ⟨m, hm1, hm, rfl⟩ := inW1 (m := 20) (by omega) h2
    obtain ⟨B', v, g1, g2, g3⟩ := sides_L hn h hci a (m := m) (by omega) (fun B110 x111 => some (x111, B110, fd)) (fun now107 x108 => some (x108, now107, now, found)) 4 0 fu fu B 0 (by omega) (fu_gt (by omega)) (fu_gt (by omega)) hB
    exact ⟨v, B', fd, now, found, g1, g2, g3, hF⟩
  · rw [e, if_neg (by decide), if_neg (by decide)]
    exact P3.fnd hB hF (by omega) cB
  · rw [e, if_neg (by decide), if_neg (by decide)]
    exact P3.fnd hB hF (by omega) cS'
theorem guard_L {n k : Nat} (hn : n < 9) {s : Nat} (hs : s < 4) {R : Rf} {now fd found : Nat → Int32} (hF : Fnd fd found) (h : SM n 0 0 R now) (hci : CI k now) (am : Int32) {m : Nat} (hm : m < 1000) : ∀ (j i f f' : Nat) (B : Rf), i + j = n → j < f → j + 1 < f' → (B.2.2.2.2.2.1 = 0 ∨ B.2.2.2.2.2.1 = 1) → P3 now (fX6_guard_L63 R fd (nI s) am (nI m) (fun B116 => o2 (fX6_finding fd (-1000004 : Int32)) (fun x117 fd118 => some (x117, B116, fd118))) f B (nI i)) (fX7_guard_L50 now (nI s) am (nI m) 1 (fun now115 x116 => if 0 ≤ x116 then (some (x116, now115, now, found)) else (o2 (fX7_finding found (-1000004 : Int32)) (fun x117 found118 => some (x117, now115, now, found118)))) f' now (-1) (nI i)) := by
  intro j
  induction j with
  | zero =>
    intro i f f' B hi hf hf' hB
    obtain ⟨f, rfl⟩ : ∃ q, f = q + 1 := ⟨f - 1, by omega⟩
    obtain ⟨f', rfl⟩ : ∃ q, f' = q + 1 := ⟨f' - 1, by omega⟩
    rw [fX6_guard_L63, h.n2, if_pos (nI_le (by omega) (by omega)), fX7_guard_L50, show rd now 120 (2 : Int32) _ = _ from rd_v now (i := 2) _ (by omega) (by omega), h.n1, if_pos (nI_le (by omega) (by omega)), if_neg (by decide)]
    exact P3.fnd hB hF (by omega) cN
  | succ j ih =>
    intro i f f' B hi hf hf' hB
    obtain ⟨f, rfl⟩ : ∃ q, f = q + 1 := ⟨f - 1, by omega⟩
    obtain ⟨f', rfl⟩ : ∃ q, f' = q + 2 := ⟨f' - 2, by omega⟩
    have h2 := h.set (c := i) (w := 4) (by omega) (by omega) (by omega) (-1)
    have c2 : CI k (upd now (16 + 10 * i + 4) (-1)) := hci.up (by omega)
    obtain ⟨R', v, b, e1, e2, e3, g⟩ := leavesOpen_v hn hs am hm now h2 c2
    rw [fX6_guard_L63, if_neg (show ¬ R.2.2.2.1 ≤ nI i by rw [h.n2]; exact nle (by omega) (by omega)), become_v B h.c01, o1_v, set_4 R _ (by omega), o1_v, e1, o2_v, e2, ob, fX7_guard_L50, show rd now 120 (2 : Int32) _ = _ from rd_v now (i := 2) _ (by omega) (by omega), h.n1, if_neg (nle (by omega) (by omega)), if_neg (show ¬ (1 : Int32) = 0 by decide), if_neg (show ¬ (0 : Int32) ≤ -1 by decide), show fX7_at (nI i) (4 : Int32) = some (nI (16 + 10 * i + 4)) from at7_v i 4, o1_v, wr_v now _ _ (by omega) (by omega), e3, o2_v, show nI i + (1 : Int32) = nI (i + 1) from nI_1 i]
    by_cases q : b = true
    · rw [if_pos q, if_neg (fun z => (bz _).mp z q)]
      exact ih (i + 1) f (f' + 1) R' (by omega) (by omega) (by omega) g
    · rw [if_neg q, if_pos ((bz _).mpr q), fX7_guard_L50, show rd now 120 (2 : Int32) _ = _ from rd_v now (i := 2) _ (by omega) (by omega)]
      have hle : (0 : Int32) ≤ nI i := nI_le (a := 0) (by omega) (by omega)
      rw [if_pos hle, if_neg (show ¬ (1 : Int32) = 0 by decide), if_pos hle, ite_self]
      exact ⟨_, _, _, _, _, rfl, rfl, g, hF⟩
theorem op_guard {R B : Rf} {now aside fd found : Nat → Int32} (hR : Rl R now) (hB : B.2.2.2.2.2.1 = 0 ∨ B.2.2.2.2.2.1 = 1) (hF : Fnd fd found) (a b c : Int32) : P3 now (fX6_guard R B fd a b c) (fX7_guard now aside found a b c) := by
  obtain ⟨n, k, hn, h, hci, hsp⟩ := hR
  unfold fX6_guard fX7_guard
  rw [fault_v h.ho, o1_v, ref_v, o1_v]
  rcases rfS_or now a b c 1 20 with ⟨e, h1, h2⟩ | e | e
  · rw [e, if_pos rfl, if_pos rfl, copy7_v, o1_v, become_v B h.c01, o1_v]
    obtain ⟨s, hs, rfl⟩ := inW (m := 3) (by omega) h1.1
    obtain ⟨m, hm1, hm, rfl⟩ := inW1 (m := 20) (by omega) h2
    obtain ⟨R', v, bb, e1, e2, e3, g⟩ := leavesOpen_v hn hs b (m := m) (by omega) now h hci
    rw [e1, o2_v, e2, ob, e3, o2_v]
    by_cases q : bb = true
    · rw [if_pos q, if_pos q]
      exact guard_L hn hs hF h hci b (by omega) n 0 fu fu R' (by omega) (fu_gt (by omega)) (fu_gt (by omega)) g
    · rw [if_neg q, if_neg q]
      obtain ⟨f', ef⟩ : ∃ f', fu = f' + 1 := ⟨999999, rfl⟩
      rw [ef, fX7_guard_L50, show rd now 120 (2 : Int32) _ = _ from rd_v now (i := 2) _ (by omega) (by omega), if_pos rfl, ite_self, if_neg (by decide)]
      exact P3.fnd g hF (by omega) cN
  · rw [e, if_neg (by decide), if_neg (by decide)]
    exact P3.fnd hB hF (by omega) cB
  · rw [e, if_neg (by decide), if_neg (by decide)]
    exact P3.fnd hB hF (by omega) cS'
