/-! ===== trials ===== -/
/-- n hours in a row; how often it gives is a number of at most n -/
theorem hoursq_L {n k : Nat} (hn : n < 9) {s : Nat} (hs : s < 4) (am : Int32) {d e : Int32} (m : Nat) (hm : m < 2147483648) (kx : Rf → Int32 → Option (Int32 × Rf)) (kx' : (Nat → Int32) → Int32 → Option (Int32 × (Nat → Int32))) : ∀ (j i f f' : Nat) (R : Rf) (now : Nat → Int32) (x : Nat), i + j = m → j < f → j < f' → SM n d e R now → CI k now → ∃ R' now' q, fX1_passHours_L6 (nI s) am (nI m) kx f R (nI x) (nI i) = kx R' (nI q) ∧ fX7_hoursGo_L6 (nI s) am (nI m) kx' f' now (nI x) (nI i) = kx' now' (nI q) ∧ SM n d e R' now' ∧ CI k now' ∧ Kp n now now' ∧ q ≤ x + j := by
  intro j
  induction j with
  | zero =>
    intro i f f' R now x hi hf hf' h hci
    obtain ⟨f, rfl⟩ : ∃ q, f = q + 1 := ⟨f - 1, by omega⟩
    obtain ⟨f', rfl⟩ : ∃ q, f' = q + 1 := ⟨f' - 1, by omega⟩
    exact ⟨R, now, x, by rw [fX1_passHours_L6, if_pos (nI_le (by omega) (by omega))], by rw [fX7_hoursGo_L6, if_pos (nI_le (by omega) (by omega))], h, hci, Kp.rf _, by omega⟩
  | succ j ih =>
    intro i f f' R now x hi hf hf' h hci
    obtain ⟨f, rfl⟩ : ∃ q, f = q + 1 := ⟨f - 1, by omega⟩
    obtain ⟨f', rfl⟩ : ∃ q, f' = q + 1 := ⟨f' - 1, by omega⟩
    obtain ⟨R1, now1, e1, e2, h1, k1, -⟩ := hour_v hn hs am d e h
    have c1 := hci.kp hn k1
    rw [fX1_passHours_L6, if_neg (nle (by omega) (by omega)), e1, o1_v, open1_v hn h1 c1, o1_v, fX7_hoursGo_L6, if_neg (nle (by omega) (by omega)), e2, op7_v hn h1 c1, o1_v, o2_v, show nI i + (1 : Int32) = nI (i + 1) from nI_1 i]
    by_cases q : opB now1 k = true
    · rw [if_neg (fun z => (bz _).mp z q), if_pos q, show nI x + (1 : Int32) = nI (x + 1) from nI_1 x]
      obtain ⟨R2, now2, v, g1, g2, g3, g4, g5, g6⟩ := ih (i + 1) f f' R1 now1 (x + 1) (by omega) (by omega) (by omega) h1 c1
      exact ⟨R2, now2, v, g1, g2, g3, g4, k1.tr g5, by omega⟩
    · rw [if_pos ((bz _).mpr q), if_neg q, Int32.add_zero]
      obtain ⟨R2, now2, v, g1, g2, g3, g4, g5, g6⟩ := ih (i + 1) f f' R1 now1 x (by omega) (by omega) (by omega) h1 c1
      exact ⟨R2, now2, v, g1, g2, g3, g4, k1.tr g5, by omega⟩
theorem hoursq_v {n k : Nat} (hn : n < 9) {s : Nat} (hs : s < 4) (am : Int32) {d e : Int32} {m : Nat} (hm : m < 1000) {R : Rf} {now : Nat → Int32} (h : SM n d e R now) (hci : CI k now) : ∃ R' now' v, fX1_passHours R (nI s) am (nI m) = some (v, R') ∧ fX7_hoursGo now (nI s) am (nI m) = some (v, now') ∧ SM n d e R' now' ∧ CI k now' ∧ Kp n now now' ∧ (0 : Int32) ≤ v := by
  unfold fX1_passHours fX7_hoursGo
  obtain ⟨R', now', q, g1, g2, g3, g4, g5, g6⟩ := hoursq_L hn hs am m (by omega) (fun R105 x106 => some (x106, R105)) (fun now105 x106 => some (x106, now105)) m 0 fu fu R now 0 (by omega) (fu_gt (by omega)) (fu_gt (by omega)) h hci
  exact ⟨R', now', nI q, g1, g2, g3, g4, g5, nI_le (a := 0) (by omega) (by omega)⟩
/-- what a trial of a rain finds; the row is put back -/
theorem leavesOpen_v {n k : Nat} (hn : n < 9) {s : Nat} (hs : s < 4) (am : Int32) {m : Nat} (hm : m < 1000) {R : Rf} {now : Nat → Int32} (aside : Nat → Int32) (h : SM n 0 0 R now) (hci : CI k now) : ∃ R' v, ∃ b : Bool, fX1_passHours R (nI s) am (nI m) = some (v, R') ∧ fX1_isOpen R' = some (if b then 1 else 0) ∧ fX7_leavesOpen now aside (nI s) am (nI m) = some (if b then 1 else 0, aside) ∧ (R'.2.2.2.2.2.1 = 0 ∨ R'.2.2.2.2.2.1 = 1) := by
  obtain ⟨R', now', v, e1, e2, g1, g2, g3, g4⟩ := hoursq_v hn hs am hm h hci
  refine ⟨R', v, opB now' k, e1, open1_v hn g1 g2, ?_, g1.c01⟩
  unfold fX7_leavesOpen
  rw [e2, o2_v, if_pos g4, op7_v hn g1 g2, o1_v, back_v, o2_v]
  by_cases q : opB now' k = true
  · rw [if_pos q, if_pos rfl]
  · rw [if_neg q, if_neg (by decide)]
