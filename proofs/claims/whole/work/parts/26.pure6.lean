/-! ===== hours ===== -/
theorem Rl.kp {n : Nat} {R' : Rf} {now now' : Nat → Int32} {k : Nat} (hn : n < 9) (h : SM n 0 0 R' now') (hci : CI k now) (hsp : ∀ s, s < 10 → now (6 + s) = -1 ∨ ∃ j, j < 8 ∧ now (6 + s) = nI j) (hk : Kp n now now') : Rl R' now' := by
  refine ⟨n, k, hn, h, hci.kp hn hk, fun s hs => ?_⟩
  rw [hk (6 + s) (by omega) (by omega) (by omega) (fun c hc => by omega)]
  exact hsp s hs
/-- n hours in a row -/
theorem hours_L {n k : Nat} (hn : n < 9) {s : Nat} (hs : s < 4) (am : Int32) {d e : Int32} (m : Nat) (hm : m < 2147483648) (kx : Rf → Int32 → Option (Int32 × Rf)) (kx' : (Nat → Int32) → Int32 → Option (Int32 × (Nat → Int32))) : ∀ (j i f f' : Nat) (R : Rf) (now : Nat → Int32) (x : Int32), i + j = m → j < f → j < f' → SM n d e R now → CI k now → ∃ R' now' v, fX1_passHours_L6 (nI s) am (nI m) kx f R x (nI i) = kx R' v ∧ fX7_hoursGo_L6 (nI s) am (nI m) kx' f' now x (nI i) = kx' now' v ∧ SM n d e R' now' ∧ CI k now' ∧ Kp n now now' := by
  intro j
  induction j with
  | zero =>
    intro i f f' R now x hi hf hf' h hci
    obtain ⟨f, rfl⟩ : ∃ q, f = q + 1 := ⟨f - 1, by omega⟩
    obtain ⟨f', rfl⟩ : ∃ q, f' = q + 1 := ⟨f' - 1, by omega⟩
    exact ⟨R, now, x, by rw [fX1_passHours_L6, if_pos (nI_le (by omega) (by omega))], by rw [fX7_hoursGo_L6, if_pos (nI_le (by omega) (by omega))], h, hci, Kp.rf _⟩
  | succ j ih =>
    intro i f f' R now x hi hf hf' h hci
    obtain ⟨f, rfl⟩ : ∃ q, f = q + 1 := ⟨f - 1, by omega⟩
    obtain ⟨f', rfl⟩ : ∃ q, f' = q + 1 := ⟨f' - 1, by omega⟩
    obtain ⟨R1, now1, e1, e2, h1, k1, -⟩ := hour_v hn hs am d e h
    have c1 := hci.kp hn k1
    rw [fX1_passHours_L6, if_neg (nle (by omega) (by omega)), e1, o1_v, open1_v hn h1 c1, o1_v, fX7_hoursGo_L6, if_neg (nle (by omega) (by omega)), e2, op7_v hn h1 c1, o1_v, o2_v, show nI i + (1 : Int32) = nI (i + 1) from nI_1 i]
    by_cases q : opB now1 k = true
    · rw [if_neg (fun z => (bz _).mp z q), if_pos q]
      obtain ⟨R2, now2, v, g1, g2, g3, g4, g5⟩ := ih (i + 1) f f' R1 now1 (x + 1) (by omega) (by omega) (by omega) h1 c1
      exact ⟨R2, now2, v, g1, g2, g3, g4, k1.tr g5⟩
    · rw [if_pos ((bz _).mpr q), if_neg q, Int32.add_zero]
      obtain ⟨R2, now2, v, g1, g2, g3, g4, g5⟩ := ih (i + 1) f f' R1 now1 x (by omega) (by omega) (by omega) h1 c1
      exact ⟨R2, now2, v, g1, g2, g3, g4, k1.tr g5⟩
theorem hours_v {n k : Nat} (hn : n < 9) {s : Nat} (hs : s < 4) (am : Int32) {d e : Int32} {m : Nat} (hm : m < 1000) {R : Rf} {now : Nat → Int32} (h : SM n d e R now) (hci : CI k now) : ∃ R' now' v, fX1_passHours R (nI s) am (nI m) = some (v, R') ∧ fX7_hoursGo now (nI s) am (nI m) = some (v, now') ∧ SM n d e R' now' ∧ CI k now' ∧ Kp n now now' := by
  unfold fX1_passHours fX7_hoursGo
  exact hours_L hn hs am m (by omega) _ _ m 0 fu fu R now 0 (by omega) (fu_gt (by omega)) (fu_gt (by omega)) h hci
theorem late6_v (R : Rf) (x : Int32) : fX6_isTooLate R x = some (if ¬ (R.2.2.2.2.2.2.1 + x) ≤ (9999 : Int32) then 1 else 0) := by
  unfold fX6_isTooLate
  by_cases h : (R.2.2.2.2.2.2.1 + x) ≤ (9999 : Int32)
  · rw [if_pos h, if_neg (fun z => z h)]
  · rw [if_neg h, if_pos h]
theorem late7_v (now : Nat → Int32) (x : Int32) : fX7_isTooLate now x = some (if ¬ (now 0 + x) ≤ (9999 : Int32) then 1 else 0) := by
  unfold fX7_isTooLate
  rw [show rd now 120 (0 : Int32) _ = _ from rd_v now (i := 0) _ (by omega) (by omega)]
  by_cases h : (now 0 + x) ≤ (9999 : Int32)
  · rw [if_pos h, if_neg (fun z => z h)]
  · rw [if_neg h, if_pos h]
/-- what a rain refuses -/
def rfS (now : Nat → Int32) (s am m lo hi : Int32) : Int32 := if raB s am then (if ¬ m < lo ∧ ¬ hi < m then (if ¬ (now 0 + m) ≤ (9999 : Int32) then -1000005 else 0) else -1000001) else -1000001
theorem ref_v (now : Nat → Int32) (s am m lo hi : Int32) : fX7_refuses now s am m lo hi = some (rfS now s am m lo hi) := by
  unfold fX7_refuses rfS
  rw [rain7_v, ob, within_v, ob, late7_v, ob]
  by_cases h1 : raB s am
  · rw [if_pos h1, if_pos h1]
    by_cases h2 : ¬ m < lo ∧ ¬ hi < m
    · rw [if_pos h2, if_pos h2]
      by_cases h3 : ¬ (now 0 + m) ≤ (9999 : Int32)
      · rw [if_pos h3, if_pos h3]
      · rw [if_neg h3, if_neg h3]
    · rw [if_neg h2, if_neg h2]
  · rw [if_neg h1, if_neg h1]
theorem inW1 {m : Nat} {x : Int32} (hm : m < 2147483647) (h : ¬ x < (1 : Int32) ∧ ¬ nI m < x) : ∃ j, 1 ≤ j ∧ j < m + 1 ∧ x = nI j := by
  have h0 : ¬ x < 0 := fun z => h.1 (Int32.lt_trans z (by decide))
  obtain ⟨j, hj, rfl⟩ := nI_of h0
  refine ⟨j, Nat.not_lt.mp (fun q => h.1 (nI_lt (b := 1) q (by omega))), Nat.lt_succ_of_le (Nat.not_lt.mp (fun q => h.2 (nI_lt q hj))), rfl⟩
theorem op_rain {R : Rf} {now fd found : Nat → Int32} (hR : Rl R now) (hF : Fnd fd found) (a b c : Int32) : P2 (fX6_rain R fd a b c) (fX7_rain now found a b c) := by
  have hR' := hR
  obtain ⟨n, k, hn, h, hci, hsp⟩ := hR
  unfold fX6_rain fX7_rain
  rw [rain6_v, ob, win_v, ob, late6_v, ob, h.ho, Int32.add_zero, ref_v, o1_v]
  unfold rfS
  by_cases h1 : raB a b
  · rw [if_pos h1, if_pos h1]
    by_cases h2 : ¬ c < (1 : Int32) ∧ ¬ (100 : Int32) < c
    · rw [if_pos h2, if_pos h2]
      by_cases h3 : ¬ (now 0 + c) ≤ (9999 : Int32)
      · rw [if_pos h3, if_pos h3, if_neg (by decide)]
        exact P2.fnd hR' hF (by omega) cS'
      · rw [if_neg h3, if_neg h3, if_pos rfl]
        obtain ⟨s, hs, rfl⟩ := inW (m := 3) (by omega) h1.1
        obtain ⟨m, hm1, hm, rfl⟩ := inW1 (m := 100) (by omega) h2
        obtain ⟨R2, now2, v, e1, e2, g1, g2, g3⟩ := hours_v hn hs b (m := m) (by omega) h hci
        rw [e1, e2, o2_v, o2_v]
        exact ⟨_, _, _, _, _, rfl, rfl, Rl.kp hn g1 hci hsp g3, hF⟩
    · rw [if_neg h2, if_neg h2, if_neg (by decide)]
      exact P2.fnd hR' hF (by omega) cB
  · rw [if_neg h1, if_neg h1, if_neg (by decide)]
    exact P2.fnd hR' hF (by omega) cB
