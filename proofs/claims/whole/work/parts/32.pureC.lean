/-! ===== ahead ===== -/
theorem J48_0 (now aside found : Nat → Int32) (a b c x4 : Int32) (x5 : Int32) (h : x5 = 0) : fX7_ahead_J48 now aside found a b c x4 x5 = fX7_ahead_J48 now aside found a b c x4 0 := by rw [h]
theorem ahead_J {R B : Rf} {now aside fd found : Nat → Int32} {n k : Nat} (hn : n < 9) (h : SM n 0 0 R now) (hci : CI k now) (hB : B.2.2.2.2.2.1 = 0 ∨ B.2.2.2.2.2.1 = 1) (hF : Fnd fd found) (a b c : Int32) {w : Nat} (hw : w < 4 + n) : P3 now (fX6_ahead_J33 R B fd a b c (nI w) 1) (if rfS now a b c 0 100 = (-1000001 : Int32) then (o2 (fX7_finding found (-1000001 : Int32)) (fun x102 found103 => some (x102, now, aside, found103))) else (fX7_ahead_J48 now aside found a b c (nI w) (rfS now a b c 0 100))) := by
  unfold fX6_ahead_J33
  rw [rain6_v, ob, win_v, ob, late6_v, ob, h.ho, Int32.add_zero]
  unfold rfS
  by_cases h1 : raB a b
  · rw [if_pos h1, if_pos h1]
    by_cases h2 : ¬ c < (0 : Int32) ∧ ¬ (100 : Int32) < c
    · rw [if_pos h2, if_pos h2, if_neg (show ¬ (1 : Int32) = 0 by decide)]
      by_cases h3 : ¬ (now 0 + c) ≤ (9999 : Int32)
      · rw [if_pos h3, if_pos h3, if_neg (by decide)]
        unfold fX7_ahead_J48
        rw [if_neg (by decide)]
        exact P3.fnd hB hF (by omega) cS'
      · rw [if_neg h3, if_neg h3, if_neg (by decide), become_v B h.c01, o1_v]
        obtain ⟨s, hs, rfl⟩ := inW (m := 3) (by omega) h1.1
        obtain ⟨m, hm, rfl⟩ := inW (m := 100) (by omega) h2
        obtain ⟨R', now', v, e1, e2, g1, g2, g3⟩ := hours_v hn hs b (m := m) (by omega) h hci
        unfold fX7_ahead_J48
        rw [if_pos rfl, copy7_v, o1_v, e1, e2, o2_v, o2_v, show rd now' 120 (4 : Int32) _ = _ from rd_v now' (i := 4) _ (by omega) (by omega), show rd now 120 (4 : Int32) _ = _ from rd_v now (i := 4) _ (by omega) (by omega)]
        by_cases w0 : w = 0
        · subst w0
          rw [if_pos (show nI 0 = (0 : Int32) from rfl), if_pos (show nI 0 = (0 : Int32) from rfl), open1_v hn g1 g2, o1_v, op7_v hn g1 g2, o1_v, back_v, o2_v]
          by_cases q : opB now' k = true
          · rw [if_neg (fun z => (bz _).mp z q), if_pos q]
            exact ⟨_, _, _, _, _, rfl, rfl, g1.c01, hF⟩
          · rw [if_pos ((bz _).mpr q), if_neg q]
            exact ⟨_, _, _, _, _, rfl, rfl, g1.c01, hF⟩
        · have n0 : ¬ nI w = (0 : Int32) := fun z => w0 ((nI_eq (b := 0) (by omega) (by omega)).mp z)
          rw [if_neg n0, if_neg n0]
          by_cases w1 : w = 1
          · subst w1
            rw [if_pos (show nI 1 = (1 : Int32) from rfl), if_pos (show nI 1 = (1 : Int32) from rfl), back_v, o2_v]
            exact ⟨_, _, _, _, _, rfl, rfl, g1.c01, hF⟩
          · have n1 : ¬ nI w = (1 : Int32) := fun z => w1 ((nI_eq (b := 1) (by omega) (by omega)).mp z)
            rw [if_neg n1, if_neg n1]
            by_cases w2 : w = 2
            · subst w2
              obtain ⟨u, l1, l2⟩ := lev_v hn g1
              rw [if_pos (show nI 2 = (2 : Int32) from rfl), if_pos (show nI 2 = (2 : Int32) from rfl), l1, l2, o1_v, o1_v, back_v, o2_v]
              exact ⟨_, _, _, _, _, rfl, rfl, g1.c01, hF⟩
            · have n2 : ¬ nI w = (2 : Int32) := fun z => w2 ((nI_eq (b := 2) (by omega) (by omega)).mp z)
              rw [if_neg n2, if_neg n2]
              by_cases w3 : w = 3
              · subst w3
                rw [if_pos (show nI 3 = (3 : Int32) from rfl), if_pos (show nI 3 = (3 : Int32) from rfl), back_v, o2_v, g1.of, h.of, Int32.add_zero, Int32.add_zero]
                exact ⟨_, _, _, _, _, rfl, rfl, g1.c01, hF⟩
              · have n3 : ¬ nI w = (3 : Int32) := fun z => w3 ((nI_eq (b := 3) (by omega) (by omega)).mp z)
                rw [if_neg n3, if_neg n3, show nI w - (4 : Int32) = nI (w - 4) from pk_sub (b := 4) (by omega), get_2 R' (by omega), o1_v, cis_2 now' (by omega), o1_v, back_v, o2_v, g1.fl (by omega) (by omega)]
                exact ⟨_, _, _, _, _, rfl, rfl, g1.c01, hF⟩
    · rw [if_neg h2, if_neg h2, if_pos rfl]
      exact P3.fnd hB hF (by omega) cB
  · rw [if_neg h1, if_neg h1, if_pos rfl]
    exact P3.fnd hB hF (by omega) cB
/-- not told of: BEYOND, whatever else -/
theorem ahead_N {R B : Rf} {now aside fd found : Nat → Int32} (hB : B.2.2.2.2.2.1 = 0 ∨ B.2.2.2.2.2.1 = 1) (hF : Fnd fd found) (a b c x : Int32) : P3 now (fX6_ahead_J33 R B fd a b c x 0) (o2 (fX7_finding found (-1000001 : Int32)) (fun x102 found103 => some (x102, now, aside, found103))) := by
  unfold fX6_ahead_J33
  rw [rain6_v, ob, win_v, ob, if_pos rfl, ite_self, ite_self]
  exact P3.fnd hB hF (by omega) cB
theorem op_ahead {R B : Rf} {now aside fd found : Nat → Int32} (hR : Rl R now) (hB : B.2.2.2.2.2.1 = 0 ∨ B.2.2.2.2.2.1 = 1) (hF : Fnd fd found) (a b c x : Int32) : P3 now (fX6_ahead R B fd a b c x) (fX7_ahead now aside found a b c x) := by
  obtain ⟨n, k, hn, h, hci, hsp⟩ := hR
  unfold fX6_ahead fX7_ahead fX6_ahead_J28
  rw [win_v, ob, win_v, ob, ref_v, o1_v, isC_v _ h.n1 hn, ob, h.n2, show (3 : Int32) + nI n = nI (3 + n) from nI_add 3 n]
  by_cases h0 : x < 0
  · have hn1 : ¬ (¬ x < 0 ∧ ¬ (3 : Int32) < x) := fun z => z.1 h0
    have hn2 : ¬ (¬ x < (4 : Int32) ∧ ¬ nI (3 + n) < x) := fun z => z.1 (Int32.lt_trans h0 (by decide))
    rw [if_neg hn1, if_neg hn2, if_pos h0, ite_self]
    exact ahead_N hB hF a b c x
  · obtain ⟨w, hw, rfl⟩ := nI_of h0
    rw [if_neg h0]
    rcases Nat.lt_or_ge w 4 with q | q
    · have hy : ¬ nI w < 0 ∧ ¬ (3 : Int32) < nI w := ⟨h0, nI_nlt (b := w) (a := 3) (by omega) (by omega)⟩
      rw [if_pos hy, if_pos (show nI w ≤ (3 : Int32) from nI_le (b := 3) (by omega) (by omega))]
      exact ahead_J hn h hci hB hF a b c (by omega)
    · have hy : ¬ (¬ nI w < 0 ∧ ¬ (3 : Int32) < nI w) := fun z => z.2 (nI_lt (a := 3) (by omega) (by omega))
      rw [if_neg hy, if_neg (show ¬ nI w ≤ (3 : Int32) from nle (a := 3) (by omega) (by omega)), show nI w - (4 : Int32) = nI (w - 4) from pk_sub (b := 4) q]
      rcases Nat.lt_or_ge w (4 + n) with q2 | q2
      · have h4 : ¬ nI w < (4 : Int32) ∧ ¬ nI (3 + n) < nI w := ⟨nI_nlt (b := 4) (a := w) (by omega) (by omega), nI_nlt (by omega) (by omega)⟩
        have hc : ¬ nI (w - 4) < 0 ∧ ¬ nI n ≤ nI (w - 4) := ⟨nI_pos (by omega), nle (by omega) (by omega)⟩
        rw [if_pos h4, if_pos hc]
        exact ahead_J hn h hci hB hF a b c (by omega)
      · have h4 : ¬ (¬ nI w < (4 : Int32) ∧ ¬ nI (3 + n) < nI w) := fun z => z.2 (nI_lt (by omega) hw)
        have hc : ¬ (¬ nI (w - 4) < 0 ∧ ¬ nI n ≤ nI (w - 4)) := fun z => z.2 (nI_le (by omega) (by omega))
        rw [if_neg h4, if_neg hc, ite_self]
        exact ahead_N hB hF a b c _
