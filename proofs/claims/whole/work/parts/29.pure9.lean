/-! ===== spots, status, lock, cistern ===== -/
theorem neg1_or {n : Nat} {x : Int32} (hn : n < 9) : ((¬ x < (-1 : Int32) ∧ ¬ (nI n - 1 : Int32) < x) → (x = -1 ∨ (¬ x < 0 ∧ ¬ nI n ≤ x))) ∧ ((x = -1 ∨ (¬ x < 0 ∧ ¬ nI n ≤ x)) → (¬ x < (-1 : Int32) ∧ ¬ (nI n - 1 : Int32) < x)) := by
  constructor
  · intro h
    by_cases h0 : x < 0
    · refine Or.inl ?_
      have a1 := Int32.not_lt.mp h.1
      apply Int32.le_antisymm _ a1
      have := Int32.lt_iff_toInt_lt.mp h0
      apply Int32.le_iff_toInt_le.mpr
      have e0 : (0 : Int32).toInt = 0 := by decide
      have e1 : (-1 : Int32).toInt = -1 := by decide
      omega
    · exact Or.inr ⟨h0, (nlt_pred (by omega) h0).mp h.2⟩
  · rintro (rfl | h)
    · refine ⟨by decide, ?_⟩
      match n, hn with
      | 0, _ | 1, _ | 2, _ | 3, _ | 4, _ | 5, _ | 6, _ | 7, _ | 8, _ => decide
      | n + 9, q => exact absurd q (by omega)
    · refine ⟨fun z => h.1 (Int32.lt_trans z (by decide)), (nlt_pred (by omega) h.1).mpr h.2⟩
theorem spot_up {R : Rf} {now : Nat → Int32} {n k s : Nat} (hn : n < 9) (h : SM n 0 0 R now) (hci : CI k now) (hsp : ∀ s, s < 10 → now (6 + s) = -1 ∨ ∃ j, j < 8 ∧ now (6 + s) = nI j) (hs : s < 10) {x : Int32} (hx : x = -1 ∨ ∃ j, j < 8 ∧ x = nI j) : Rl (R.1, R.2.1, upd R.2.2.1 s x, R.2.2.2) (upd now (6 + s) x) := by
  refine ⟨n, k, hn, h.spot hs x, hci.up (by omega), fun t ht => ?_⟩
  by_cases q : t = s
  · subst q
    rw [up_s]
    exact hx
  · rw [up_n (by omega)]
    exact hsp t ht
theorem isSpot_v (a : Int32) : fX7_isSpot a = some (if ¬ a < 0 ∧ ¬ (9 : Int32) < a then 1 else 0) := by
  unfold fX7_isSpot
  rw [within_v, o1_v, nb_i]
theorem op_hold {R : Rf} {now fd found : Nat → Int32} (hR : Rl R now) (hF : Fnd fd found) (a b : Int32) : P2 (fX6_hold R fd a b) (fX7_hold now found a b) := by
  have hR' := hR
  obtain ⟨n, k, hn, h, hci, hsp⟩ := hR
  unfold fX6_hold fX7_hold
  rw [win_v, ob, win_v, ob, isSpot_v, ob, isC_v _ h.n1 hn, ob, h.n2]
  refine P2.ite (fun ha => ?_) (fun _ => P2.fnd hR' hF (by omega) cB)
  obtain ⟨s, hs, rfl⟩ := inW (m := 9) (by omega) ha
  rw [show (6 : Int32) + nI s = nI (6 + s) from nI_add 6 s, put_v _ _ (by omega) (by omega), o1_v]
  by_cases hb : ¬ b < (-1 : Int32) ∧ ¬ (nI n - 1 : Int32) < b
  · rw [if_pos hb]
    rcases (neg1_or hn).1 hb with rfl | q
    · rw [if_pos rfl, wr_v now _ _ (by omega) (by omega)]
      have := spot_up hn h hci hsp hs (x := -1) (Or.inl rfl)
      rw [← h.n2]
      exact ⟨_, _, _, _, _, rfl, rfl, this, hF⟩
    · have hne : ¬ b = -1 := fun z => q.1 (by rw [z]; decide)
      rw [if_neg hne, if_pos q, wr_v now _ _ (by omega) (by omega)]
      obtain ⟨j, hj, rfl⟩ := inC (by omega) q
      have := spot_up hn h hci hsp hs (x := nI j) (Or.inr ⟨j, by omega, rfl⟩)
      rw [← h.n2]
      exact ⟨_, _, _, _, _, rfl, rfl, this, hF⟩
  · rw [if_neg hb]
    have hne : ¬ b = -1 := fun z => hb ((neg1_or hn).2 (Or.inl z))
    rw [if_neg hne, if_neg (fun z => hb ((neg1_or hn).2 (Or.inr z)))]
    exact P2.fnd hR' hF (by omega) cB
theorem op_as {R : Rf} {now fd found : Nat → Int32} (hR : Rl R now) (hF : Fnd fd found) (a b : Int32) : P1 (fX6_as R fd a b) (fX7_as now found a b) := by
  obtain ⟨n, k, hn, h, hci, hsp⟩ := hR
  unfold fX6_as fX7_as
  rw [win_v, ob, win_v, ob, isSpot_v, ob, isKind_v, ob]
  refine P1.ite (fun ha => P1.ite (fun hb => ?_) (fun _ => P1.fnd hF (by omega) cB)) (fun _ => P1.fnd hF (by omega) cB)
  obtain ⟨s, hs, rfl⟩ := inW (m := 9) (by omega) ha
  obtain ⟨w, hw, rfl⟩ := inW (m := 6) (by omega) hb
  rw [show (6 : Int32) + nI s = nI (6 + s) from nI_add 6 s, at_v _ (by omega) (by omega), o1_v, rd_v now _ (by omega) (by omega), h.sp hs]
  rcases hsp s hs with q | ⟨j, hj, q⟩
  · rw [q, if_neg (show ¬ (0 : Int32) ≤ -1 by decide), if_neg (show ¬ (0 : Int32) ≤ -1 by decide)]
    exact P1.fnd hF (by omega) cM
  · obtain ⟨kd, hkd, e1, e2⟩ := h.kd hj
    have hle : (0 : Int32) ≤ nI j := nI_le (a := 0) (by omega) (by omega)
    rw [q, if_pos hle, if_pos hle, isOf_v hj hkd e2 hw, under_v hj hkd e1 hw, ob, ob]
    exact P1.ite (fun _ => ⟨_, _, _, rfl, rfl, hF⟩) (fun _ => P1.fnd hF (by omega) cK)
theorem status_L (fd : Nat → Int32) (kx : Int32 → Option (Int32 × (Nat → Int32))) {f : Nat} (hf : 8 ≤ f) : fX6_status_L34 fd kx f 0 0 = kx (0 + fd 0 + fd 1 + fd 2 + fd 3 + fd 4 + fd 5 + fd 6) := by
  obtain ⟨f, rfl⟩ : ∃ q, f = q + 8 := ⟨f - 8, by omega⟩
  have st : ∀ (g i : Nat) (x : Int32), i < 7 → fX6_status_L34 fd kx (g + 1) x (nI i) = fX6_status_L34 fd kx g (x + fd i) (nI (i + 1)) := by
    intro g i x hi
    rw [fX6_status_L34, if_neg (show ¬ (7 : Int32) ≤ nI i from nle (b := 7) hi (by omega)), rd_v _ _ hi (by omega)]
    exact congrArg _ (nI_1 i)
  rw [show fX6_status_L34 fd kx (f + 8) 0 0 = _ from st (f + 7) 0 0 (by omega), st (f + 6) 1 _ (by omega), st (f + 5) 2 _ (by omega), st (f + 4) 3 _ (by omega), st (f + 3) 4 _ (by omega), st (f + 2) 5 _ (by omega), st (f + 1) 6 _ (by omega), fX6_status_L34, if_pos (show (7 : Int32) ≤ nI (6 + 1) by decide)]
theorem op_status {fd found : Nat → Int32} (hF : Fnd fd found) (a : Int32) : P1 (fX6_status fd a) (fX7_status found a) := by
  unfold fX6_status fX7_status
  rw [win_v, ob, within_v, ob]
  refine P1.ite (fun ha => ?_) (fun _ => P1.fnd hF (by omega) cB)
  rcases (neg1_or (n := 7) (by omega)).1 ha with rfl | q
  · rw [if_pos (show (-1 : Int32) < 0 by decide), status_L fd _ (fu_gt (by omega)), show rd found 8 ((-1 : Int32) + 1) _ = _ from rd_v found (i := 0) _ (by omega) (by omega), hF.2]
    exact ⟨_, _, _, rfl, rfl, hF⟩
  · obtain ⟨j, hj, rfl⟩ := inC (n := 7) (by omega) q
    rw [if_neg (nI_pos (n := j) (by omega)), at_v _ hj (by omega), o1_v, show nI j + (1 : Int32) = nI (j + 1) from nI_1 j, rd_v _ _ (by omega) (by omega), hF.1 j hj]
    exact ⟨_, _, _, rfl, rfl, hF⟩
