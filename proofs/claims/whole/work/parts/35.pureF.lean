/-! ===== leaks ===== -/
theorem leaks_L {n k : Nat} (hn : n < 9) {c s : Nat} (hc : c < 8) (hs : s < 4) {R : Rf} {now : Nat → Int32} (h : SM n 0 0 R now) (hci : CI k now) (am v : Int32) {m : Nat} (hm : m < 1000) (kx : Rf → Int32 → Option (Int32 × Rf × (Nat → Int32))) (kx' : (Nat → Int32) → Int32 → Option (Int32 × (Nat → Int32) × (Nat → Int32) × (Nat → Int32))) : ∀ (j i f f' : Nat) (B : Rf) (x : Int32), i + j = 10 → j < f → j < f' → (B.2.2.2.2.2.1 = 0 ∨ B.2.2.2.2.2.1 = 1) → ∃ B' u, fX6_leaks_L67 R (nI c) (nI s) am (nI m) v kx f B x (nI i) = kx B' u ∧ fX7_leaks_L75 now (nI c) (nI s) am (nI m) v kx' f' now x (nI i) = kx' now u ∧ (B'.2.2.2.2.2.1 = 0 ∨ B'.2.2.2.2.2.1 = 1) := by
  intro j
  induction j with
  | zero =>
    intro i f f' B x hi hf hf' hB
    obtain ⟨f, rfl⟩ : ∃ q, f = q + 1 := ⟨f - 1, by omega⟩
    obtain ⟨f', rfl⟩ : ∃ q, f' = q + 1 := ⟨f' - 1, by omega⟩
    exact ⟨B, x, by rw [fX6_leaks_L67, if_pos (show (9 : Int32) < nI i from nI_lt (a := 9) (by omega) (by omega))], by rw [fX7_leaks_L75, if_pos (show (10 : Int32) ≤ nI i from nI_le (a := 10) (by omega) (by omega))], hB⟩
  | succ j ih =>
    intro i f f' B x hi hf hf' hB
    obtain ⟨f, rfl⟩ : ∃ q, f = q + 1 := ⟨f - 1, by omega⟩
    obtain ⟨f', rfl⟩ : ∃ q, f' = q + 1 := ⟨f' - 1, by omega⟩
    have h2 := h.set (c := c) (w := 3) hc (by omega) (by omega) (nI i)
    have c2 : CI k (upd now (16 + 10 * c + 3) (nI i)) := hci.up (by omega)
    obtain ⟨R', now', q, e1, e2, g1, g2, g3, g4⟩ := hoursq_v hn hs am hm h2 c2
    rw [fX6_leaks_L67, if_neg (show ¬ (9 : Int32) < nI i from nI_nlt (a := 9) (by omega) (by omega)), become_v B h.c01, o1_v, set_3 R _ hc, o1_v, e1, o2_v, get_2 R' hc, o1_v, fX7_leaks_L75, if_neg (show ¬ (10 : Int32) ≤ nI i from nle (b := 10) (by omega) (by omega)), show fX7_at (nI c) (3 : Int32) = some (nI (16 + 10 * c + 3)) from at7_v c 3, o1_v, wr_v now _ _ (by omega) (by omega), e2, o2_v, if_pos g4, cis_2 now' hc, o1_v, back_v, o2_v, g1.fl hc (by omega), show nI i + (1 : Int32) = nI (i + 1) from nI_1 i]
    by_cases t : now' (16 + 10 * c + 2) = v
    · rw [if_pos t, if_pos t]
      exact ih (i + 1) f f' R' _ (by omega) (by omega) (by omega) g1.c01
    · rw [if_neg t, if_neg t, Int32.or_zero]
      exact ih (i + 1) f f' R' _ (by omega) (by omega) (by omega) g1.c01
theorem op_leaks {R B : Rf} {now aside fd found : Nat → Int32} (hR : Rl R now) (hB : B.2.2.2.2.2.1 = 0 ∨ B.2.2.2.2.2.1 = 1) (hF : Fnd fd found) (a b c x v : Int32) : P3 now (fX6_leaks R B fd a b c x v) (fX7_leaks now aside found a b c x v) := by
  obtain ⟨n, k, hn, h, hci, hsp⟩ := hR
  have hno : P3 now (fX6_leaks_J26 R B fd a b c x v) (o2 (fX7_finding found (-1000001 : Int32)) (fun x102 found103 => some (x102, now, aside, found103))) := by
    unfold fX6_leaks_J26 fX6_leaks_J27
    rw [if_pos rfl, if_neg (by decide)]
    exact P3.fnd hB hF (by omega) cB
  unfold fX6_leaks fX7_leaks
  rw [hasC_v h.n2, ob, win_v, ob, ref_v, o1_v, isC_v _ h.n1 hn, ob, within_v, ob]
  by_cases ha : ¬ a < 0 ∧ ¬ nI n ≤ a
  · rw [if_pos ha, if_pos ha]
    obtain ⟨c', hc', rfl⟩ := inC (by omega) ha
    by_cases hv : ¬ v < 0 ∧ ¬ (40 : Int32) < v
    · rw [if_pos hv, if_pos hv]
      unfold fX6_leaks_J27
      rw [if_neg (show ¬ (1 : Int32) = 0 by decide), fault_v h.ho, o1_v]
      rcases rfS_or now b c x 1 20 with ⟨e, h1, h2⟩ | e | e
      · rw [e, if_pos rfl, if_neg (by decide), if_pos rfl, copy7_v, o1_v]
        obtain ⟨s, hs, rfl⟩ := inW (m := 3) (by omega) h1.1
        obtain ⟨m, hm1, hm, rfl⟩ := inW1 (m := 20) (by omega) h2
        obtain ⟨B', u, g1, g2, g3⟩ := leaks_L hn (c := c') (by omega) hs h hci c v (m := m) (by omega) (fun B117 x118 => some (x118, B117, fd)) (fun now127 x128 => some (x128, now127, now, found)) 10 0 fu fu B 0 (by omega) (fu_gt (by omega)) (fu_gt (by omega)) hB
        exact ⟨u, B', fd, now, found, g1, g2, g3, hF⟩
      · rw [e, if_neg (by decide), if_pos rfl]
        exact P3.fnd hB hF (by omega) cB
      · rw [e, if_neg (by decide), if_neg (by decide), if_neg (by decide)]
        exact P3.fnd hB hF (by omega) cS'
    · rw [if_neg hv, if_neg hv, ite_self]
      exact hno
  · rw [if_neg ha, if_neg ha]
    exact hno
