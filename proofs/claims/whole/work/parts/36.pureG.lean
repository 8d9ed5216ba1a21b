/-! ===== sheets: judge ===== -/
def Shr (X : F4) (S : Ms) : Prop := ∀ s, s < 4 → (X s).2.1 = S.1 s ∧ (∃ m, m < 41 ∧ (X s).2.2 = nI m ∧ S.2.1 s = nI m) ∧ ∀ i, i < 40 → (X s).1 i = S.2.2.1 (40 * s + i)
theorem sh_in {β : Type} {s : Nat} (hs : s < 4) (kf : Nat → Option β) (n : Option β) : sh (nI s) kf n = kf s := by
  unfold sh
  rw [if_neg (nI_pos (n := s) (by omega)), if_neg (show ¬ (4 : Int32) ≤ nI s from nle (b := 4) hs (by omega)), nI_clamp (by omega)]
theorem sh_out {β : Type} {x : Int32} (h : ¬ (¬ x < 0 ∧ ¬ (3 : Int32) < x)) (kf : Nat → Option β) (n : Option β) : sh x kf n = n := by
  unfold sh
  by_cases h0 : x < 0
  · rw [if_pos h0]
  · rw [if_neg h0]
    obtain ⟨j, hj, rfl⟩ := nI_of h0
    have : 4 ≤ j := by
      rcases Nat.lt_or_ge j 4 with q | q
      · exact absurd ⟨h0, nI_nlt (a := 3) (b := j) (by omega) (by omega)⟩ h
      · exact q
    rw [if_pos (show (4 : Int32) ≤ nI j from nI_le (a := 4) this hj)]
theorem isSheet_v (a : Int32) : fX7_isSheet a = some (if ¬ a < 0 ∧ ¬ (3 : Int32) < a then 1 else 0) := by
  unfold fX7_isSheet
  rw [within_v, o1_v, nb_i]
theorem miss_v (E : Sh) : fX2_isMissing E = some (if E.2.1 = 0 then 1 else 0) := by
  unfold fX2_isMissing
  by_cases h : E.2.1 = 0
  · rw [if_pos h, if_pos h]
  · rw [if_neg h, if_neg h]
theorem i40 (s w : Nat) : (40 : Int32) * nI s + nI w = nI (40 * s + w) := by
  show nI 40 * nI s + nI w = _
  rw [pk_mul, nI_add]
theorem judge_L {n k : Nat} (hn : n < 9) {X : F4} {S : Ms} (hX : Shr X S) {s : Nat} (hs : s < 4) {now0 fd found : Nat → Int32} (hF : Fnd fd found) {m : Nat} (hm : m < 41) (e1 : (X s).2.2 = nI m) (e2 : S.2.1 s = nI m) (kx : Rf → Option (Int32 × Rf × (Nat → Int32))) (kx' : (Nat → Int32) → Option (Int32 × (Nat → Int32) × (Nat → Int32) × (Nat → Int32))) (hk : ∀ R now, SM n 0 0 R now → CI k now → P3 now0 (kx R) (kx' now)) : ∀ (j i f f' : Nat) (R : Rf) (now : Nat → Int32), i + j = m → j < f → j < f' → SM n 0 0 R now → CI k now → P3 now0 (fX6_judge_L62 s X fd kx f R (nI i)) (fX7_judge_L64 now0 found S (nI s) kx' f' now (nI i)) := by
  intro j
  induction j with
  | zero =>
    intro i f f' R now hi hf hf' h hci
    obtain ⟨f, rfl⟩ : ∃ q, f = q + 1 := ⟨f - 1, by omega⟩
    obtain ⟨f', rfl⟩ : ∃ q, f' = q + 1 := ⟨f' - 1, by omega⟩
    rw [fX6_judge_L62, e1, if_pos (nI_le (by omega) (by omega)), fX7_judge_L64, rd_v _ _ hs (by omega), e2, if_pos (nI_le (by omega) (by omega))]
    exact hk R now h hci
  | succ j ih =>
    intro i f f' R now hi hf hf' h hci
    obtain ⟨f, rfl⟩ : ∃ q, f = q + 1 := ⟨f - 1, by omega⟩
    obtain ⟨f', rfl⟩ : ∃ q, f' = q + 1 := ⟨f' - 1, by omega⟩
    rw [fX6_judge_L62, e1, if_neg (nle (by omega) (by omega)), fX7_judge_L64, rd_v _ _ hs (by omega), e2, if_neg (nle (by omega) (by omega)), at_v _ (by omega) (by omega), o1_v, win_v, ob, i40, rd_v _ _ (by omega) (by omega), within_v, ob, (hX s hs).2.2 i (by omega)]
    by_cases hv : ¬ S.2.2.1 (40 * s + i) < 0 ∧ ¬ (39 : Int32) < S.2.2.1 (40 * s + i)
    · rw [if_pos hv, if_pos hv]
      obtain ⟨v, hv2, ev⟩ := inW (m := 39) (by omega) hv
      have hd : nI v / (10 : Int32) = nI (v / 10) := pk_div (d := 10) (by omega) (by omega) (by omega)
      rw [ev, hd]
      obtain ⟨R1, now1, g1, g2, h1, k1, -⟩ := hour_v hn (s := v / 10) (by omega) (nI v - nI (v / 10) * (10 : Int32)) 0 0 h
      have c1 := hci.kp hn k1
      rw [g1, o1_v, g2, op7_v hn h1 c1, o1_v, o2_v, show nI i + (1 : Int32) = nI (i + 1) from nI_1 i]
      exact ih (i + 1) f f' R1 now1 (by omega) (by omega) (by omega) h1 c1
    · rw [if_neg hv, if_neg hv, back_v, o2_v]
      exact ⟨_, _, _, _, _, rfl, rfl, h.c01, hF⟩
theorem op_judge {R B : Rf} {X : F4} {S : Ms} {now aside fd found : Nat → Int32} (hR : Rl R now) (hB : B.2.2.2.2.2.1 = 0 ∨ B.2.2.2.2.2.1 = 1) (hX : Shr X S) (hF : Fnd fd found) (a : Int32) : P3 now (fX6_judge R B X fd a) (fX7_judge now aside found S a) := by
  obtain ⟨n, k, hn, h, hci, hsp⟩ := hR
  unfold fX6_judge fX7_judge
  rw [isSheet_v, ob]
  by_cases ha : ¬ a < 0 ∧ ¬ (3 : Int32) < a
  · rw [if_pos ha]
    obtain ⟨s, hs, rfl⟩ := inW (m := 3) (by omega) ha
    obtain ⟨q1, ⟨m, hm, q2, q3⟩, q4⟩ := hX s hs
    rw [sh_in hs, miss_v, ob, rd_v _ _ hs (by omega), q1]
    by_cases h0 : S.1 s = 0
    · rw [if_pos h0, if_pos h0]
      exact P3.fnd hB hF (by omega) cM
    · rw [if_neg h0, if_neg h0, rd_v _ _ hs (by omega), late6_v, ob, late7_v, ob, q2, q3, h.ho, Int32.add_zero]
      by_cases h3 : ¬ (now 0 + nI m) ≤ (9999 : Int32)
      · rw [if_pos h3, if_pos h3]
        exact P3.fnd hB hF (by omega) cS'
      · rw [if_neg h3, if_neg h3, become_v B h.c01, o1_v, copy7_v, o1_v]
        refine judge_L hn hX hs hF hm q2 q3 _ _ (fun R' now' h' c' => ?_) m 0 fu fu R now (by omega) (fu_gt (by omega)) (fu_gt (by omega)) h hci
        rw [open1_v hn h' c', o1_v, open7_v hn h' c', o1_v, back_v, back_v, o2_v, o2_v]
        by_cases q : opB now' k = true
        · rw [if_neg (fun z => (bz _).mp z q), if_neg (fun z => (bz _).mp z q)]
          exact ⟨_, _, _, _, _, rfl, rfl, h'.c01, hF⟩
        · rw [if_pos ((bz _).mpr q), if_pos ((bz _).mpr q)]
          exact ⟨_, _, _, _, _, rfl, rfl, h'.c01, hF⟩
  · rw [if_neg ha, sh_out ha]
    exact P3.fnd hB hF (by omega) cB
