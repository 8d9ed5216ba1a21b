/-! ===== weather, when, ahead ===== -/
theorem weather_L {n k : Nat} (hn : n < 9) (m : Nat) (hm : m < 2147483648) (kx : Rf → Int32 → Option (Int32 × Rf × (Nat → Int32))) (kx' : (Nat → Int32) → Int32 → Option (Int32 × (Nat → Int32) × (Nat → Int32))) : ∀ (j i f f' : Nat) (R : Rf) (now : Nat → Int32) (x : Int32), i + j = m → j < f → j < f' → SM n 0 0 R now → CI k now → ∃ R' now' v, fX6_weather_L36 (nI m) kx f R x (nI i) = kx R' v ∧ fX7_weather_L26 (nI m) kx' f' now x (nI i) = kx' now' v ∧ SM n 0 0 R' now' ∧ CI k now' ∧ Kd n now now' := by
  intro j
  induction j with
  | zero =>
    intro i f f' R now x hi hf hf' h hci
    obtain ⟨f, rfl⟩ : ∃ q, f = q + 1 := ⟨f - 1, by omega⟩
    obtain ⟨f', rfl⟩ : ∃ q, f' = q + 1 := ⟨f' - 1, by omega⟩
    exact ⟨R, now, x, by rw [fX6_weather_L36, if_pos (nI_le (by omega) (by omega))], by rw [fX7_weather_L26, if_pos (nI_le (by omega) (by omega))], h, hci, Kd.rf _⟩
  | succ j ih =>
    intro i f f' R now x hi hf hf' h hci
    obtain ⟨f, rfl⟩ : ∃ q, f = q + 1 := ⟨f - 1, by omega⟩
    obtain ⟨f', rfl⟩ : ∃ q, f' = q + 1 := ⟨f' - 1, by omega⟩
    obtain ⟨R1, now1, e1, e2, h1, c1, k1⟩ := drawnHour_v hn h hci
    rw [fX6_weather_L36, if_neg (nle (by omega) (by omega)), e1, o1_v, open1_v hn h1 c1, o1_v, fX7_weather_L26, if_neg (nle (by omega) (by omega)), show nI i + (1 : Int32) = nI (i + 1) from nI_1 i, e2 (fun x114 now115 => fX7_weather_L26 (nI m) kx' f' now115 (x + x114) (nI (i + 1)))]
    by_cases q : opB now1 k = true
    · rw [if_neg (fun z => (bz _).mp z q), if_pos q]
      obtain ⟨R2, now2, v, g1, g2, g3, g4, g5⟩ := ih (i + 1) f f' R1 now1 (x + 1) (by omega) (by omega) (by omega) h1 c1
      exact ⟨R2, now2, v, g1, g2, g3, g4, k1.tr g5⟩
    · rw [if_pos ((bz _).mpr q), if_neg q, Int32.add_zero]
      obtain ⟨R2, now2, v, g1, g2, g3, g4, g5⟩ := ih (i + 1) f f' R1 now1 x (by omega) (by omega) (by omega) h1 c1
      exact ⟨R2, now2, v, g1, g2, g3, g4, k1.tr g5⟩
theorem raB0 : raB 0 0 := by unfold raB; decide
theorem op_weather {R : Rf} {now fd found : Nat → Int32} (hR : Rl R now) (hF : Fnd fd found) (c : Int32) : P2 (fX6_weather R fd c) (fX7_weather now found c) := by
  have hR' := hR
  obtain ⟨n, k, hn, h, hci, hsp⟩ := hR
  unfold fX6_weather fX7_weather
  rw [win_v, ob, late6_v, ob, h.ho, Int32.add_zero, ref_v, o1_v]
  unfold rfS
  rw [if_pos raB0]
  by_cases h2 : ¬ c < (1 : Int32) ∧ ¬ (100 : Int32) < c
  · rw [if_pos h2, if_pos h2]
    by_cases h3 : ¬ (now 0 + c) ≤ (9999 : Int32)
    · rw [if_pos h3, if_pos h3, if_neg (by decide)]
      exact P2.fnd hR' hF (by omega) cS'
    · rw [if_neg h3, if_neg h3, if_pos rfl]
      obtain ⟨m, hm1, hm, rfl⟩ := inW1 (m := 100) (by omega) h2
      obtain ⟨R2, now2, v, e1, e2, g1, g2, g3⟩ := weather_L hn m (by omega) (fun R107 x108 => some (x108, R107, fd)) (fun now118 x119 => some (x119, now118, found)) m 0 fu fu R now 0 (by omega) (fu_gt (by omega)) (fu_gt (by omega)) h hci
      refine ⟨v, R2, fd, now2, found, e1, e2, ⟨n, k, hn, g1, g2, fun s hs => ?_⟩, hF⟩
      rw [g3 (6 + s) (by omega) (by omega) (by omega) (by omega) (fun c hc => by omega)]
      exact hsp s hs
  · rw [if_neg h2, if_neg h2, if_neg (by decide)]
    exact P2.fnd hR' hF (by omega) cB
/-- a call that tries: the class's trial roof may be anything then, the model's row is as it was -/
def P3 (now : Nat → Int32) (x : Option (Int32 × Rf × (Nat → Int32))) (y : Option (Int32 × (Nat → Int32) × (Nat → Int32) × (Nat → Int32))) : Prop := ∃ v B' fd' aside' found', x = some (v, B', fd') ∧ y = some (v, now, aside', found') ∧ (B'.2.2.2.2.2.1 = 0 ∨ B'.2.2.2.2.2.1 = 1) ∧ Fnd fd' found'
theorem P3.fnd {B : Rf} {now aside fd found : Nat → Int32} (hB : B.2.2.2.2.2.1 = 0 ∨ B.2.2.2.2.2.1 = 1) (h : Fnd fd found) {i : Nat} (hi : i < 7) {c : Int32} (hc : (-1000001 : Int32) - c = nI i) : P3 now (o2 (fX6_finding fd c) (fun x f => some (x, B, f))) (o2 (fX7_finding found c) (fun x f => some (x, now, aside, f))) := by
  obtain ⟨fd', found', h1, h2, h3⟩ := Jvm.Pilot.CRainVaultLaw_law_r8479_c1ce3a.fnd h hi hc
  rw [h1, h2]
  exact ⟨_, _, _, _, _, rfl, rfl, hB, h3⟩
theorem when_L {n k : Nat} (hn : n < 9) {s : Nat} (hs : s < 4) (am : Int32) {now0 fd found : Nat → Int32} (hF : Fnd fd found) (m : Nat) (hm : m < 1000) : ∀ (j i f f' : Nat) (R : Rf) (now : Nat → Int32), i + j = m → j < f → j < f' → SM n 0 0 R now → CI k now → opB now k = false → P3 now0 (fX6_when_L66 fd (nI s) am (nI m) (fun B112 => o2 (fX6_finding fd (-1000004 : Int32)) (fun x113 fd114 => some (x113, B112, fd114))) f R (nI (i + 1))) (fX7_when_L44 (nI s) am (nI m) (fun now108 x109 x110 => fX7_when_J78 now108 now0 found x109 x110) f' now (nI i) 0) := by
  intro j
  induction j with
  | zero =>
    intro i f f' R now hi hf hf' h hci ho
    obtain ⟨f, rfl⟩ : ∃ q, f = q + 1 := ⟨f - 1, by omega⟩
    obtain ⟨f', rfl⟩ : ∃ q, f' = q + 1 := ⟨f' - 1, by omega⟩
    rw [fX6_when_L66, if_pos (show nI m < nI (i + 1) from nI_lt (by omega) (by omega)), fX7_when_L44, if_pos rfl, if_pos (nI_le (by omega) (by omega))]
    unfold fX7_when_J78
    rw [if_pos rfl, back_v, o2_v, if_neg (show ¬ (0 : Int32) = 1 by decide)]
    exact P3.fnd h.c01 hF (by omega) cN
  | succ j ih =>
    intro i f f' R now hi hf hf' h hci ho
    obtain ⟨f, rfl⟩ : ∃ q, f = q + 1 := ⟨f - 1, by omega⟩
    obtain ⟨f', rfl⟩ : ∃ q, f' = q + 1 := ⟨f' - 1, by omega⟩
    obtain ⟨R1, now1, e1, e2, h1, k1, -⟩ := hour_v hn hs am 0 0 h
    have c1 := hci.kp hn k1
    rw [fX6_when_L66, if_neg (show ¬ nI m < nI (i + 1) from nI_nlt (by omega) (by omega)), e1, o1_v, open1_v hn h1 c1, o1_v, fX7_when_L44, if_pos rfl, if_neg (nle (by omega) (by omega)), e2, op7_v hn h1 c1, o1_v, o2_v, show nI i + (1 : Int32) = nI (i + 1) from nI_1 i, show nI (i + 1) + (1 : Int32) = nI (i + 1 + 1) from nI_1 (i + 1)]
    by_cases q : opB now1 k = true
    · rw [if_neg (fun z => (bz _).mp z q), if_pos (show (if opB now1 k = true then (1 : Int32) else 0) = 1 from if_pos q)]
      obtain ⟨f'', e⟩ : ∃ f'', f' = f'' + 1 := ⟨f' - 1, by omega⟩
      rw [e, fX7_when_L44, if_neg (show ¬ (1 : Int32) = 0 by decide)]
      unfold fX7_when_J78
      rw [if_neg (show ¬ (1 : Int32) = 0 by decide), back_v, o2_v, if_pos rfl]
      exact ⟨_, _, _, _, _, rfl, rfl, h1.c01, hF⟩
    · rw [if_pos ((bz _).mpr q), if_neg (show ¬ (if opB now1 k = true then (1 : Int32) else 0) = 1 from fun z => by rw [if_neg q] at z; exact absurd z (by decide))]
      exact ih (i + 1) f f' R1 now1 (by omega) (by omega) (by omega) h1 c1 (Bool.eq_false_iff.mpr q)
theorem op_when {R B : Rf} {now aside fd found : Nat → Int32} (hR : Rl R now) (hB : B.2.2.2.2.2.1 = 0 ∨ B.2.2.2.2.2.1 = 1) (hF : Fnd fd found) (a b c : Int32) : P3 now (fX6_when R B fd a b c) (fX7_when now aside found a b c) := by
  have hR' := hR
  obtain ⟨n, k, hn, h, hci, hsp⟩ := hR
  unfold fX6_when fX7_when
  rw [rain6_v, ob, win_v, ob, late6_v, ob, h.ho, Int32.add_zero, ref_v, o1_v]
  unfold rfS
  by_cases h1 : raB a b
  · rw [if_pos h1, if_pos h1]
    by_cases h2 : ¬ c < (1 : Int32) ∧ ¬ (100 : Int32) < c
    · rw [if_pos h2, if_pos h2]
      by_cases h3 : ¬ (now 0 + c) ≤ (9999 : Int32)
      · rw [if_pos h3, if_pos h3, if_neg (by decide)]
        exact P3.fnd hB hF (by omega) cS'
      · rw [if_neg h3, if_neg h3, if_pos rfl, become_v B h.c01, o1_v, copy7_v, o1_v, open1_v hn h hci, o1_v, open7_v hn h hci, o1_v]
        obtain ⟨s, hs, rfl⟩ := inW (m := 3) (by omega) h1.1
        obtain ⟨m, hm1, hm, rfl⟩ := inW1 (m := 100) (by omega) h2
        by_cases q : opB now k = true
        · obtain ⟨f', e⟩ : ∃ f', fu = f' + 1 := ⟨999999, rfl⟩
          rw [if_neg (fun z => (bz _).mp z q), if_pos q, e, fX7_when_L44, if_neg (show ¬ (1 : Int32) = 0 by decide)]
          unfold fX7_when_J78
          rw [if_neg (show ¬ (1 : Int32) = 0 by decide), back_v, o2_v, if_pos rfl]
          exact ⟨_, _, _, _, _, rfl, rfl, h.c01, hF⟩
        · rw [if_pos ((bz _).mpr q), if_neg q]
          exact when_L hn hs b hF m (by omega) m 0 fu fu R now (by omega) (fu_gt (by omega)) (fu_gt (by omega)) h hci (Bool.eq_false_iff.mpr q)
    · rw [if_neg h2, if_neg h2, if_neg (by decide)]
      exact P3.fnd hB hF (by omega) cB
  · rw [if_neg h1, if_neg h1, if_neg (by decide)]
    exact P3.fnd hB hF (by omega) cB
