/-! ===== sheets: sheet, copy, load ===== -/
theorem begin_L (bt ln : Int32) (kx : Sh → Option Sh) : ∀ (j i f : Nat) (g : Nat → Int32), i + j = 40 → j < f → (∀ p, p < i → g p = 0) → ∃ g', fX2_begin_L12 kx f (g, bt, ln) (nI i) = kx (g', bt, ln) ∧ ∀ p, p < 40 → g' p = 0 := by
  intro j
  induction j with
  | zero =>
    intro i f g hi hf hg
    obtain ⟨f, rfl⟩ : ∃ q, f = q + 1 := ⟨f - 1, by omega⟩
    exact ⟨g, by rw [fX2_begin_L12, if_pos (show (40 : Int32) ≤ nI i from nI_le (a := 40) (by omega) (by omega))], fun p hp => hg p (by omega)⟩
  | succ j ih =>
    intro i f g hi hf hg
    obtain ⟨f, rfl⟩ : ∃ q, f = q + 1 := ⟨f - 1, by omega⟩
    obtain ⟨g', e, hz⟩ := ih (i + 1) f (upd g i 0) (by omega) (by omega) (fun p hp => by
      by_cases q : p = i
      · subst q; exact up_s
      · rw [up_n q]; exact hg p (by omega))
    exact ⟨g', by rw [← e, fX2_begin_L12, if_neg (show ¬ (40 : Int32) ≤ nI i from nle (b := 40) (by omega) (by omega)), wr_v _ _ _ (by omega) (by omega), show nI i + (1 : Int32) = nI (i + 1) from nI_1 i], hz⟩
theorem begin_v (E : Sh) (bt ln : Int32) : ∃ g', fX2_begin E bt ln = some (g', bt, ln) ∧ ∀ p, p < 40 → g' p = 0 := by
  unfold fX2_begin
  obtain ⟨g', e, hz⟩ := begin_L bt ln (fun E103 => some E103) 40 0 fu E.1 (by omega) (fu_gt (by omega)) (fun p hp => absurd hp (Nat.not_lt_zero p))
  exact ⟨g', e, hz⟩
theorem sheet7_L {s : Nat} (hs : s < 4) (A B D : Nat → Int32) (kx : Ms → Option (Int32 × (Nat → Int32) × Ms)) : ∀ (j i f : Nat) (g : Nat → Int32), i + j = 40 → j < f → (∀ p, p < i → g (40 * s + p) = 0) → ∃ g', fX7_sheet_L86 (nI s) kx f (A, B, g, D) (nI i) = kx (A, B, g', D) ∧ (∀ p, p < 40 → g' (40 * s + p) = 0) ∧ ∀ t, (t < 40 * s ∨ 40 * s + 40 ≤ t) → g' t = g t := by
  intro j
  induction j with
  | zero =>
    intro i f g hi hf hg
    obtain ⟨f, rfl⟩ : ∃ q, f = q + 1 := ⟨f - 1, by omega⟩
    exact ⟨g, by rw [fX7_sheet_L86, if_pos (show (40 : Int32) ≤ nI i from nI_le (a := 40) (by omega) (by omega))], fun p hp => hg p (by omega), fun _ _ => rfl⟩
  | succ j ih =>
    intro i f g hi hf hg
    obtain ⟨f, rfl⟩ : ∃ q, f = q + 1 := ⟨f - 1, by omega⟩
    obtain ⟨g', e, hz, hn⟩ := ih (i + 1) f (upd g (40 * s + i) 0) (by omega) (by omega) (fun p hp => by
      by_cases q : p = i
      · subst q; exact up_s
      · rw [up_n (by omega)]; exact hg p (by omega))
    refine ⟨g', by rw [← e, fX7_sheet_L86, if_neg (show ¬ (40 : Int32) ≤ nI i from nle (b := 40) (by omega) (by omega)), i40, wr_v _ _ _ (by omega) (by omega), show nI i + (1 : Int32) = nI (i + 1) from nI_1 i], hz, fun t ht => ?_⟩
    rw [hn t ht, up_n (by omega)]
/-- one sheet becomes another one -/
theorem Shr.put {X : F4} {S : Ms} (hX : Shr X S) {s : Nat} (hs : s < 4) {g g' : Nat → Int32} {bt : Int32} {m : Nat} (hm : m < 41) (he : ∀ p, p < 40 → g p = g' (40 * s + p)) (hn : ∀ t, (t < 40 * s ∨ 40 * s + 40 ≤ t) → g' t = S.2.2.1 t) (D : Nat → Int32) : Shr (upS X s (g, bt, nI m)) (upd S.1 s bt, upd S.2.1 s (nI m), g', D) := by
  intro t ht
  by_cases e : t = s
  · subst e
    rw [upS_s]
    exact ⟨up_s.symm, ⟨m, hm, rfl, up_s⟩, he⟩
  · rw [upS_n e]
    obtain ⟨r1, ⟨m', r2, r3, r4⟩, r5⟩ := hX t ht
    refine ⟨r1.trans (up_n e).symm, ⟨m', r2, r3, (up_n e).trans r4⟩, fun p hp => ?_⟩
    show (X t).1 p = g' (40 * t + p)
    rw [hn _ (by omega)]
    exact r5 p hp
theorem sheet_J {X : F4} {S : Ms} {fd found : Nat → Int32} (hX : Shr X S) (hF : Fnd fd found) {s : Nat} (hs : s < 4) (b c : Int32) : P4 (fX6_sheet_J41 s X fd b c) (fX7_sheet_J36 found S (nI s) b c) := by
  unfold fX6_sheet_J41 fX7_sheet_J36
  by_cases h0 : 0 ≤ c
  · rw [if_pos h0, if_pos h0]
    by_cases h1 : c ≤ (40 : Int32)
    · rw [if_pos h1, if_pos h1, wr_v _ _ _ hs (by omega)]
      obtain ⟨m, hm, rfl⟩ : ∃ m, m < 41 ∧ c = nI m := by
        obtain ⟨j, hj, e⟩ := nI_of2 (M := 40) (n := 40) (by decide) (Int32.not_lt.mpr h0) h1
        exact ⟨j, by omega, e⟩
      by_cases hb : b = 0
      · rw [if_pos hb, if_pos hb, wr_v _ _ _ hs (by omega)]
        obtain ⟨g, e1, z1⟩ := begin_v (X s) b (nI 0)
        obtain ⟨g', e2, z2, z3⟩ := sheet7_L hs (upd S.1 s b) (upd S.2.1 s (nI 0)) S.2.2.2 (fun S111 => rd S111.2.1 4 (nI s) (fun x112 => some (x112, found, S111))) 40 0 fu S.2.2.1 (by omega) (fu_gt (by omega)) (fun p hp => absurd hp (Nat.not_lt_zero p))
        rw [show fX2_begin (X s) b (0 : Int32) = _ from e1, o1_v]
        have q : rd (upd S.2.1 s (nI 0)) 4 (nI s) (fun x112 => some (x112, found, (upd S.1 s b, upd S.2.1 s (nI 0), g', S.2.2.2))) = some (nI 0, found, (upd S.1 s b, upd S.2.1 s (nI 0), g', S.2.2.2)) := by rw [rd_v _ _ hs (by omega), up_s]
        exact ⟨nI 0, upS X s (g, b, nI 0), fd, found, (upd S.1 s b, upd S.2.1 s (nI 0), g', S.2.2.2), by rw [upS_s] <;> rfl, e2.trans q, hX.put hs (bt := b) (m := 0) (by omega) (fun p hp => (z1 p hp).trans (z2 p hp).symm) z3 S.2.2.2, hF⟩
      · rw [if_neg hb, if_neg hb, wr_v _ _ _ hs (by omega)]
        obtain ⟨g, e1, z1⟩ := begin_v (X s) b (nI m)
        obtain ⟨g', e2, z2, z3⟩ := sheet7_L hs (upd S.1 s b) (upd S.2.1 s (nI m)) S.2.2.2 (fun S108 => rd S108.2.1 4 (nI s) (fun x109 => some (x109, found, S108))) 40 0 fu S.2.2.1 (by omega) (fu_gt (by omega)) (fun p hp => absurd hp (Nat.not_lt_zero p))
        rw [e1, o1_v]
        have q : rd (upd S.2.1 s (nI m)) 4 (nI s) (fun x109 => some (x109, found, (upd S.1 s b, upd S.2.1 s (nI m), g', S.2.2.2))) = some (nI m, found, (upd S.1 s b, upd S.2.1 s (nI m), g', S.2.2.2)) := by rw [rd_v _ _ hs (by omega), up_s]
        exact ⟨nI m, upS X s (g, b, nI m), fd, found, (upd S.1 s b, upd S.2.1 s (nI m), g', S.2.2.2), by rw [upS_s] <;> rfl, e2.trans q, hX.put hs (bt := b) (m := m) (by omega) (fun p hp => (z1 p hp).trans (z2 p hp).symm) z3 S.2.2.2, hF⟩
    · rw [if_neg h1, if_neg h1]
      exact P4.fnd hX hF (by omega) cB
  · rw [if_neg h0, if_neg h0]
    exact P4.fnd hX hF (by omega) cZ'
theorem P4.ite {c : Prop} [Decidable c] {a b : Option (Int32 × F4 × (Nat → Int32))} {a' b' : Option (Int32 × (Nat → Int32) × Ms)} (h1 : c → P4 a a') (h2 : ¬ c → P4 b b') : P4 (if c then a else b) (if c then a' else b') := by
  by_cases h : c
  · rw [if_pos h, if_pos h]; exact h1 h
  · rw [if_neg h, if_neg h]; exact h2 h
theorem op_sheet {X : F4} {S : Ms} {fd found : Nat → Int32} (hX : Shr X S) (hF : Fnd fd found) (a b c : Int32) : P4 (fX6_sheet X fd a b c) (fX7_sheet found S a b c) := by
  unfold fX6_sheet fX7_sheet
  rw [isSheet_v, ob]
  by_cases ha : ¬ a < 0 ∧ ¬ (3 : Int32) < a
  · rw [if_pos ha]
    obtain ⟨s, hs, rfl⟩ := inW (m := 3) (by omega) ha
    rw [sh_in hs]
    have hJ := sheet_J hX hF hs b c
    exact P4.ite (fun _ => hJ) (fun _ => P4.ite (fun _ => hJ) (fun _ => P4.ite (fun _ => hJ) (fun _ => P4.ite (fun _ => hJ) (fun _ => P4.fnd hX hF (by omega) cB))))
  · rw [if_neg ha, sh_out ha]
    exact P4.fnd hX hF (by omega) cB
/-! ===== copy ===== -/
/-- so many numbers stand from one on -/
def rgP (m : Nat) (x y : Int32) : Prop := ¬ x < 0 ∧ ¬ y < 0 ∧ x.toNatClampNeg + y.toNatClampNeg ≤ m
theorem range_v {E : Sh} {m : Nat} (hm : m < 41) (h : E.2.2 = nI m) (x y : Int32) : (rgP m x y ∧ fX2_hasRange E x y = some 1) ∨ (¬ rgP m x y ∧ fX2_hasRange E x y = some 0) := by
  have e : (if (40 : Int32) < E.2.2 then (40 : Int32) else E.2.2) = nI m := by
    rw [h]
    exact if_neg (show ¬ (40 : Int32) < nI m from nI_nlt (a := 40) (by omega) (by omega))
  unfold fX2_hasRange
  rw [e]
  by_cases h0 : x < 0
  · rw [if_pos h0]
    exact Or.inr ⟨fun z => z.1 h0, rfl⟩
  · rw [if_neg h0]
    by_cases h1 : y < 0
    · rw [if_pos h1]
      exact Or.inr ⟨fun z => z.2.1 h1, rfl⟩
    · rw [if_neg h1]
      obtain ⟨a, ha, rfl⟩ := nI_of h0
      obtain ⟨q, hq, rfl⟩ := nI_of h1
      unfold rgP
      rw [nI_clamp ha, nI_clamp hq]
      by_cases h2 : nI m < nI a
      · rw [if_pos h2]
        have := (nI_ltI (by omega) ha).mp h2
        exact Or.inr ⟨fun z => absurd z.2.2 (by omega), rfl⟩
      · rw [if_neg h2]
        have q2 : a ≤ m := Nat.not_lt.mp (fun z => h2 (nI_lt z ha))
        rw [pk_sub q2]
        by_cases h3 : nI (m - a) < nI q
        · rw [if_pos h3]
          have := (nI_ltI (by omega) hq).mp h3
          exact Or.inr ⟨fun z => absurd z.2.2 (by omega), rfl⟩
        · rw [if_neg h3]
          have q3 : q ≤ m - a := Nat.not_lt.mp (fun z => h3 (nI_lt z hq))
          exact Or.inl ⟨⟨h0, h1, by omega⟩, rfl⟩
theorem cmp_v {x y : Int32} {m : Nat} (hm : m < 41) (h0 : ¬ x < 0) (h1 : ¬ y < 0) : (rgP m x y ↔ lg_cmp (x.toInt64 + y.toInt64) (nI m).toInt64 ≤ 0) ∧ (rgP m x y ↔ ¬ 0 < lg_cmp (x.toInt64 + y.toInt64) (nI m).toInt64) := by
  obtain ⟨a, ha, rfl⟩ := nI_of h0
  obtain ⟨q, hq, rfl⟩ := nI_of h1
  rw [nI_l ha, nI_l hq, nI_l (show m < 2 ^ 31 by omega), lN_add]
  have hb : a + q < 2 ^ 63 := by omega
  have hm2 : m < 2 ^ 63 := by omega
  unfold rgP lg_cmp
  rw [nI_clamp ha, nI_clamp hq]
  by_cases h2 : a + q ≤ m
  · have z1 : ¬ lN (a + q) > lN m := fun z => absurd ((pk_lLT hm2 hb).mp z) (by omega)
    rw [if_neg z1]
    by_cases h3 : lN (a + q) = lN m
    · rw [if_pos h3]
      exact ⟨⟨fun _ => by decide, fun _ => ⟨h0, h1, h2⟩⟩, ⟨fun _ => by decide, fun _ => ⟨h0, h1, h2⟩⟩⟩
    · rw [if_neg h3]
      exact ⟨⟨fun _ => by decide, fun _ => ⟨h0, h1, h2⟩⟩, ⟨fun _ => by decide, fun _ => ⟨h0, h1, h2⟩⟩⟩
  · have z1 : lN (a + q) > lN m := (pk_lLT hm2 hb).mpr (by omega)
    rw [if_pos z1]
    exact ⟨⟨fun z => absurd z.2.2 h2, fun z => absurd z (by decide)⟩, ⟨fun z => absurd z.2.2 h2, fun z => absurd (show (0 : Int32) < 1 by decide) z⟩⟩
theorem copy7_a {s a q : Nat} (hs : s < 4) (haq : a + q ≤ 40) (A B N : Nat → Int32) (kx : Ms → Option (Int32 × (Nat → Int32) × Ms)) : ∀ (j i f : Nat) (g : Nat → Int32), i + j = q → j < f → (∀ p, p < i → g p = N (40 * s + a + p)) → ∃ g', fX7_copy_L129 (nI s) (nI a) (nI q) kx f (A, B, N, g) (nI i) = kx (A, B, N, g') ∧ ∀ p, p < q → g' p = N (40 * s + a + p) := by
  intro j
  induction j with
  | zero =>
    intro i f g hi hf hg
    obtain ⟨f, rfl⟩ : ∃ q, f = q + 1 := ⟨f - 1, by omega⟩
    exact ⟨g, by rw [fX7_copy_L129, if_pos (nI_le (by omega) (by omega))], fun p hp => hg p (by omega)⟩
  | succ j ih =>
    intro i f g hi hf hg
    obtain ⟨f, rfl⟩ : ∃ q, f = q + 1 := ⟨f - 1, by omega⟩
    obtain ⟨g', e, hz⟩ := ih (i + 1) f (upd g i (N (40 * s + a + i))) (by omega) (by omega) (fun p hp => by
      by_cases q : p = i
      · subst q; exact up_s
      · rw [up_n q]; exact hg p (by omega))
    exact ⟨g', by rw [← e, fX7_copy_L129, if_neg (nle (by omega) (by omega)), i40, nI_add, rd_v _ _ (by omega) (by omega), wr_v _ _ _ (by omega) (by omega), show nI i + (1 : Int32) = nI (i + 1) from nI_1 i], hz⟩
theorem copy7_b {t b q : Nat} (ht : t < 4) (hbq : b + q ≤ 40) (A B D : Nat → Int32) (kx : Ms → Option (Int32 × (Nat → Int32) × Ms)) : ∀ (j i f : Nat) (g : Nat → Int32), i + j = q → j < f → (∀ p, p < i → g (40 * t + b + p) = D p) → ∃ g', fX7_copy_L166 (nI t) (nI b) (nI q) kx f (A, B, g, D) (nI i) = kx (A, B, g', D) ∧ (∀ p, p < q → g' (40 * t + b + p) = D p) ∧ ∀ r, (r < 40 * t + b ∨ 40 * t + b + q ≤ r) → g' r = g r := by
  intro j
  induction j with
  | zero =>
    intro i f g hi hf hg
    obtain ⟨f, rfl⟩ : ∃ q, f = q + 1 := ⟨f - 1, by omega⟩
    exact ⟨g, by rw [fX7_copy_L166, if_pos (nI_le (by omega) (by omega))], fun p hp => hg p (by omega), fun _ _ => rfl⟩
  | succ j ih =>
    intro i f g hi hf hg
    obtain ⟨f, rfl⟩ : ∃ q, f = q + 1 := ⟨f - 1, by omega⟩
    obtain ⟨g', e, hz, hn⟩ := ih (i + 1) f (upd g (40 * t + b + i) (D i)) (by omega) (by omega) (fun p hp => by
      by_cases q : p = i
      · subst q; exact up_s
      · rw [up_n (by omega)]; exact hg p (by omega))
    refine ⟨g', by rw [← e, fX7_copy_L166, if_neg (nle (by omega) (by omega)), rd_v _ _ (by omega) (by omega), i40, nI_add, wr_v _ _ _ (by omega) (by omega), show nI i + (1 : Int32) = nI (i + 1) from nI_1 i], hz, fun r hr => ?_⟩
    rw [hn r hr, up_n (by omega)]
theorem copy_M {X : F4} {S : Ms} {fd found : Nat → Int32} (hX : Shr X S) (hF : Fnd fd found) {s t a b q ms mt : Nat} (hs : s < 4) (ht : t < 4) (hms : ms < 41) (hmt : mt < 41) (e1 : a + q ≤ ms) (e2 : b + q ≤ mt) (h2 : (X t).2.2 = nI mt) (h3 : S.2.1 t = nI mt) (hb : (X t).2.1 = S.1 t) : P4 (cp ((X s).1) ((X t).1) 40 40 (nI a) (nI b) (nI q) (fun f118 => some (nI q, (upS X t (f118, (X t).2.1, (X t).2.2)), fd))) (fX7_copy_L129 (nI s) (nI a) (nI q) (fun S125 => fX7_copy_L166 (nI t) (nI b) (nI q) (fun S130 => some (nI q, found, S130)) fu S125 (0 : Int32)) fu S (0 : Int32)) := by
  obtain ⟨g1, c1, z1⟩ := copy7_a hs (show a + q ≤ 40 by omega) S.1 S.2.1 S.2.2.1 (fun S125 => fX7_copy_L166 (nI t) (nI b) (nI q) (fun S130 => some (nI q, found, S130)) fu S125 (0 : Int32)) q 0 fu S.2.2.2 (by omega) (fu_gt (by omega)) (fun p hp => absurd hp (Nat.not_lt_zero p))
  obtain ⟨g2, c2, z2, z3⟩ := copy7_b ht (show b + q ≤ 40 by omega) S.1 S.2.1 g1 (fun S130 => some (nI q, found, S130)) q 0 fu S.2.2.1 (by omega) (fu_gt (by omega)) (fun p hp => absurd hp (Nat.not_lt_zero p))
  unfold cp
  rw [nI_clamp (n := a) (by omega), nI_clamp (n := b) (by omega), nI_clamp (n := q) (by omega), if_pos ⟨nI_pos (by omega), nI_pos (by omega), nI_pos (by omega), by omega, by omega⟩]
  refine ⟨_, _, _, _, _, rfl, c1.trans c2, fun r hr => ?_, hF⟩
  by_cases e : r = t
  · subst e
    rw [upS_s]
    refine ⟨hb, ⟨mt, hmt, h2, h3⟩, fun p hp => ?_⟩
    show va_cpy (X s).1 (X r).1 a b q p = g2 (40 * r + p)
    by_cases w : b ≤ p ∧ p < b + q
    · obtain ⟨i, rfl⟩ : ∃ i, p = b + i := ⟨p - b, by omega⟩
      rw [pk_cpy_in w.1 w.2, show b + i - b = i by omega, ← Nat.add_assoc, z2 i (by omega), z1 i (by omega), (hX s hs).2.2 (a + i) (by omega), ← Nat.add_assoc]
    · rw [pk_cpy_out (by omega), z3 _ (by omega)]
      exact (hX r hr).2.2 p hp
  · rw [upS_n e]
    obtain ⟨r1, r2, r3⟩ := hX r hr
    refine ⟨r1, r2, fun p hp => ?_⟩
    show (X r).1 p = g2 (40 * r + p)
    rw [z3 _ (by omega)]
    exact r3 p hp
theorem op_copy {X : F4} {S : Ms} {fd found : Nat → Int32} (hX : Shr X S) (hF : Fnd fd found) (a b c d e : Int32) : P4 (fX6_copy X fd a b c d e) (fX7_copy found S a b c d e) := by
  unfold fX6_copy fX7_copy
  rw [isSheet_v, ob, isSheet_v, ob]
  by_cases ha : ¬ a < 0 ∧ ¬ (3 : Int32) < a
  · rw [if_pos ha]
    obtain ⟨s, hs, rfl⟩ := inW (m := 3) (by omega) ha
    rw [sh_in hs]
    by_cases hc : ¬ c < 0 ∧ ¬ (3 : Int32) < c
    · rw [if_pos hc]
      obtain ⟨t, ht, rfl⟩ := inW (m := 3) (by omega) hc
      obtain ⟨q1, ⟨m, hm, q2, q3⟩, q4⟩ := hX s hs
      obtain ⟨p1, ⟨k, hk, p2, p3⟩, p4⟩ := hX t ht
      rw [sh_in ht, miss_v, ob, miss_v, ob, rd_v _ _ hs (by omega), rd_v _ _ ht (by omega), rd_v _ _ hs (by omega), rd_v _ _ ht (by omega), q1, p1]
      by_cases h0 : S.1 s = 0
      · rw [if_pos h0, if_pos h0]
        exact P4.fnd hX hF (by omega) cM
      · rw [if_neg h0, if_neg h0]
        by_cases h1 : S.1 t = 0
        · rw [if_pos h1, if_pos h1]
          exact P4.fnd hX hF (by omega) cM
        · rw [if_neg h1, if_neg h1]
          by_cases h2 : S.1 s = S.1 t
          · rw [if_pos h2, if_pos h2, rd_v _ _ hs (by omega), rd_v _ _ ht (by omega), q3, p3]
            by_cases w : ¬ b < 0 ∧ ¬ d < 0 ∧ ¬ e < 0
            · rw [if_neg w.1, if_neg w.2.1, if_neg w.2.2]
              rcases range_v hm q2 b e with ⟨r1, r2⟩ | ⟨r1, r2⟩
              · rw [r2, o1_v, if_neg (show ¬ (1 : Int32) = 0 by decide), if_neg ((cmp_v hm w.1 w.2.2).2.mp r1)]
                rcases range_v hk p2 d e with ⟨u1, u2⟩ | ⟨u1, u2⟩
                · rw [u2, o1_v, if_neg (show ¬ (1 : Int32) = 0 by decide), if_pos ((cmp_v hk w.2.1 w.2.2).1.mp u1)]
                  obtain ⟨b', hb', rfl⟩ := nI_of w.1
                  obtain ⟨d', hd', rfl⟩ := nI_of w.2.1
                  obtain ⟨e', he', rfl⟩ := nI_of w.2.2
                  have r3 := r1.2.2
                  have u3 := u1.2.2
                  rw [nI_clamp hb', nI_clamp he'] at r3
                  rw [nI_clamp hd', nI_clamp he'] at u3
                  rw [← p1]
                  exact copy_M hX hF hs ht hm hk r3 u3 p2 p3 p1
                · rw [u2, o1_v, if_pos rfl, if_neg (fun z => u1 ((cmp_v hk w.2.1 w.2.2).1.mpr z))]
                  exact P4.fnd hX hF (by omega) cB
              · have z : 0 < lg_cmp (b.toInt64 + e.toInt64) (nI m).toInt64 := Decidable.byContradiction (fun z => r1 ((cmp_v hm w.1 w.2.2).2.mpr z))
                rw [r2, o1_v, if_pos rfl, if_pos z]
                exact P4.fnd hX hF (by omega) cB
            · have hM : P4 (o2 (fX6_finding fd (-1000001 : Int32)) (fun x115 fd116 => some (x115, X, fd116))) (if b < 0 then (o2 (fX7_finding found (-1000001 : Int32)) (fun x111 found112 => some (x111, found112, S))) else (if d < 0 then (o2 (fX7_finding found (-1000001 : Int32)) (fun x113 found114 => some (x113, found114, S))) else (if e < 0 then (o2 (fX7_finding found (-1000001 : Int32)) (fun x115 found116 => some (x115, found116, S))) else none))) := by
                have hB := P4.fnd hX hF (show 0 < 7 by omega) cB
                by_cases w1 : b < 0
                · rw [if_pos w1]; exact hB
                · rw [if_neg w1]
                  by_cases w2 : d < 0
                  · rw [if_pos w2]; exact hB
                  · rw [if_neg w2]
                    by_cases w3 : e < 0
                    · rw [if_pos w3]; exact hB
                    · exact absurd ⟨w1, w2, w3⟩ w
              obtain ⟨v, X', fd', found', S', m1, m2, m3, m4⟩ := hM
              refine ⟨v, X', fd', found', S', ?_, ?_, m3, m4⟩
              · rcases range_v hm q2 b e with ⟨r1, r2⟩ | ⟨r1, r2⟩
                · rw [r2, o1_v, if_neg (show ¬ (1 : Int32) = 0 by decide)]
                  rcases range_v hk p2 d e with ⟨u1, u2⟩ | ⟨u1, u2⟩
                  · exact absurd ⟨r1.1, u1.1, r1.2.1⟩ w
                  · rw [u2, o1_v, if_pos rfl]; exact m1
                · rw [r2, o1_v, if_pos rfl]; exact m1
              · by_cases w1 : b < 0
                · rw [if_pos w1] at m2 ⊢; exact m2
                · rw [if_neg w1] at m2 ⊢
                  by_cases w2 : d < 0
                  · rw [if_pos w2] at m2 ⊢; exact m2
                  · rw [if_neg w2] at m2 ⊢
                    by_cases w3 : e < 0
                    · rw [if_pos w3] at m2 ⊢; exact m2
                    · exact absurd ⟨w1, w2, w3⟩ w
          · rw [if_neg h2, if_neg h2]
            exact P4.fnd hX hF (by omega) cK
    · rw [if_neg hc, sh_out hc]
      exact P4.fnd hX hF (by omega) cB
  · rw [if_neg ha, sh_out ha]
    by_cases hc : ¬ c < 0 ∧ ¬ (3 : Int32) < c
    · obtain ⟨t, ht, rfl⟩ := inW (m := 3) (by omega) hc
      rw [sh_in ht]
      exact P4.fnd hX hF (by omega) cB
    · rw [sh_out hc]
      exact P4.fnd hX hF (by omega) cB
/-! ===== load ===== -/
theorem may2_v {n : Nat} {d e : Int32} {R : Rf} {now : Nat → Int32} (h : SM n d e R now) {c : Nat} (hc : c < 8) (v : Int32) : fX1_mayBecome R (nI c) (2 : Int32) v = some (if ¬ v < 0 ∧ ¬ now (16 + 10 * c + 1) < v then 1 else 0) := by
  have k0 : fX6_at_K0 (2 : Int32) = some 0 := by decide +kernel
  unfold fX1_mayBecome fX1_mayBecome_J25
  rw [if_neg (show ¬ (2 : Int32) = 1 by decide), k0, o1_v, if_pos rfl, get_1 R hc, o1_v, if_neg (show ¬ (2 : Int32) = 6 by decide), win_v, ob, h.fl hc (f := 1) (by omega)]
  by_cases q : ¬ v < 0 ∧ ¬ now (16 + 10 * c + 1) < v
  · rw [if_pos q, if_pos q]
  · rw [if_neg q, if_neg q]
theorem load_L {n k : Nat} (hn : n < 9) {X : F4} {S : Ms} (hX : Shr X S) {s : Nat} (hs : s < 4) {m : Nat} (hm : m < 41) (e1 : (X s).2.2 = nI m) (e2 : S.2.1 s = nI m) (kx : Rf → Int32 → Option (Int32 × Rf × (Nat → Int32))) (kx' : (Nat → Int32) → Int32 → Option (Int32 × (Nat → Int32) × (Nat → Int32))) : ∀ (j i f f' : Nat) (R : Rf) (now : Nat → Int32), i + j = m → j < f → j < f' → SM n 0 0 R now → CI k now → ∃ R' now' v, fX6_load_L33 s X kx f R (nI i) = kx R' v ∧ fX7_load_L33 S (nI s) kx' f' now (nI i) = kx' now' v ∧ SM n 0 0 R' now' ∧ CI k now' ∧ ∀ t, t < 16 → now' t = now t := by
  intro j
  induction j with
  | zero =>
    intro i f f' R now hi hf hf' h hci
    obtain ⟨f, rfl⟩ : ∃ q, f = q + 1 := ⟨f - 1, by omega⟩
    obtain ⟨f', rfl⟩ : ∃ q, f' = q + 1 := ⟨f' - 1, by omega⟩
    exact ⟨R, now, nI i, by rw [fX6_load_L33, e1, if_pos (nI_le (by omega) (by omega))], by rw [fX7_load_L33, rd_v _ _ hs (by omega), e2, if_pos (nI_le (by omega) (by omega))], h, hci, fun _ _ => rfl⟩
  | succ j ih =>
    intro i f f' R now hi hf hf' h hci
    obtain ⟨f, rfl⟩ : ∃ q, f = q + 1 := ⟨f - 1, by omega⟩
    obtain ⟨f', rfl⟩ : ∃ q, f' = q + 1 := ⟨f' - 1, by omega⟩
    rw [fX6_load_L33, e1, if_neg (nle (by omega) (by omega)), fX7_load_L33, rd_v _ _ hs (by omega), e2, if_neg (nle (by omega) (by omega)), hasC_v h.n2, ob, isC_v _ h.n1 hn, ob]
    by_cases hc : ¬ nI i < 0 ∧ ¬ nI n ≤ nI i
    · rw [if_pos hc, if_pos hc]
      have hin : i < n := by
        rcases Nat.lt_or_ge i n with q | q
        · exact q
        · exact absurd (nI_le q (by omega)) hc.2
      have hi8 : i < 8 := by omega
      rw [at_v _ (by omega) (by omega), o1_v, o1_v, may2_v h hi8, ob, i40, rd_v _ _ (by omega) (by omega), cis_1 now hi8, o1_v, within_v, ob, (hX s hs).2.2 i (by omega)]
      by_cases hv : ¬ S.2.2.1 (40 * s + i) < 0 ∧ ¬ now (16 + 10 * i + 1) < S.2.2.1 (40 * s + i)
      · rw [if_pos hv, if_pos hv, set_2 R _ hi8, o1_v, at2, o1_v, rd_v _ _ (by omega) (by omega), wr_v _ _ _ (by omega) (by omega), show nI i + (1 : Int32) = nI (i + 1) from nI_1 i]
        obtain ⟨R', now', v, g1, g2, g3, g4, g5⟩ := ih (i + 1) f f' _ _ (by omega) (by omega) (by omega) (h.set hi8 (w := 2) (by omega) (by omega) (S.2.2.1 (40 * s + i))) (hci.up (i := 16 + 10 * i + 2) (by omega))
        exact ⟨R', now', v, g1, g2, g3, g4, fun t ht => by rw [g5 t ht, up_n (by omega)]⟩
      · rw [if_neg hv, if_neg hv]
        exact ⟨R, now, nI i, rfl, rfl, h, hci, fun _ _ => rfl⟩
    · rw [if_neg hc, if_neg hc]
      exact ⟨R, now, nI i, rfl, rfl, h, hci, fun _ _ => rfl⟩
theorem op_load {R : Rf} {X : F4} {S : Ms} {now fd found : Nat → Int32} (hR : Rl R now) (hX : Shr X S) (hF : Fnd fd found) (a : Int32) : P2 (fX6_load R X fd a) (fX7_load now found S a) := by
  have hR' := hR
  obtain ⟨n, k, hn, h, hci, hsp⟩ := hR
  unfold fX6_load fX7_load
  rw [isSheet_v, ob]
  by_cases ha : ¬ a < 0 ∧ ¬ (3 : Int32) < a
  · rw [if_pos ha]
    obtain ⟨s, hs, rfl⟩ := inW (m := 3) (by omega) ha
    obtain ⟨q1, ⟨m, hm, q2, q3⟩, q4⟩ := hX s hs
    rw [sh_in hs, miss_v, ob, rd_v _ _ hs (by omega), q1]
    by_cases h0 : S.1 s = 0
    · rw [if_pos h0, if_pos h0]
      exact P2.fnd hR' hF (by omega) cM
    · rw [if_neg h0, if_neg h0]
      obtain ⟨R', now', v, g1, g2, g3, g4, g5⟩ := load_L hn hX hs hm q2 q3 (fun R115 x116 => some (x116, R115, fd)) (fun now119 x120 => some (x120, now119, found)) m 0 fu fu R now (by omega) (fu_gt (by omega)) (fu_gt (by omega)) h hci
      exact ⟨v, R', fd, now', found, g1, g2, ⟨n, k, hn, g3, g4, fun t ht => by rw [g5 _ (by omega)]; exact hsp t ht⟩, hF⟩
  · rw [if_neg ha, sh_out ha]
    exact P2.fnd hR' hF (by omega) cB
