/-! ===== what the survey notes ===== -/
theorem nI_and (a b : Nat) : nI a &&& nI b = nI (a &&& b) := by
  apply Int32.toBitVec_inj.1
  show BitVec.ofNat 32 a &&& BitVec.ofNat 32 b = BitVec.ofNat 32 (a &&& b)
  apply BitVec.eq_of_getLsbD_eq
  intro i hi
  simp [hi]
/-- hours that aren't dry, below i; their sides; all signs as bits -/
def wtN (dg : Nat → Nat) : Nat → Nat
  | 0 => 0
  | i + 1 => if dg i = 0 then wtN dg i else wtN dg i + 1
def sdN (dg : Nat → Nat) : Nat → Nat
  | 0 => 0
  | i + 1 => if dg i = 0 then sdN dg i else sdN dg i ||| 2 ^ (dg i - 1)
def hsN (dg : Nat → Nat) : Nat → Nat
  | 0 => 0
  | i + 1 => hsN dg i ||| 2 ^ dg i
theorem wtN_le (dg : Nat → Nat) : ∀ i, wtN dg i ≤ i := by
  intro i
  induction i with
  | zero => exact Nat.le_refl 0
  | succ i ih =>
    rw [wtN]
    by_cases q : dg i = 0
    · rw [if_pos q]; omega
    · rw [if_neg q]; omega
theorem hs_1 : ∀ h, h < 32 → ∀ s, s < 5 → h ||| 2 ^ s < 32 ∧ (h ||| 2 ^ s) / 2 = if s = 0 then h / 2 else h / 2 ||| 2 ^ (s - 1) := by decide +kernel
theorem hsN_v {dg : Nat → Nat} (hd : ∀ i, dg i < 5) : ∀ i, hsN dg i < 32 ∧ hsN dg i / 2 = sdN dg i := by
  intro i
  induction i with
  | zero => exact ⟨show (0 : Nat) < 32 by omega, show 0 / 2 = 0 by omega⟩
  | succ i ih =>
    obtain ⟨h1, h2⟩ := hs_1 _ ih.1 _ (hd i)
    rw [hsN, sdN]
    refine ⟨h1, ?_⟩
    rw [h2, ih.2]
theorem note_L {m : Nat} (hm : m < 6) {S : Sv} (hh : S.2.2.2.1 = nI m) {dg : Nat → Nat} (hd : ∀ i, dg i < 5) (hs : ∀ i, i < m → S.1 i = nI (dg i)) (kx : Int32 → Int32 → Option Sv) : ∀ (j i f : Nat), i + j = m → j < f → fX3_note_L34 S kx f (nI (wtN dg i)) (nI (sdN dg i)) (nI i) = kx (nI (wtN dg m)) (nI (sdN dg m)) := by
  intro j
  induction j with
  | zero =>
    intro i f hi hf
    obtain ⟨f, rfl⟩ : ∃ q, f = q + 1 := ⟨f - 1, by omega⟩
    have e : i = m := by omega
    subst e
    rw [fX3_note_L34, hh, if_pos (nI_le (by omega) (by omega))]
  | succ j ih =>
    intro i f hi hf
    obtain ⟨f, rfl⟩ : ∃ q, f = q + 1 := ⟨f - 1, by omega⟩
    have h5 := hd i
    rw [fX3_note_L34, hh, if_neg (nle (by omega) (by omega)), at_v _ (by omega) (by omega), o1_v, hs i (by omega), side_n (hd i), o1_v, show nI i + (1 : Int32) = nI (i + 1) from nI_1 i, ← ih (i + 1) f (by omega) (by omega), wtN, sdN]
    by_cases q : dg i = 0
    · rw [if_pos q, if_pos q, if_pos (show nI (dg i) ≤ (0 : Int32) by rw [q]; decide)]
    · rw [if_neg q, if_neg q, if_neg (show ¬ nI (dg i) ≤ (0 : Int32) from nle (b := dg i) (a := 0) (by omega) (by omega)), sh1 (dg i - 1) (by omega), nI_or, show nI (wtN dg i) + (1 : Int32) = nI (wtN dg i + 1) from nI_1 _]
theorem note_v {m : Nat} (hm : m < 6) {S : Sv} (hh : S.2.2.2.1 = nI m) {dg : Nat → Nat} (hd : ∀ i, dg i < 5) (hs : ∀ i, i < m → S.1 i = nI (dg i)) : fX3_note S = some (S.1, S.2.1, (if S.2.2.2.2.1 = 0 then S.1 else S.2.2.1), S.2.2.2.1, (S.2.2.2.2.1 + (1 : Int32)), (if nI (wtN dg m) < S.2.2.2.2.2.1 then nI (wtN dg m) else S.2.2.2.2.2.1), (S.2.2.2.2.2.2 &&& nI (sdN dg m))) := by
  unfold fX3_note
  by_cases q : S.2.2.2.2.1 = 0
  · rw [if_pos q, if_pos q, show fX6_copyRow 5 S.1 = some S.1 from if_pos (by omega), o1_v]
    unfold fX3_note_J18
    exact note_L hm (S := (S.1, S.2.1, S.1, S.2.2.2.1, (S.2.2.2.2.1 + (1 : Int32)), S.2.2.2.2.2.1, S.2.2.2.2.2.2)) hh hd hs _ m 0 fu (by omega) (fu_gt (by omega))
  · rw [if_neg q, if_neg q]
    unfold fX3_note_J18
    exact note_L hm (S := (S.1, S.2.1, S.2.2.1, S.2.2.2.1, (S.2.2.2.2.1 + (1 : Int32)), S.2.2.2.2.2.1, S.2.2.2.2.2.2)) hh hd hs _ m 0 fu (by omega) (fu_gt (by omega))
/-! what is found below row r: how many open it, the fewest wet hours, the sides in all of them -/
def cnS (op : Nat → Bool) : Nat → Nat
  | 0 => 0
  | r + 1 => if op r then cnS op r + 1 else cnS op r
def fwS (op : Nat → Bool) (m : Nat) : Nat → Nat
  | 0 => m
  | r + 1 => if op r then (if wtN (sgn m r) m < fwS op m r then wtN (sgn m r) m else fwS op m r) else fwS op m r
def csS (op : Nat → Bool) (m : Nat) : Nat → Nat
  | 0 => 15
  | r + 1 => if op r then csS op m r &&& sdN (sgn m r) m else csS op m r
theorem cnS_le (op : Nat → Bool) : ∀ r, cnS op r ≤ r := by
  intro r
  induction r with
  | zero => exact Nat.le_refl 0
  | succ r ih =>
    rw [cnS]
    by_cases q : op r = true
    · rw [if_pos q]; omega
    · rw [if_neg q]; omega
theorem fwS_le (op : Nat → Bool) (m : Nat) : ∀ r, fwS op m r ≤ m := by
  intro r
  induction r with
  | zero => exact Nat.le_refl m
  | succ r ih =>
    rw [fwS]
    by_cases q : op r = true
    · rw [if_pos q]
      by_cases w : wtN (sgn m r) m < fwS op m r
      · rw [if_pos w]; exact wtN_le _ m
      · rw [if_neg w]; exact ih
    · rw [if_neg q]; exact ih
theorem cnS_0 (op : Nat → Bool) : ∀ r, cnS op r = 0 ↔ ∀ q, q < r → op q = false := by
  intro r
  induction r with
  | zero => exact ⟨fun _ q h => absurd h (Nat.not_lt_zero q), fun _ => rfl⟩
  | succ r ih =>
    rw [cnS]
    by_cases q : op r = true
    · rw [if_pos q]
      exact ⟨fun z => absurd z (by omega), fun z => by rw [z r (by omega)] at q; exact Bool.noConfusion q⟩
    · rw [if_neg q, ih]
      refine ⟨fun z p hp => ?_, fun z p hp => z p (by omega)⟩
      rcases Nat.lt_succ_iff_lt_or_eq.mp hp with w | w
      · exact z p w
      · rw [w]; exact Bool.eq_false_iff.mpr q
/-- the first row that opens it -/
def Fst (op : Nat → Bool) (q : Nat) : Prop := op q = true ∧ ∀ p, p < q → op p = false
theorem Fst.one {op : Nat → Bool} {q p : Nat} (h : Fst op q) (h2 : Fst op p) : q = p := by
  rcases Nat.lt_trichotomy q p with z | z | z
  · have := h2.2 q z
    rw [h.1] at this
    exact Bool.noConfusion this
  · exact z
  · have := h.2 p z
    rw [h2.1] at this
    exact Bool.noConfusion this
theorem cn0 {op : Nat → Bool} {r : Nat} (h : r < 1000000) : (nI (cnS op r) = 0) ↔ cnS op r = 0 := by
  have := cnS_le op r
  exact nI_eq (b := 0) (by omega) (by omega)
theorem look_L {n k m : Nat} (hn : n < 9) (hm : m < 6) {R0 : Rf} {now0 : Nat → Int32} (h0 : SM n 0 0 R0 now0) (hci : CI k now0) (kx : Sv → Rf → Option (Sv × Rf)) : ∀ (j r f : Nat) (S : Sv) (R : Rf) (d e : Int32) (nowX : Nat → Int32) (dg : Nat → Nat), r + j = 5 ^ m → j < f → SM n d e R nowX → Kp n now0 nowX → S.2.2.2.1 = nI m → (∀ t, t ≤ m → (r = 0 → t = 0) → ∀ c, c < n → S.2.1 (8 * t + c) = trS now0 dg t (16 + 10 * c + 2)) → (r ≠ 0 → ∀ i, i < m → S.1 i = nI (dg i)) → (∀ i, dg i < 5) → S.2.2.2.2.1 = nI (cnS (opR now0 k m) r) → S.2.2.2.2.2.1 = nI (fwS (opR now0 k m) m r) → S.2.2.2.2.2.2 = nI (csS (opR now0 k m) m r) → (cnS (opR now0 k m) r ≠ 0 → ∃ q, q < r ∧ Fst (opR now0 k m) q ∧ ∀ i, i < m → S.2.2.1 i = nI (sgn m q i)) → ∃ S' R', fX3_lookThrough_L30 (nI (5 ^ m)) kx f S R (nI r) = kx S' R' ∧ S'.2.2.2.2.1 = nI (cnS (opR now0 k m) (5 ^ m)) ∧ S'.2.2.2.2.2.1 = nI (fwS (opR now0 k m) m (5 ^ m)) ∧ S'.2.2.2.2.2.2 = nI (csS (opR now0 k m) m (5 ^ m)) ∧ (cnS (opR now0 k m) (5 ^ m) ≠ 0 → ∃ q, q < 5 ^ m ∧ Fst (opR now0 k m) q ∧ ∀ i, i < m → S'.2.2.1 i = nI (sgn m q i)) ∧ (R'.2.2.2.2.2.1 = 0 ∨ R'.2.2.2.2.2.1 = 1) := by
  have h5 := p5 hm
  intro j
  induction j with
  | zero =>
    intro r f S R d e nowX dg hi hf hX kX hh hlev hsg hd b1 b2 b3 b4
    obtain ⟨f, rfl⟩ : ∃ q, f = q + 1 := ⟨f - 1, by omega⟩
    have er : r = 5 ^ m := by omega
    subst er
    exact ⟨S, R, by rw [fX3_lookThrough_L30, if_pos (nI_le (by omega) (by omega))], b1, b2, b3, b4, hX.c01⟩
  | succ j ih =>
    intro r f S R d e nowX dg hi hf hX kX hh hlev hsg hd b1 b2 b3 b4
    obtain ⟨f, rfl⟩ : ∃ q, f = q + 1 := ⟨f - 1, by omega⟩
    have hr : r < 5 ^ m := by omega
    obtain ⟨f1, f2, R', d', e', e1, z1, z2, h1⟩ := pass_v hn hm hr h0 hci hX kX hh hlev hsg hd
    obtain ⟨Rq, -, g2, g3⟩ := trS_v hn h0 hci (sgn_lt m r) m
    rw [fX3_lookThrough_L30, if_neg (nle (by omega) (by omega)), e1, o2_v, open1_v hn h1 g2, o1_v, show nI r + (1 : Int32) = nI (r + 1) from nI_1 r]
    by_cases q : opR now0 k m r = true
    · have q' : opB (trS now0 (sgn m r) m) k = true := q
      rw [if_neg (fun z => (bz _).mp z q'), note_v hm (S := (f1, f2, S.2.2)) hh (sgn_lt m r) z1, o1_v]
      refine ih (r + 1) f _ R' d' e' _ (sgn m r) (by omega) (by omega) h1 g3 hh (fun t h1 _ c hc => z2 t h1 c hc) (fun _ i hi => z1 i hi) (sgn_lt m r) ?_ ?_ ?_ ?_
      · show S.2.2.2.2.1 + (1 : Int32) = _
        rw [b1, cnS, if_pos q]
        exact nI_1 _
      · show (if nI (wtN (sgn m r) m) < S.2.2.2.2.2.1 then nI (wtN (sgn m r) m) else S.2.2.2.2.2.1) = _
        have w1 := wtN_le (sgn m r) m
        have w2 := fwS_le (opR now0 k m) m r
        rw [b2, fwS, if_pos q]
        by_cases w : wtN (sgn m r) m < fwS (opR now0 k m) m r
        · rw [if_pos w, if_pos (nI_lt w (by omega))]
        · rw [if_neg w, if_neg (nI_nlt (by omega) (by omega))]
      · show S.2.2.2.2.2.2 &&& nI (sdN (sgn m r) m) = _
        rw [b3, csS, if_pos q]
        exact nI_and _ _
      · intro _
        show ∃ q, q < r + 1 ∧ Fst (opR now0 k m) q ∧ ∀ i, i < m → (if S.2.2.2.2.1 = 0 then f1 else S.2.2.1) i = nI (sgn m q i)
        by_cases w : cnS (opR now0 k m) r = 0
        · rw [b1, if_pos ((cn0 (by omega)).mpr w)]
          exact ⟨r, by omega, ⟨q, (cnS_0 _ r).mp w⟩, z1⟩
        · rw [b1, if_neg (fun z => w ((cn0 (by omega)).mp z))]
          obtain ⟨p, p1, p2, p3⟩ := b4 w
          exact ⟨p, by omega, p2, p3⟩
    · have q' : ¬ opB (trS now0 (sgn m r) m) k = true := q
      rw [if_pos ((bz _).mpr q')]
      refine ih (r + 1) f _ R' d' e' _ (sgn m r) (by omega) (by omega) h1 g3 hh (fun t h1 _ c hc => z2 t h1 c hc) (fun _ i hi => z1 i hi) (sgn_lt m r) ?_ ?_ ?_ ?_
      · rw [cnS, if_neg q]; exact b1
      · rw [fwS, if_neg q]; exact b2
      · rw [csS, if_neg q]; exact b3
      · rw [cnS, if_neg q]
        intro z
        obtain ⟨p, p1, p2, p3⟩ := b4 z
        exact ⟨p, by omega, p2, p3⟩
theorem begin3_v {n m : Nat} (hn : n < 9) {R0 : Rf} {now0 : Nat → Int32} (h0 : SM n 0 0 R0 now0) (S : Sv) (B : Rf) (dg : Nat → Nat) : ∃ f2, fX3_begin S B R0 (nI m) = some ((S.1, f2, S.2.2.1, nI m, S.2.2.2.2), R0) ∧ ∀ t, t ≤ m → (0 = 0 → t = 0) → ∀ c, c < n → f2 (8 * t + c) = trS now0 dg t (16 + 10 * c + 2) := by
  obtain ⟨f2, e, z1, z2⟩ := keep_v (N := 48) (b := 0) hn (by omega) (by omega) h0.n2 S.2.1
  refine ⟨f2, ?_, fun t ht h c hc => ?_⟩
  · unfold fX3_begin
    rw [become_v B h0.c01, o1_v, show fX1_keepLevels R0 48 S.2.1 (0 : Int32) = _ from e, o1_v]
  · have : t = 0 := h rfl
    subst this
    have := z1 c hc
    rw [Nat.mul_zero, this]
    exact h0.fl (by omega) (by omega)
theorem look_v {n k m : Nat} (hn : n < 9) (hm : m < 6) {R0 : Rf} {now0 : Nat → Int32} (h0 : SM n 0 0 R0 now0) (hci : CI k now0) (S : Sv) (B : Rf) : ∃ S' R', fX3_lookThrough S B R0 (nI m) = some (S', R') ∧ S'.2.2.2.2.1 = nI (cnS (opR now0 k m) (5 ^ m)) ∧ S'.2.2.2.2.2.1 = nI (fwS (opR now0 k m) m (5 ^ m)) ∧ S'.2.2.2.2.2.2 = nI (csS (opR now0 k m) m (5 ^ m)) ∧ (cnS (opR now0 k m) (5 ^ m) ≠ 0 → ∃ q, q < 5 ^ m ∧ Fst (opR now0 k m) q ∧ ∀ i, i < m → S'.2.2.1 i = nI (sgn m q i)) ∧ (R'.2.2.2.2.2.1 = 0 ∨ R'.2.2.2.2.2.1 = 1) := by
  have h5 := p5 hm
  obtain ⟨f2, e, z⟩ := begin3_v (m := m) hn h0 S B (fun _ => 0)
  obtain ⟨S', R', g1, g2⟩ := look_L hn hm h0 hci (fun S112 R113 => some (S112, R113)) (5 ^ m) 0 fu (S.1, f2, S.2.2.1, nI m, (0 : Int32), nI m, (15 : Int32)) R0 0 0 now0 (fun _ => 0) (by omega) (fu_gt (by omega)) h0 (Kp.rf _) rfl z (fun w => absurd rfl w) (fun _ => by omega) rfl rfl rfl (fun w => absurd rfl w)
  refine ⟨S', R', ?_, g2⟩
  unfold fX3_lookThrough
  rw [e, o2_v, many_v hm (S := (S.1, f2, S.2.2.1, nI m, (0 : Int32), nI m, (15 : Int32))) rfl, o1_v]
  exact g1
/-! ===== the calls of all rains ===== -/
/-- a call that surveys -/
def P6 (now : Nat → Int32) (x : Option (Int32 × Rf × Sv × (Nat → Int32))) (y : Option (Int32 × (Nat → Int32) × (Nat → Int32) × (Nat → Int32))) : Prop := ∃ v B' S' fd' aside' found', x = some (v, B', S', fd') ∧ y = some (v, now, aside', found') ∧ (B'.2.2.2.2.2.1 = 0 ∨ B'.2.2.2.2.2.1 = 1) ∧ Fnd fd' found'
theorem P6.fnd {B : Rf} {S : Sv} {now aside fd found : Nat → Int32} (hB : B.2.2.2.2.2.1 = 0 ∨ B.2.2.2.2.2.1 = 1) (h : Fnd fd found) {i : Nat} (hi : i < 7) {c : Int32} (hc : (-1000001 : Int32) - c = nI i) : P6 now (o2 (fX6_finding fd c) (fun x f => some (x, B, S, f))) (o2 (fX7_finding found c) (fun x f => some (x, now, aside, f))) := by
  obtain ⟨fd', found', h1, h2, h3⟩ := Jvm.Pilot.CRainVaultLaw_law_r8479_c1ce3a.fnd h hi hc
  rw [h1, h2]
  exact ⟨_, _, _, _, _, _, rfl, rfl, hB, h3⟩
/-- what a call of all rains refuses -/
def rrS (now : Nat → Int32) (a : Int32) : Int32 := if ¬ a < 0 ∧ ¬ (5 : Int32) < a then (if ¬ (now 0 + a) ≤ (9999 : Int32) then -1000005 else 0) else -1000001
theorem rr6_v {R : Rf} {now : Nat → Int32} (h : R.2.2.2.2.2.2.1 = now 0 + 0) (a : Int32) : fX6_faultOfRains R a = some (rrS now a) := by
  unfold fX6_faultOfRains rrS
  rw [win_v, ob, late6_v, ob, h, Int32.add_zero]
  by_cases h2 : ¬ a < 0 ∧ ¬ (5 : Int32) < a
  · rw [if_pos h2, if_pos h2]
    by_cases h3 : ¬ (now 0 + a) ≤ (9999 : Int32)
    · rw [if_pos h3, if_pos h3]
    · rw [if_neg h3, if_neg h3]
  · rw [if_neg h2, if_neg h2]
theorem rr7_v (now : Nat → Int32) (a : Int32) : fX7_refusesRows now a = some (rrS now a) := by
  unfold fX7_refusesRows rrS
  rw [within_v, ob, late7_v, ob]
  by_cases h2 : ¬ a < 0 ∧ ¬ (5 : Int32) < a
  · rw [if_pos h2, if_pos h2]
    by_cases h3 : ¬ (now 0 + a) ≤ (9999 : Int32)
    · rw [if_pos h3, if_pos h3]
    · rw [if_neg h3, if_neg h3]
  · rw [if_neg h2, if_neg h2]
theorem rrS_or (now : Nat → Int32) (a : Int32) : (rrS now a = 0 ∧ ∃ m, m < 6 ∧ a = nI m) ∨ rrS now a = -1000001 ∨ rrS now a = -1000005 := by
  unfold rrS
  by_cases h2 : ¬ a < 0 ∧ ¬ (5 : Int32) < a
  · rw [if_pos h2]
    by_cases h3 : ¬ (now 0 + a) ≤ (9999 : Int32)
    · rw [if_pos h3]; exact Or.inr (Or.inr rfl)
    · rw [if_neg h3]; exact Or.inl ⟨rfl, inW (m := 5) (by omega) h2⟩
  · rw [if_neg h2]; exact Or.inr (Or.inl rfl)
theorem rains7_L {n k m : Nat} (hn : n < 9) (hm : m < 6) {R0 : Rf} {now0 : Nat → Int32} (h0 : SM n 0 0 R0 now0) (hci : CI k now0) (kx : (Nat → Int32) → Int32 → Option (Int32 × (Nat → Int32) × (Nat → Int32) × (Nat → Int32))) : ∀ (j r f : Nat), r + j = 5 ^ m → j < f → fX7_rains_L32 now0 (nI m) kx f now0 (nI (cnS (opR now0 k m) r)) (nI r) = kx now0 (nI (cnS (opR now0 k m) (5 ^ m))) := by
  have h5 := p5 hm
  intro j
  induction j with
  | zero =>
    intro r f hi hf
    obtain ⟨f, rfl⟩ : ∃ q, f = q + 1 := ⟨f - 1, by omega⟩
    have er : r = 5 ^ m := by omega
    subst er
    rw [fX7_rains_L32, rows_v hm, o1_v, if_pos (nI_le (by omega) (by omega))]
  | succ j ih =>
    intro r f hi hf
    obtain ⟨f, rfl⟩ : ∃ q, f = q + 1 := ⟨f - 1, by omega⟩
    rw [fX7_rains_L32, rows_v hm, o1_v, if_neg (nle (by omega) (by omega)), opens_v hn hm (by omega) h0 hci, o2_v, show nI r + (1 : Int32) = nI (r + 1) from nI_1 r, ← ih (r + 1) f (by omega) (by omega), cnS]
    by_cases q : opR now0 k m r = true
    · rw [if_neg (fun z => (bz _).mp z q), if_pos q]
      exact congrArg (fun z => fX7_rains_L32 now0 (nI m) kx f now0 z (nI (r + 1))) (nI_1 _)
    · rw [if_pos ((bz _).mpr q), if_neg q, Int32.add_zero]
theorem op_rains {R B : Rf} {S : Sv} {now aside fd found : Nat → Int32} (hR : Rl R now) (hB : B.2.2.2.2.2.1 = 0 ∨ B.2.2.2.2.2.1 = 1) (hF : Fnd fd found) (a : Int32) : P6 now (fX6_rains R B S fd a) (fX7_rains now aside found a) := by
  obtain ⟨n, k, hn, h, hci, hsp⟩ := hR
  unfold fX6_rains fX7_rains
  rw [rr6_v h.ho, o1_v, rr7_v, o1_v]
  rcases rrS_or now a with ⟨e, m, hm, rfl⟩ | e | e
  · have h5 := p5 hm
    rw [e, if_pos rfl, if_pos rfl, copy7_v, o1_v]
    obtain ⟨S', R', g1, g2, -, -, -, g3⟩ := look_v hn hm h hci S B
    rw [g1, o2_v, g2]
    exact ⟨_, _, _, _, _, _, rfl, rains7_L hn hm h hci (fun now109 x110 => some (x110, now109, now, found)) (5 ^ m) 0 fu (by omega) (fu_gt (by omega)), g3, hF⟩
  · rw [e, if_neg (by decide), if_neg (by decide)]
    exact P6.fnd hB hF (by omega) cB
  · rw [e, if_neg (by decide), if_neg (by decide)]
    exact P6.fnd hB hF (by omega) cS'
theorem first7_L {n k m : Nat} (hn : n < 9) (hm : m < 6) {R0 : Rf} {now0 : Nat → Int32} (h0 : SM n 0 0 R0 now0) (hci : CI k now0) (kx : (Nat → Int32) → Int32 → Option (Int32 × (Nat → Int32) × (Nat → Int32))) : ∀ (j r f : Nat), r + j = 5 ^ m → j + 1 < f → cnS (opR now0 k m) r = 0 → ∃ x, fX7_firstRow_L15 now0 (nI m) kx f now0 (-1) (nI r) = kx now0 x ∧ ((x = -1 ∧ cnS (opR now0 k m) (5 ^ m) = 0) ∨ ∃ q, q < 5 ^ m ∧ x = nI q ∧ Fst (opR now0 k m) q) := by
  have h5 := p5 hm
  intro j
  induction j with
  | zero =>
    intro r f hi hf hc
    obtain ⟨f, rfl⟩ : ∃ q, f = q + 1 := ⟨f - 1, by omega⟩
    have er : r = 5 ^ m := by omega
    subst er
    exact ⟨-1, by rw [fX7_firstRow_L15, rows_v hm, o1_v, if_pos (nI_le (by omega) (by omega))], Or.inl ⟨rfl, hc⟩⟩
  | succ j ih =>
    intro r f hi hf hc
    obtain ⟨f, rfl⟩ : ∃ q, f = q + 2 := ⟨f - 2, by omega⟩
    rw [fX7_firstRow_L15, rows_v hm, o1_v, if_neg (nle (by omega) (by omega)), if_neg (show ¬ (0 : Int32) ≤ -1 by decide), opens_v hn hm (by omega) h0 hci, o2_v, show nI r + (1 : Int32) = nI (r + 1) from nI_1 r]
    by_cases q : opR now0 k m r = true
    · rw [if_neg (fun z => (bz _).mp z q), fX7_firstRow_L15, rows_v hm, o1_v, if_pos (show (0 : Int32) ≤ nI r from nI_le (a := 0) (by omega) (by omega)), ite_self]
      exact ⟨nI r, rfl, Or.inr ⟨r, by omega, rfl, q, (cnS_0 _ r).mp hc⟩⟩
    · rw [if_pos ((bz _).mpr q)]
      exact ih (r + 1) (f + 1) (by omega) (by omega) (by rw [cnS, if_neg q]; exact hc)
theorem first7_v {n k m : Nat} (hn : n < 9) (hm : m < 6) {R0 : Rf} {now0 : Nat → Int32} (h0 : SM n 0 0 R0 now0) (hci : CI k now0) (aside : Nat → Int32) : ∃ x, fX7_firstRow now0 aside (nI m) = some (x, now0, now0) ∧ ((x = -1 ∧ cnS (opR now0 k m) (5 ^ m) = 0) ∨ ∃ q, q < 5 ^ m ∧ x = nI q ∧ Fst (opR now0 k m) q) := by
  have h5 := p5 hm
  unfold fX7_firstRow
  rw [copy7_v, o1_v]
  exact first7_L hn hm h0 hci (fun now108 x109 => some (x109, now108, now0)) (5 ^ m) 0 fu (by omega) (fu_gt (by omega)) rfl
theorem cn_pos {op : Nat → Bool} {q r : Nat} (h : Fst op q) (hq : q < r) : cnS op r ≠ 0 := fun z => by
  have := (cnS_0 op r).mp z q hq
  rw [h.1] at this
  exact Bool.noConfusion this
theorem op_first {R B : Rf} {S : Sv} {now aside fd found : Nat → Int32} (hR : Rl R now) (hB : B.2.2.2.2.2.1 = 0 ∨ B.2.2.2.2.2.1 = 1) (hF : Fnd fd found) (a b : Int32) : P6 now (fX6_first R B S fd a b) (fX7_first now aside found a b) := by
  obtain ⟨n, k, hn, h, hci, hsp⟩ := hR
  unfold fX6_first fX7_first
  rw [win_v, ob, rr6_v h.ho, o1_v, rr7_v, o1_v, within_v, ob]
  have hBY : P6 now (fX6_first_J21 R B S fd a b (-1000001 : Int32)) (o2 (fX7_finding found (-1000001 : Int32)) (fun x102 found103 => some (x102, now, aside, found103))) := by
    unfold fX6_first_J21
    rw [if_neg (by decide)]
    exact P6.fnd hB hF (by omega) cB
  rcases rrS_or now a with ⟨e, m, hm, rfl⟩ | e | e
  · rw [e, if_neg (show ¬ (0 : Int32) = -1000001 by decide), if_pos rfl]
    by_cases hb : ¬ b < 0 ∧ ¬ (nI m - 1 : Int32) < b
    · have h5 := p5 hm
      rw [if_pos hb, if_pos hb]
      obtain ⟨i, hi, rfl⟩ := inC (n := m) (by omega) ⟨hb.1, (nlt_pred (by omega) hb.1).mp hb.2⟩
      unfold fX6_first_J21
      rw [if_pos rfl]
      obtain ⟨S', R', g1, g2, -, -, g4, g3⟩ := look_v hn hm h hci S B
      obtain ⟨x, y1, y2⟩ := first7_v hn hm h hci aside
      rw [g1, o2_v, g2, y1, o3_v]
      rcases y2 with ⟨rfl, y3⟩ | ⟨q, y3, rfl, y4⟩
      · rw [y3, if_pos (show nI 0 = (0 : Int32) from rfl), if_neg (show ¬ (0 : Int32) ≤ -1 by decide)]
        exact P6.fnd g3 hF (by omega) cN
      · have y5 := cn_pos y4 y3
        obtain ⟨p, p1, p2, p3⟩ := g4 y5
        have := p2.one y4
        subst this
        rw [if_neg (fun z => y5 ((cn0 (by omega)).mp z)), at_v _ (by omega) (by omega), o1_v, p3 i hi, if_pos (show (0 : Int32) ≤ nI p from nI_le (a := 0) (by omega) (by omega)), sgn_v hm p1 hi, o1_v]
        exact ⟨_, _, _, _, _, _, rfl, rfl, g3, hF⟩
    · rw [if_neg hb, if_neg hb]
      exact hBY
  · rw [e, if_pos rfl, ite_self]
    exact hBY
  · rw [e, if_neg (show ¬ (-1000005 : Int32) = -1000001 by decide), if_neg (show ¬ (-1000005 : Int32) = 0 by decide)]
    by_cases hb : ¬ b < 0 ∧ ¬ (a - 1 : Int32) < b
    · rw [if_pos hb, if_pos hb]
      unfold fX6_first_J21
      rw [if_neg (by decide)]
      exact P6.fnd hB hF (by omega) cS'
    · rw [if_neg hb, if_neg hb]
      exact hBY
/-! ===== driest, needed ===== -/
theorem wet_L {m r : Nat} (hm : m < 6) (hr : r < 5 ^ m) (kx : Int32 → Option Int32) : ∀ (j i f : Nat), i + j = m → j < f → fX7_wetHours_L4 (nI r) (nI m) kx f (nI (wtN (sgn m r) i)) (nI i) = kx (nI (wtN (sgn m r) m)) := by
  intro j
  induction j with
  | zero =>
    intro i f hi hf
    obtain ⟨f, rfl⟩ : ∃ q, f = q + 1 := ⟨f - 1, by omega⟩
    have e : i = m := by omega
    subst e
    rw [fX7_wetHours_L4, if_pos (nI_le (by omega) (by omega))]
  | succ j ih =>
    intro i f hi hf
    obtain ⟨f, rfl⟩ : ∃ q, f = q + 1 := ⟨f - 1, by omega⟩
    have h5 := sgn_lt m r i
    rw [fX7_wetHours_L4, if_neg (nle (by omega) (by omega)), sgn_v hm hr (by omega), o1_v, show nI i + (1 : Int32) = nI (i + 1) from nI_1 i, ← ih (i + 1) f (by omega) (by omega), wtN]
    by_cases q : sgn m r i = 0
    · rw [if_pos q, if_pos (show nI (sgn m r i) = 0 by rw [q]; rfl), Int32.add_zero]
    · rw [if_neg q, if_neg (nI_ne0 (by omega) (by omega))]
      exact congrArg (fun z => fX7_wetHours_L4 (nI r) (nI m) kx f z (nI (i + 1))) (nI_1 _)
theorem wet_v {m r : Nat} (hm : m < 6) (hr : r < 5 ^ m) : fX7_wetHours (nI r) (nI m) = some (nI (wtN (sgn m r) m)) := by
  unfold fX7_wetHours
  exact wet_L hm hr (fun x103 => some x103) m 0 fu (by omega) (fu_gt (by omega))
/-- the model's fewest -/
def drS (op : Nat → Bool) (m r : Nat) : Nat := if cnS op r = 0 then 6 else fwS op m r
theorem fwS_0 (op : Nat → Bool) (m : Nat) : ∀ r, cnS op r = 0 → fwS op m r = m := by
  intro r
  induction r with
  | zero => intro _; rfl
  | succ r ih =>
    intro h
    rw [cnS] at h
    rw [fwS]
    by_cases q : op r = true
    · rw [if_pos q] at h
      exact absurd h (by omega)
    · rw [if_neg q] at h ⊢
      exact ih h
theorem drS_up {op : Nat → Bool} {m r : Nat} (hm : m < 6) : drS op m (r + 1) = if op r = true ∧ wtN (sgn m r) m < drS op m r then wtN (sgn m r) m else drS op m r := by
  have h1 := wtN_le (sgn m r) m
  unfold drS
  rw [cnS, fwS]
  by_cases q : op r = true
  · rw [if_pos q, if_pos q, if_neg (by omega)]
    by_cases w : cnS op r = 0
    · rw [if_pos w, fwS_0 op m r w]
      by_cases z : wtN (sgn m r) m < m
      · rw [if_pos z, if_pos (show op r = true ∧ wtN (sgn m r) m < 6 from ⟨q, by omega⟩)]
      · rw [if_neg z, if_pos (show op r = true ∧ wtN (sgn m r) m < 6 from ⟨q, by omega⟩)]
        omega
    · rw [if_neg w]
      by_cases z : wtN (sgn m r) m < fwS op m r
      · rw [if_pos z, if_pos (show op r = true ∧ wtN (sgn m r) m < fwS op m r from ⟨q, z⟩)]
      · rw [if_neg z, if_neg (show ¬ (op r = true ∧ wtN (sgn m r) m < fwS op m r) from fun y => z y.2)]
  · rw [if_neg q, if_neg q, if_neg (show ¬ (op r = true ∧ wtN (sgn m r) m < (if cnS op r = 0 then 6 else fwS op m r)) from fun y => q y.1)]
theorem drS_le (op : Nat → Bool) {m : Nat} (hm : m < 6) (r : Nat) : drS op m r ≤ 6 := by
  have := fwS_le op m r
  unfold drS
  by_cases w : cnS op r = 0
  · rw [if_pos w]; exact Nat.le_refl 6
  · rw [if_neg w]; omega
theorem driest7_L {n k m : Nat} (hn : n < 9) (hm : m < 6) {R0 : Rf} {now0 : Nat → Int32} (h0 : SM n 0 0 R0 now0) (hci : CI k now0) (kx : (Nat → Int32) → Int32 → Option (Int32 × (Nat → Int32) × (Nat → Int32) × (Nat → Int32))) : ∀ (j r f : Nat), r + j = 5 ^ m → j < f → fX7_driest_L33 now0 (nI m) kx f now0 (nI (drS (opR now0 k m) m r)) (nI r) = kx now0 (nI (drS (opR now0 k m) m (5 ^ m))) := by
  have h5 := p5 hm
  intro j
  induction j with
  | zero =>
    intro r f hi hf
    obtain ⟨f, rfl⟩ : ∃ q, f = q + 1 := ⟨f - 1, by omega⟩
    have er : r = 5 ^ m := by omega
    subst er
    rw [fX7_driest_L33, rows_v hm, o1_v, if_pos (nI_le (by omega) (by omega))]
  | succ j ih =>
    intro r f hi hf
    obtain ⟨f, rfl⟩ : ∃ q, f = q + 1 := ⟨f - 1, by omega⟩
    have h1 := wtN_le (sgn m r) m
    have h2 := drS_le (opR now0 k m) hm r
    rw [fX7_driest_L33, rows_v hm, o1_v, if_neg (nle (by omega) (by omega)), wet_v hm (by omega), o1_v, opens_v hn hm (by omega) h0 hci, o2_v, show nI r + (1 : Int32) = nI (r + 1) from nI_1 r, ← ih (r + 1) f (by omega) (by omega), drS_up hm]
    by_cases w : wtN (sgn m r) m < drS (opR now0 k m) m r
    · rw [if_neg (nle w (by omega))]
      by_cases q : opR now0 k m r = true
      · rw [if_neg (fun z => (bz _).mp z q), o1_v, if_pos ⟨q, w⟩]
      · rw [if_pos ((bz _).mpr q), if_neg (fun y => q y.1)]
    · rw [if_pos (nI_le (Nat.not_lt.mp w) (by omega)), if_neg (fun y => w y.2)]
theorem op_driest {R B : Rf} {S : Sv} {now aside fd found : Nat → Int32} (hR : Rl R now) (hB : B.2.2.2.2.2.1 = 0 ∨ B.2.2.2.2.2.1 = 1) (hF : Fnd fd found) (a : Int32) : P6 now (fX6_driest R B S fd a) (fX7_driest now aside found a) := by
  obtain ⟨n, k, hn, h, hci, hsp⟩ := hR
  unfold fX6_driest fX7_driest
  rw [rr6_v h.ho, o1_v, rr7_v, o1_v]
  rcases rrS_or now a with ⟨e, m, hm, rfl⟩ | e | e
  · have h5 := p5 hm
    rw [e, if_pos rfl, if_pos rfl, copy7_v, o1_v]
    obtain ⟨S', R', g1, g2, g4, -, -, g3⟩ := look_v hn hm h hci S B
    have h1 := fwS_le (opR now k m) m (5 ^ m)
    rw [g1, o2_v, g2, show fX7_driest_L33 now (nI m) _ fu now (6 : Int32) (0 : Int32) = _ from driest7_L hn hm h hci _ (5 ^ m) 0 fu (by omega) (fu_gt (by omega))]
    unfold drS
    by_cases w : cnS (opR now k m) (5 ^ m) = 0
    · rw [if_pos ((cn0 (by omega)).mpr w), if_pos w, if_neg (show ¬ nI 6 ≤ (5 : Int32) by decide)]
      exact P6.fnd g3 hF (by omega) cN
    · rw [if_neg (fun z => w ((cn0 (by omega)).mp z)), if_neg w, if_pos (show nI (fwS (opR now k m) m (5 ^ m)) ≤ (5 : Int32) from nI_le (b := 5) (by omega) (by omega)), g4]
      exact ⟨_, _, _, _, _, _, rfl, rfl, g3, hF⟩
  · rw [e, if_neg (by decide), if_neg (by decide)]
    exact P6.fnd hB hF (by omega) cB
  · rw [e, if_neg (by decide), if_neg (by decide)]
    exact P6.fnd hB hF (by omega) cS'
theorem hs_L {m r : Nat} (hm : m < 6) (hr : r < 5 ^ m) (kx : Int32 → Option (Int32 × (Nat → Int32) × (Nat → Int32) × (Nat → Int32))) : ∀ (j i f : Nat), i + j = m → j < f → fX7_needed_L64 (nI m) (nI r) kx f (nI (hsN (sgn m r) i)) (nI i) = kx (nI (hsN (sgn m r) m)) := by
  intro j
  induction j with
  | zero =>
    intro i f hi hf
    obtain ⟨f, rfl⟩ : ∃ q, f = q + 1 := ⟨f - 1, by omega⟩
    have e : i = m := by omega
    subst e
    rw [fX7_needed_L64, if_pos (nI_le (by omega) (by omega))]
  | succ j ih =>
    intro i f hi hf
    obtain ⟨f, rfl⟩ : ∃ q, f = q + 1 := ⟨f - 1, by omega⟩
    have h5 := sgn_lt m r i
    rw [fX7_needed_L64, if_neg (nle (by omega) (by omega)), sgn_v hm hr (by omega), o1_v, show nI i + (1 : Int32) = nI (i + 1) from nI_1 i, sh1 _ (by omega), nI_or, ← ih (i + 1) f (by omega) (by omega), hsN]
theorem needed7_L {n k m : Nat} (hn : n < 9) (hm : m < 6) {R0 : Rf} {now0 : Nat → Int32} (h0 : SM n 0 0 R0 now0) (hci : CI k now0) (kx : (Nat → Int32) → Int32 → Int32 → Option (Int32 × (Nat → Int32) × (Nat → Int32) × (Nat → Int32))) : ∀ (j r f : Nat) (x : Int32), r + j = 5 ^ m → j < f → (x = if cnS (opR now0 k m) r = 0 then 0 else 1) → fX7_needed_L36 now0 (nI m) kx f now0 (nI (csS (opR now0 k m) m r)) x (nI r) = kx now0 (nI (csS (opR now0 k m) m (5 ^ m))) (if cnS (opR now0 k m) (5 ^ m) = 0 then 0 else 1) := by
  have h5 := p5 hm
  intro j
  induction j with
  | zero =>
    intro r f x hi hf hx
    obtain ⟨f, rfl⟩ : ∃ q, f = q + 1 := ⟨f - 1, by omega⟩
    have er : r = 5 ^ m := by omega
    subst er
    rw [fX7_needed_L36, rows_v hm, o1_v, if_pos (nI_le (by omega) (by omega)), hx]
  | succ j ih =>
    intro r f x hi hf hx
    obtain ⟨f, rfl⟩ : ∃ q, f = q + 1 := ⟨f - 1, by omega⟩
    rw [fX7_needed_L36, rows_v hm, o1_v, if_neg (nle (by omega) (by omega)), opens_v hn hm (by omega) h0 hci, o2_v, show nI r + (1 : Int32) = nI (r + 1) from nI_1 r]
    by_cases q : opR now0 k m r = true
    · obtain ⟨s1, s2⟩ := hsN_v (sgn_lt m r) m
      rw [if_neg (fun z => (bz _).mp z q), show fX7_needed_L64 (nI m) (nI r) _ fu (0 : Int32) (0 : Int32) = _ from hs_L hm (show r < 5 ^ m by omega) _ m 0 fu (by omega) (fu_gt (by omega)), pk_shrN (by omega) _ 1 (by decide), Nat.pow_one, s2, nI_and]
      have e2 : csS (opR now0 k m) m (r + 1) = csS (opR now0 k m) m r &&& sdN (sgn m r) m := by rw [csS, if_pos q]
      rw [← e2]
      exact ih (r + 1) f 1 (by omega) (by omega) (by rw [cnS, if_pos q, if_neg (by omega)])
    · rw [if_pos ((bz _).mpr q)]
      have e2 : csS (opR now0 k m) m (r + 1) = csS (opR now0 k m) m r := by rw [csS, if_neg q]
      rw [← e2]
      exact ih (r + 1) f x (by omega) (by omega) (by rw [cnS, if_neg q]; exact hx)
theorem op_needed {R B : Rf} {S : Sv} {now aside fd found : Nat → Int32} (hR : Rl R now) (hB : B.2.2.2.2.2.1 = 0 ∨ B.2.2.2.2.2.1 = 1) (hF : Fnd fd found) (a : Int32) : P6 now (fX6_needed R B S fd a) (fX7_needed now aside found a) := by
  obtain ⟨n, k, hn, h, hci, hsp⟩ := hR
  unfold fX6_needed fX7_needed
  rw [rr6_v h.ho, o1_v, rr7_v, o1_v]
  rcases rrS_or now a with ⟨e, m, hm, rfl⟩ | e | e
  · have h5 := p5 hm
    rw [e, if_pos rfl, if_pos rfl, copy7_v, o1_v]
    obtain ⟨S', R', g1, g2, -, g4, -, g3⟩ := look_v hn hm h hci S B
    rw [g1, o2_v, g2, show fX7_needed_L36 now (nI m) _ fu now (15 : Int32) (0 : Int32) (0 : Int32) = _ from needed7_L hn hm h hci _ (5 ^ m) 0 fu 0 (by omega) (fu_gt (by omega)) rfl]
    by_cases w : cnS (opR now k m) (5 ^ m) = 0
    · rw [if_pos ((cn0 (by omega)).mpr w), if_pos w, if_pos rfl]
      exact P6.fnd g3 hF (by omega) cN
    · rw [if_neg (fun z => w ((cn0 (by omega)).mp z)), if_neg w, if_neg (show ¬ (1 : Int32) = 0 by decide), g4]
      exact ⟨_, _, _, _, _, _, rfl, rfl, g3, hF⟩
  · rw [e, if_neg (by decide), if_neg (by decide)]
    exact P6.fnd hB hF (by omega) cB
  · rw [e, if_neg (by decide), if_neg (by decide)]
    exact P6.fnd hB hF (by omega) cS'
/-! ===== soonest ===== -/
theorem soonest_L {n k : Nat} (hn : n < 9) {R : Rf} {now fd found : Nat → Int32} (hF : Fnd fd found) (h : SM n 0 0 R now) (hci : CI k now) : ∀ (j i f f' : Nat) (B : Rf) (S : Sv) (aside : Nat → Int32), i + j = 6 → j < f → j < f' → (B.2.2.2.2.2.1 = 0 ∨ B.2.2.2.2.2.1 = 1) → P6 now (fX6_soonest_L17 R fd (fun B106 S107 => o2 (fX6_finding fd (-1000004 : Int32)) (fun x108 fd109 => some (x108, B106, S107, fd109))) f B S (nI i)) (fX7_soonest_L17 (fun now108 aside109 x110 => if x110 ≤ (5 : Int32) then (some (x110, now108, aside109, found)) else (o2 (fX7_finding found (-1000004 : Int32)) (fun x111 found112 => some (x111, now108, aside109, found112)))) f' now aside (nI i)) := by
  intro j
  induction j with
  | zero =>
    intro i f f' B S aside hi hf hf' hB
    obtain ⟨f, rfl⟩ : ∃ q, f = q + 1 := ⟨f - 1, by omega⟩
    obtain ⟨f', rfl⟩ : ∃ q, f' = q + 1 := ⟨f' - 1, by omega⟩
    have hlt : (5 : Int32) < nI i := nI_lt (a := 5) (by omega) (by omega)
    have hle : ¬ nI i ≤ (5 : Int32) := nle (a := 5) (by omega) (by omega)
    rw [fX6_soonest_L17, if_pos hlt, fX7_soonest_L17, if_pos hlt, if_neg hle]
    exact P6.fnd hB hF (by omega) cN
  | succ j ih =>
    intro i f f' B S aside hi hf hf' hB
    obtain ⟨f, rfl⟩ : ∃ q, f = q + 1 := ⟨f - 1, by omega⟩
    obtain ⟨f', rfl⟩ : ∃ q, f' = q + 1 := ⟨f' - 1, by omega⟩
    have hlt : ¬ (5 : Int32) < nI i := nI_nlt (a := 5) (by omega) (by omega)
    have hle : nI i ≤ (5 : Int32) := nI_le (b := 5) (by omega) (by omega)
    have hm : i < 6 := by omega
    have h5 := p5 hm
    obtain ⟨S', R', g1, g2, -, -, g4, g3⟩ := look_v hn hm h hci S B
    obtain ⟨x, y1, y2⟩ := first7_v hn hm h hci aside
    have h6 := cnS_le (opR now k i) (5 ^ i)
    rw [fX6_soonest_L17, if_neg hlt, fX7_soonest_L17, if_neg hlt, g1, o2_v, g2, y1, o3_v]
    rcases y2 with ⟨rfl, y3⟩ | ⟨q, y3, rfl, y4⟩
    · rw [y3, if_pos (show nI 0 ≤ (0 : Int32) by decide), if_neg (show ¬ (0 : Int32) ≤ -1 by decide), show nI i + (1 : Int32) = nI (i + 1) from nI_1 i]
      exact ih (i + 1) f f' R' S' now (by omega) (by omega) (by omega) g3
    · have y5 := cn_pos y4 y3
      rw [if_neg (show ¬ nI (cnS (opR now k i) (5 ^ i)) ≤ (0 : Int32) from nle (a := 0) (by omega) (by omega)), if_pos (show (0 : Int32) ≤ nI q from nI_le (a := 0) (by omega) (by omega)), if_pos hle]
      exact ⟨_, _, _, _, _, _, rfl, rfl, g3, hF⟩
theorem op_soonest {R B : Rf} {S : Sv} {now aside fd found : Nat → Int32} (hR : Rl R now) (hB : B.2.2.2.2.2.1 = 0 ∨ B.2.2.2.2.2.1 = 1) (hF : Fnd fd found) : P6 now (fX6_soonest R B S fd) (fX7_soonest now aside found) := by
  obtain ⟨n, k, hn, h, hci, hsp⟩ := hR
  unfold fX6_soonest fX7_soonest
  rw [late6_v, ob, late7_v, ob, h.ho, Int32.add_zero]
  by_cases h3 : ¬ (now 0 + (5 : Int32)) ≤ (9999 : Int32)
  · rw [if_pos h3, if_pos h3]
    exact P6.fnd hB hF (by omega) cS'
  · rw [if_neg h3, if_neg h3]
    exact soonest_L hn hF h hci 6 0 fu fu B S aside (by omega) (fu_gt (by omega)) (fu_gt (by omega)) hB
/-! ===== rust ===== -/
/-- whether the levels are the numbers of a sheet, as far as there are both -/
def lvB (now : Nat → Int32) (N : Nat → Int32) : Nat → Bool
  | 0 => true
  | c + 1 => lvB now N c && decide (now (16 + 10 * c + 2) = N c)
theorem lvB_all (now N : Nat → Int32) : ∀ c, lvB now N c = true ↔ ∀ i, i < c → now (16 + 10 * i + 2) = N i := by
  intro c
  induction c with
  | zero => exact ⟨fun _ i h => absurd h (Nat.not_lt_zero i), fun _ => rfl⟩
  | succ c ih =>
    rw [lvB, Bool.and_eq_true, ih]
    refine ⟨fun z i hi => ?_, fun z => ⟨fun i hi => z i (by omega), decide_eq_true (z c (by omega))⟩⟩
    rcases Nat.lt_succ_iff_lt_or_eq.mp hi with w | w
    · exact z.1 i w
    · rw [w]; exact of_decide_eq_true z.2
theorem has_L {n m b : Nat} {d e : Int32} {R : Rf} {now : Nat → Int32} (h : SM n d e R now) (hb : b ≤ n) (hn : n < 9) (hbm : b ≤ m) (hm : m < 41) (E : Sh) : ∀ (j i f : Nat), i + j = b → j < f → fX6_hasLevelsOf_L14 R E (nI b) (some 1) f (nI i) = some (if decide (∀ c, c < b → i ≤ c → now (16 + 10 * c + 2) = E.1 c) then 1 else 0) := by
  intro j
  induction j with
  | zero =>
    intro i f hi hf
    obtain ⟨f, rfl⟩ : ∃ q, f = q + 1 := ⟨f - 1, by omega⟩
    rw [fX6_hasLevelsOf_L14, if_pos (nI_le (by omega) (by omega)), if_pos (decide_eq_true (fun c h1 h2 => absurd h2 (by omega)))]
  | succ j ih =>
    intro i f hi hf
    obtain ⟨f, rfl⟩ : ∃ q, f = q + 1 := ⟨f - 1, by omega⟩
    rw [fX6_hasLevelsOf_L14, if_neg (nle (by omega) (by omega)), get_2 R (by omega), o1_v, at_v _ (by omega) (by omega), o1_v, h.fl (by omega) (f := 2) (by omega), show nI i + (1 : Int32) = nI (i + 1) from nI_1 i, ih (i + 1) f (by omega) (by omega)]
    by_cases q : now (16 + 10 * i + 2) = E.1 i
    · rw [if_pos q]
      congr 2
      refine propext ⟨fun z => decide_eq_true (fun c h1 h2 => ?_), fun z => decide_eq_true (fun c h1 h2 => of_decide_eq_true z c h1 (by omega))⟩
      rcases Nat.lt_or_eq_of_le h2 with w | w
      · exact of_decide_eq_true z c h1 w
      · rw [← w]; exact q
    · rw [if_neg q, if_neg (fun z => q ((show ∀ c, c < b → i ≤ c → now (16 + 10 * c + 2) = E.1 c from of_decide_eq_true z) i (by omega) (Nat.le_refl i)))]
theorem min_v {a b : Nat} (ha : a < 1000) (hb : b < 1000) : (if nI a < nI b then nI a else nI b) = nI (min a b) := by
  by_cases q : a < b
  · rw [if_pos (nI_lt q (by omega)), Nat.min_eq_left (by omega)]
  · rw [if_neg (nI_nlt (by omega) (by omega)), Nat.min_eq_right (by omega)]
theorem has_v {n m : Nat} {d e : Int32} {R : Rf} {now : Nat → Int32} (h : SM n d e R now) (hn : n < 9) (hm : m < 41) {E : Sh} (hE : E.2.2 = nI m) : fX6_hasLevelsOf R E = some (if lvB now E.1 (min m n) then 1 else 0) := by
  unfold fX6_hasLevelsOf
  rw [hE, h.n2, min_v (by omega) (by omega), show fX6_hasLevelsOf_L14 R E (nI (min m n)) (some 1) fu (0 : Int32) = _ from has_L h (Nat.min_le_right m n) hn (Nat.min_le_left m n) hm E (min m n) 0 fu (by omega) (fu_gt (by have := Nat.min_le_left m n; omega))]
  congr 2
  refine propext ⟨fun z => (lvB_all _ _ _).mpr (fun i hi => of_decide_eq_true z i hi (Nat.zero_le i)), fun z => decide_eq_true (fun c hc _ => (lvB_all _ _ _).mp z c hc)⟩
theorem rust7_L {n m s : Nat} (hn : n < 9) (hm : m < 41) (hs : s < 4) {now : Nat → Int32} (h : now 2 = nI n) {S : Ms} (hS : S.2.1 s = nI m) (N : Nat → Int32) (hN : ∀ i, i < 40 → N i = S.2.2.1 (40 * s + i)) (kx : Int32 → Option (Int32 × (Nat → Int32) × (Nat → Int32) × (Nat → Int32))) : ∀ (j i f : Nat), i + j = min m n → j < f → fX7_rust_L86 now S (nI s) kx f (if lvB now N i then 1 else 0) (nI i) = kx (if lvB now N (min m n) then 1 else 0) := by
  intro j
  induction j with
  | zero =>
    intro i f hi hf
    obtain ⟨f, rfl⟩ : ∃ q, f = q + 1 := ⟨f - 1, by omega⟩
    have e : i = min m n := by omega
    rw [fX7_rust_L86, show rd now 120 (2 : Int32) _ = _ from rd_v now (i := 2) _ (by omega) (by omega), h, ← e]
    by_cases q : n ≤ i
    · rw [if_pos (nI_le q (by omega))]
    · rw [if_neg (nle (by omega) (by omega)), rd_v _ _ hs (by omega), hS, if_pos (nI_le (by omega) (by omega))]
  | succ j ih =>
    intro i f hi hf
    obtain ⟨f, rfl⟩ : ∃ q, f = q + 1 := ⟨f - 1, by omega⟩
    have hin : i < n := by omega
    have him : i < m := by omega
    rw [fX7_rust_L86, show rd now 120 (2 : Int32) _ = _ from rd_v now (i := 2) _ (by omega) (by omega), h, if_neg (nle hin (by omega)), rd_v _ _ hs (by omega), hS, if_neg (nle him (by omega)), show nI i + (1 : Int32) = nI (i + 1) from nI_1 i, i40, rd_v _ _ (by omega) (by omega), cis_2 now (by omega), o1_v, ← ih (i + 1) f (by omega) (by omega), lvB]
    by_cases q : lvB now N i = true
    · rw [if_neg (fun z => (bz _).mp z q), q, Bool.true_and, ← hN i (by omega)]
      by_cases w : now (16 + 10 * i + 2) = N i
      · rw [if_pos w.symm, decide_eq_true w, if_pos rfl]
      · rw [if_neg (fun z => w z.symm), decide_eq_false w, if_neg (show ¬ false = true by decide)]
    · rw [if_pos ((bz _).mpr q), Bool.eq_false_iff.mpr q, Bool.false_and, if_neg (show ¬ false = true by decide)]
/-- whether row r of p hours leaves the sheet's levels -/
def ruB (now : Nat → Int32) (N : Nat → Int32) (b p r : Nat) : Bool := lvB (trS now (sgn p r) p) N b
theorem rust6_L {n k m s p : Nat} (hn : n < 9) (hp : p < 6) (hm : m < 41) {R0 : Rf} {now0 : Nat → Int32} (h0 : SM n 0 0 R0 now0) (hci : CI k now0) {X : F4} (hX : (X s).2.2 = nI m) (kx : Rf → Sv → Int32 → Option (Int32 × Rf × Sv × (Nat → Int32))) : ∀ (j r f : Nat) (S : Sv) (R : Rf) (d e : Int32) (nowX : Nat → Int32) (dg : Nat → Nat), r + j = 5 ^ p → j < f → SM n d e R nowX → Kp n now0 nowX → S.2.2.2.1 = nI p → (∀ t, t ≤ p → (r = 0 → t = 0) → ∀ c, c < n → S.2.1 (8 * t + c) = trS now0 dg t (16 + 10 * c + 2)) → (r ≠ 0 → ∀ i, i < p → S.1 i = nI (dg i)) → (∀ i, dg i < 5) → ∃ S' R', fX6_rust_L77 s X (nI (5 ^ p)) kx f R S (nI (cnS (ruB now0 (X s).1 (min m n) p) r)) (nI r) = kx R' S' (nI (cnS (ruB now0 (X s).1 (min m n) p) (5 ^ p))) ∧ (R'.2.2.2.2.2.1 = 0 ∨ R'.2.2.2.2.2.1 = 1) := by
  have h5 := p5 hp
  intro j
  induction j with
  | zero =>
    intro r f S R d e nowX dg hi hf hR kX hh hlev hsg hd
    obtain ⟨f, rfl⟩ : ∃ q, f = q + 1 := ⟨f - 1, by omega⟩
    have er : r = 5 ^ p := by omega
    subst er
    exact ⟨S, R, by rw [fX6_rust_L77, if_pos (nI_le (by omega) (by omega))], hR.c01⟩
  | succ j ih =>
    intro r f S R d e nowX dg hi hf hR kX hh hlev hsg hd
    obtain ⟨f, rfl⟩ : ∃ q, f = q + 1 := ⟨f - 1, by omega⟩
    obtain ⟨f1, f2, R', d', e', e1, z1, z2, h1⟩ := pass_v hn hp (show r < 5 ^ p by omega) h0 hci hR kX hh hlev hsg hd
    obtain ⟨Rq, -, g2, g3⟩ := trS_v hn h0 hci (sgn_lt p r) p
    rw [fX6_rust_L77, if_neg (nle (by omega) (by omega)), e1, o2_v, has_v h1 hn hm hX, o1_v, show nI r + (1 : Int32) = nI (r + 1) from nI_1 r]
    obtain ⟨S', R'', w1, w2⟩ := ih (r + 1) f (f1, f2, S.2.2) R' d' e' _ (sgn p r) (by omega) (by omega) h1 g3 hh (fun t h1 _ c hc => z2 t h1 c hc) (fun _ i hi => z1 i hi) (sgn_lt p r)
    refine ⟨S', R'', ?_, w2⟩
    rw [← w1]
    by_cases q : lvB (trS now0 (sgn p r) p) (X s).1 (min m n) = true
    · have q' : ruB now0 (X s).1 (min m n) p r = true := q
      rw [if_neg (fun z => (bz _).mp z q), cnS, if_pos q']
      exact congrArg (fun z => fX6_rust_L77 s X (nI (5 ^ p)) kx f R' (f1, f2, S.2.2) z (nI (r + 1))) (nI_1 _)
    · have q' : ¬ ruB now0 (X s).1 (min m n) p r = true := q
      rw [if_pos ((bz _).mpr q), cnS, if_neg q']
theorem rust7_M {n k m s p : Nat} (hn : n < 9) (hp : p < 6) (hm : m < 41) (hs : s < 4) {R0 : Rf} {now0 : Nat → Int32} (h0 : SM n 0 0 R0 now0) (hci : CI k now0) {S : Ms} (hS : S.2.1 s = nI m) (N : Nat → Int32) (hN : ∀ i, i < 40 → N i = S.2.2.1 (40 * s + i)) (kx : (Nat → Int32) → Int32 → Option (Int32 × (Nat → Int32) × (Nat → Int32) × (Nat → Int32))) : ∀ (j r f : Nat), r + j = 5 ^ p → j < f → fX7_rust_L64 now0 S (nI s) (nI p) kx f now0 (nI (cnS (ruB now0 N (min m n) p) r)) (nI r) = kx now0 (nI (cnS (ruB now0 N (min m n) p) (5 ^ p))) := by
  have h5 := p5 hp
  intro j
  induction j with
  | zero =>
    intro r f hi hf
    obtain ⟨f, rfl⟩ : ∃ q, f = q + 1 := ⟨f - 1, by omega⟩
    have er : r = 5 ^ p := by omega
    subst er
    rw [fX7_rust_L64, rows_v hp, o1_v, if_pos (nI_le (by omega) (by omega))]
  | succ j ih =>
    intro r f hi hf
    obtain ⟨f, rfl⟩ : ∃ q, f = q + 1 := ⟨f - 1, by omega⟩
    obtain ⟨Rq, g1, g2, g3⟩ := trS_v hn h0 hci (sgn_lt p r) p
    rw [fX7_rust_L64, rows_v hp, o1_v, if_neg (nle (by omega) (by omega)), goes_v hn hp (by omega) h0 hci, o1_v, show fX7_rust_L86 (trS now0 (sgn p r) p) S (nI s) _ fu (1 : Int32) (0 : Int32) = _ from rust7_L hn hm hs g1.n1 hS N hN _ (min m n) 0 fu (by omega) (fu_gt (by have := Nat.min_le_left m n; omega)), show nI r + (1 : Int32) = nI (r + 1) from nI_1 r, ← ih (r + 1) f (by omega) (by omega)]
    by_cases q : lvB (trS now0 (sgn p r) p) N (min m n) = true
    · have q' : ruB now0 N (min m n) p r = true := q
      rw [if_pos q, if_neg (show ¬ (1 : Int32) = 0 by decide), back_v, o2_v, cnS, if_pos q']
      exact congrArg (fun z => fX7_rust_L64 now0 S (nI s) (nI p) kx f now0 z (nI (r + 1))) (nI_1 _)
    · have q' : ¬ ruB now0 N (min m n) p r = true := q
      rw [if_neg q, if_pos rfl, back_v, o2_v, cnS, if_neg q', Int32.add_zero]
theorem op_rust {R B : Rf} {V : Sv} {X : F4} {S : Ms} {now aside fd found : Nat → Int32} (hR : Rl R now) (hB : B.2.2.2.2.2.1 = 0 ∨ B.2.2.2.2.2.1 = 1) (hX : Shr X S) (hF : Fnd fd found) (a b : Int32) : P6 now (fX6_rust R B V X fd a b) (fX7_rust now aside found S a b) := by
  obtain ⟨n, k, hn, h, hci, hsp⟩ := hR
  unfold fX6_rust fX7_rust
  rw [isSheet_v, ob]
  by_cases ha : ¬ a < 0 ∧ ¬ (3 : Int32) < a
  · rw [if_pos ha]
    obtain ⟨s, hs, rfl⟩ := inW (m := 3) (by omega) ha
    obtain ⟨q1, ⟨m, hm, q2, q3⟩, q4⟩ := hX s hs
    rw [sh_in hs, miss_v, ob, rd_v _ _ hs (by omega), q1]
    by_cases h0 : S.1 s = 0
    · rw [if_pos h0, if_pos h0]
      exact P6.fnd hB hF (by omega) cM
    · rw [if_neg h0, if_neg h0, rr6_v h.ho, o1_v, rr7_v, o1_v]
      rcases rrS_or now b with ⟨e, p, hp, rfl⟩ | e | e
      · have h5 := p5 hp
        rw [e, if_pos rfl, if_pos rfl, copy7_v, o1_v]
        obtain ⟨f2, e1, z⟩ := begin3_v (m := p) hn h V B (fun _ => 0)
        rw [e1, o2_v, many_v hp (S := (V.1, f2, V.2.2.1, nI p, V.2.2.2.2)) rfl, o1_v]
        obtain ⟨S', R', w1, w2⟩ := rust6_L hn hp hm h hci q2 (fun B115 S116 x117 => some (x117, B115, S116, fd)) (5 ^ p) 0 fu (V.1, f2, V.2.2.1, nI p, V.2.2.2.2) R 0 0 now (fun _ => 0) (by omega) (fu_gt (by omega)) h (Kp.rf _) rfl z (fun w => absurd rfl w) (fun _ => by omega)
        exact ⟨_, _, _, _, _, _, w1, rust7_M hn hp hm hs h hci q3 (X s).1 q4 (fun now127 x128 => some (x128, now127, now, found)) (5 ^ p) 0 fu (by omega) (fu_gt (by omega)), w2, hF⟩
      · rw [e, if_neg (by decide), if_neg (by decide)]
        exact P6.fnd hB hF (by omega) cB
      · rw [e, if_neg (by decide), if_neg (by decide)]
        exact P6.fnd hB hF (by omega) cS'
  · rw [if_neg ha, sh_out ha]
    exact P6.fnd hB hF (by omega) cB
