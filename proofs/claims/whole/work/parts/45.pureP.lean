/-! ===== texts: the model's tokens ===== -/
theorem byte7_v (D it : Nat → Int32) {m p : Nat} (hm : m ≤ 120) (hp : p < 1000) (bg en so va wr im ct lt : Int32) : fX7_byteAt (MT D it (nI m) bg en so va wr im ct lt) (nI p) = some (if p < m then D p else -1) := by
  have st : fX7_byteAt (MT D it (nI m) bg en so va wr im ct lt) (nI p) = if nI m ≤ nI p then some (-1 : Int32) else rd D 120 (nI p) (fun x => some x) := rfl
  rw [st]
  by_cases q : p < m
  · rw [if_neg (nle q (by omega)), rd_v _ _ (by omega) (by omega), if_pos q]
  · rw [if_pos (nI_le (by omega) (by omega)), if_neg q]
theorem sk7_L (D it : Nat → Int32) {m : Nat} (hm : m ≤ 120) (en so va wr im ct lt : Int32) (kx : Mt → Option Mt) : ∀ (j p f : Nat), p + j = m → j < f → fX7_next_L8 kx f (MT D it (nI m) (nI p) en so va wr im ct lt) = kx (MT D it (nI m) (nI (skG D j p)) en so va wr im ct lt) := by
  have st : ∀ f p, fX7_next_L8 kx (f + 1) (MT D it (nI m) (nI p) en so va wr im ct lt) = o1 (fX7_byteAt (MT D it (nI m) (nI p) en so va wr im ct lt) (nI p)) (fun x => if x = (32 : Int32) then fX7_next_L8 kx f (MT D it (nI m) (nI p + 1) en so va wr im ct lt) else kx (MT D it (nI m) (nI p) en so va wr im ct lt)) := fun _ _ => rfl
  intro j
  induction j with
  | zero =>
    intro p f hi hf
    obtain ⟨f, rfl⟩ : ∃ z, f = z + 1 := ⟨f - 1, by omega⟩
    rw [st, byte7_v D it hm (by omega), o1_v, if_neg (show ¬ p < m by omega), if_neg (by decide)]
    rfl
  | succ j ih =>
    intro p f hi hf
    obtain ⟨f, rfl⟩ : ∃ z, f = z + 1 := ⟨f - 1, by omega⟩
    rw [st, byte7_v D it hm (by omega), o1_v, if_pos (show p < m by omega), show nI p + (1 : Int32) = nI (p + 1) from nI_1 p, skG]
    by_cases q : D p = 32
    · rw [if_pos q, if_pos q]
      exact ih (p + 1) f (by omega) (by omega)
    · rw [if_neg q, if_neg q]
theorem wd7_L (D it : Nat → Int32) {m : Nat} (hm : m ≤ 120) (bg so va wr im ct lt : Int32) (kx : Mt → Option Mt) : ∀ (j p f : Nat), p + j = m → j < f → fX7_next_L84 kx f (MT D it (nI m) bg (nI p) so va wr im ct lt) = kx (MT D it (nI m) bg (nI (wdG D j p)) so va wr im ct lt) := by
  have st : ∀ f p, fX7_next_L84 kx (f + 1) (MT D it (nI m) bg (nI p) so va wr im ct lt) = o1 (fX7_byteAt (MT D it (nI m) bg (nI p) so va wr im ct lt) (nI p)) (fun x => o1 (fX7_within x (97 : Int32) (122 : Int32)) (fun y => if y = 0 then kx (MT D it (nI m) bg (nI p) so va wr im ct lt) else fX7_next_L84 kx f (MT D it (nI m) bg (nI p + 1) so va wr im ct lt))) := fun _ _ => rfl
  intro j
  induction j with
  | zero =>
    intro p f hi hf
    obtain ⟨f, rfl⟩ : ∃ z, f = z + 1 := ⟨f - 1, by omega⟩
    rw [st, byte7_v D it hm (by omega), o1_v, if_neg (show ¬ p < m by omega), within_v, ob, if_neg (by decide)]
    rfl
  | succ j ih =>
    intro p f hi hf
    obtain ⟨f, rfl⟩ : ∃ z, f = z + 1 := ⟨f - 1, by omega⟩
    rw [st, byte7_v D it hm (by omega), o1_v, if_pos (show p < m by omega), within_v, ob, show nI p + (1 : Int32) = nI (p + 1) from nI_1 p, wdG]
    by_cases q : isL (D p)
    · rw [if_pos q, if_pos q]
      exact ih (p + 1) f (by omega) (by omega)
    · rw [if_neg q, if_neg q]
theorem dg7_L (D it : Nat → Int32) {m : Nat} (hm : m ≤ 120) (bg so wr im ct lt : Int32) (kx : Mt → Option Mt) : ∀ (j p f : Nat) (v : Int32), p + j = m → j < f → fX7_next_L131 kx f (MT D it (nI m) bg (nI p) so v wr im ct lt) = kx (MT D it (nI m) bg (nI (dgG D j p v).1) so (dgG D j p v).2 wr im ct lt) := by
  have st : ∀ f p v, fX7_next_L131 kx (f + 1) (MT D it (nI m) bg (nI p) so v wr im ct lt) = o1 (fX7_byteAt (MT D it (nI m) bg (nI p) so v wr im ct lt) (nI p)) (fun x => o1 (fX7_within x (48 : Int32) (57 : Int32)) (fun y => if y = 0 then kx (MT D it (nI m) bg (nI p) so v wr im ct lt) else o1 (fX7_byteAt (MT D it (nI m) bg (nI p) so v wr im ct lt) (nI p)) (fun z => fX7_next_L131 kx f (MT D it (nI m) bg (nI p + 1) so (stp v z) wr im ct lt)))) := fun _ _ _ => rfl
  intro j
  induction j with
  | zero =>
    intro p f v hi hf
    obtain ⟨f, rfl⟩ : ∃ z, f = z + 1 := ⟨f - 1, by omega⟩
    rw [st, byte7_v D it hm (by omega), o1_v, if_neg (show ¬ p < m by omega), within_v, ob, if_neg (by decide)]
    rfl
  | succ j ih =>
    intro p f v hi hf
    obtain ⟨f, rfl⟩ : ∃ z, f = z + 1 := ⟨f - 1, by omega⟩
    rw [st, byte7_v D it hm (by omega), o1_v, if_pos (show p < m by omega), within_v, ob, o1_v, show nI p + (1 : Int32) = nI (p + 1) from nI_1 p, dgG]
    by_cases q : isD (D p)
    · rw [if_pos q, if_pos q]
      exact ih (p + 1) f _ (by omega) (by omega)
    · rw [if_neg q, if_neg q]
/-- the next token -/
theorem next7_v {D it : Nat → Int32} {m p : Nat} (hm : m ≤ 120) (hp : p ≤ m) (hD : ∀ i, i < m → ∃ b, b < 256 ∧ D i = nI b) (bg so va wr im ct lt : Int32) : fX7_next (MT D it (nI m) bg (nI p) so va wr im ct lt) = some (MT D it (nI m) (nI (skG D (m - p) p)) (nI (enF D m (skG D (m - p) p))) (nI (msF D m (skG D (m - p) p))) (vaF D m (skG D (m - p) p)) wr im ct lt) := by
  have hb := skG_b D (m - p) p
  have hs : skG D (m - p) p ≤ m := by omega
  refine (sk7_L D it hm (nI p) so va wr im ct lt _ (m - p) p fu (by omega) (fu_gt (by omega))).trans ?_
  generalize skG D (m - p) p = s at hs
  show o1 (fX7_byteAt (MT D it (nI m) (nI s) (nI p) so va wr im ct lt) (nI s)) (fun x104 => if 0 ≤ x104 then (o1 (fX7_within x104 (97 : Int32) (122 : Int32)) (fun x105 => if x105 = 0 then (o1 (fX7_within x104 (48 : Int32) (57 : Int32)) (fun x106 => if x106 = 0 then (some (MT D it (nI m) (nI s) (nI s + 1) 3 0 wr im ct lt)) else (fX7_next_L131 (fun T113 => some T113) fu (MT D it (nI m) (nI s) (nI s) 2 0 wr im ct lt)))) else (fX7_next_L84 (fun T118 => some T118) fu (MT D it (nI m) (nI s) (nI s) 1 0 wr im ct lt)))) else (some (MT D it (nI m) (nI s) (nI s) 0 0 wr im ct lt))) = _
  rw [byte7_v D it hm (by omega), o1_v]
  unfold enF msF vaF
  by_cases q : s < m
  · obtain ⟨b, hb, e⟩ := hD s q
    have h0 : (0 : Int32) ≤ D s := by rw [e]; exact nI_le (a := 0) (by omega) (by omega)
    rw [if_pos q, if_pos q, if_pos q, if_pos q, if_pos h0, within_v, ob, within_v, ob]
    by_cases w : isL (D s)
    · rw [if_pos w, if_pos w, if_pos w, if_pos w]
      exact wd7_L D it hm (nI s) 1 0 wr im ct lt (fun T118 => some T118) (m - s) s fu (by omega) (fu_gt (by omega))
    · rw [if_neg w, if_neg w, if_neg w, if_neg w]
      by_cases z : isD (D s)
      · rw [if_pos z, if_pos z, if_pos z, if_pos z]
        exact dg7_L D it hm (nI s) 2 wr im ct lt (fun T113 => some T113) (m - s) s fu 0 (by omega) (fu_gt (by omega))
      · rw [if_neg z, if_neg z, if_neg z, if_neg z, show nI s + (1 : Int32) = nI (s + 1) from nI_1 s]
        rfl
  · rw [if_neg q, if_neg q, if_neg q, if_neg q, if_neg (by decide)]
    rfl
/-- the model at token t -/
abbrev TT (D : Nat → Int32) (m t : Nat) (it : Nat → Int32) (wr im ct lt : Int32) : Mt := MT D it (nI m) (nI (stN D m t)) (nI (bfN D m (t + 1))) (nI (msF D m (stN D m t))) (vaF D m (stN D m t)) wr im ct lt
theorem must_t {D it : Nat → Int32} {m t : Nat} (hm : m ≤ 120) (hD : ∀ i, i < m → ∃ b, b < 256 ∧ D i = nI b) (im ct lt : Int32) : fX7_must (TT D m t it 0 im ct lt) 1 = some (TT D m (t + 1) it 0 im ct lt) := by
  have hb := bfN_le D m (t + 1)
  show o1 (fX7_next (MT D it (nI m) (nI (stN D m t)) (nI (bfN D m (t + 1))) (nI (msF D m (stN D m t))) (vaF D m (stN D m t)) 0 im ct lt)) (fun T => some T) = _
  rw [next7_v hm hb.1 hD, o1_v]
  rfl
theorem must_f (D it : Nat → Int32) (tp bg en so va im ct lt : Int32) : fX7_must (MT D it tp bg en so va 0 im ct lt) 0 = some (MT D it tp bg en so va 1 im ct lt) := rfl
theorem must_w (D it : Nat → Int32) (tp bg en so va im ct lt a : Int32) : fX7_must (MT D it tp bg en so va 1 im ct lt) a = some (MT D it tp bg en so va 1 im ct lt) := rfl
theorem cl_15 (D : Nat → Int32) (m s : Nat) : clF D m s = 15 ↔ msF D m s = 2 := by
  unfold clF msF
  by_cases q : s < m
  · rw [if_pos q, if_pos q]
    by_cases w : isL (D s)
    · rw [if_pos w, if_pos w]
      rcases wc_or D s (enF D m s) with y | y <;> omega
    · rw [if_neg w, if_neg w]
      by_cases z : isD (D s)
      · rw [if_pos z, if_pos z]; omega
      · rw [if_neg z, if_neg z]
        by_cases y : D s = 59
        · rw [if_pos y]; omega
        · rw [if_neg y]; omega
  · rw [if_neg q, if_neg q]; omega
theorem cl_le (D : Nat → Int32) (m s : Nat) : clF D m s < 19 ∧ (clF D m s = 17 ↔ ¬ s < m) := by
  unfold clF
  by_cases q : s < m
  · rw [if_pos q]
    by_cases w : isL (D s)
    · rw [if_pos w]
      rcases wc_or D s (enF D m s) with y | y <;> omega
    · rw [if_neg w]
      by_cases z : isD (D s)
      · rw [if_pos z]; omega
      · rw [if_neg z]
        by_cases y : D s = 59
        · rw [if_pos y]; omega
        · rw [if_neg y]; omega
  · rw [if_neg q]; omega
theorem ms_le (D : Nat → Int32) (m s : Nat) : msF D m s < 4 := by
  unfold msF
  by_cases q : s < m
  · rw [if_pos q]
    by_cases w : isL (D s)
    · rw [if_pos w]; omega
    · rw [if_neg w]
      by_cases z : isD (D s)
      · rw [if_pos z]; omega
      · rw [if_neg z]; omega
  · rw [if_neg q]; omega
/-- a token that is no end isn't the last of 121 -/
theorem t_lt {D : Nat → Int32} {m t : Nat} (hm : m ≤ 120) (h : clF D m (stN D m t) ≠ 17) : t < 120 := by
  have h1 : stN D m t < m := Decidable.byContradiction (fun z => h ((cl_le D m _).2.mpr z))
  have h2 := (stN_ge D m t h1).1
  omega
/-! a number, by both sides -/
theorem num_j {D : Nat → Int32} {m t : Nat} (hm : m ≤ 120) (hD : ∀ i, i < m → ∃ b, b < 256 ∧ D i = nI b) {s1 s2 s3 : Nat → Int32} {ln pl : Int32} (hC : Cut D m 121 s1 s2 s3) (ht : t ≤ 120) (x lo hi : Int32) (it : Nat → Int32) (im ct lt : Int32) : (∃ v, fX4_takeNumber (nI t, x) (KT s1 s2 s3 ln pl) lo hi = some (1, (nI (t + 1), v)) ∧ fX7_number (TT D m t it 0 im ct lt) lo hi = some (v, TT D m (t + 1) it 0 im ct lt) ∧ ¬ v < lo ∧ ¬ hi < v ∧ t < 120) ∨ (fX4_takeNumber (nI t, x) (KT s1 s2 s3 ln pl) lo hi = some (0, (nI t, x)) ∧ ∃ v, fX7_number (TT D m t it 0 im ct lt) lo hi = some (v, TT D m t it 1 im ct lt)) := by
  obtain ⟨c1, c2, c3⟩ := hC t (by omega)
  have h19 := (cl_le D m (stN D m t)).1
  have st6 : fX4_takeNumber (nI t, x) (KT s1 s2 s3 ln pl) lo hi = o1 (fX6_at 121 s3 (nI t)) (fun x101 => o1 (fX6_at 121 s1 (nI t)) (fun x102 => if x102 = (15 : Int32) then (o1 (fX6_isWithin x101 lo hi) (fun x103 => if x103 = 0 then (some ((0 : Int32), (nI t, x))) else (some ((1 : Int32), ((nI t + (1 : Int32)), x101))))) else (some ((0 : Int32), (nI t, x))))) := rfl
  have st7 : fX7_number (TT D m t it 0 im ct lt) lo hi = if nI (msF D m (stN D m t)) = (2 : Int32) then (o1 (fX7_within (vaF D m (stN D m t)) lo hi) (fun x102 => if x102 = 0 then (o1 (fX7_must (TT D m t it 0 im ct lt) (0 : Int32)) (fun T103 => some (vaF D m (stN D m t), T103))) else (o1 (fX7_must (TT D m t it 0 im ct lt) (1 : Int32)) (fun T104 => some (vaF D m (stN D m t), T104))))) else (o1 (fX7_must (TT D m t it 0 im ct lt) (0 : Int32)) (fun T101 => some (vaF D m (stN D m t), T101))) := rfl
  have h4 := ms_le D m (stN D m t)
  rw [st6, st7, at_v _ (by omega) (by omega), o1_v, at_v _ (by omega) (by omega), o1_v, c1, must_f, must_t hm hD, o1_v, o1_v]
  by_cases q : clF D m (stN D m t) = 15
  · rw [if_pos (show nI (clF D m (stN D m t)) = (15 : Int32) by rw [q]; rfl), if_pos (show nI (msF D m (stN D m t)) = (2 : Int32) by rw [(cl_15 D m _).mp q]; rfl), c3 q, win_v, ob, within_v, ob]
    by_cases w : ¬ vaF D m (stN D m t) < lo ∧ ¬ hi < vaF D m (stN D m t)
    · rw [if_pos w, if_pos w, show nI t + (1 : Int32) = nI (t + 1) from nI_1 t]
      exact Or.inl ⟨_, rfl, rfl, w.1, w.2, t_lt hm (show clF D m (stN D m t) ≠ 17 by omega)⟩
    · rw [if_neg w, if_neg w]
      exact Or.inr ⟨rfl, _, rfl⟩
  · rw [if_neg (show ¬ nI (clF D m (stN D m t)) = (15 : Int32) from fun z => q ((nI_eq (b := 15) (by omega) (by omega)).mp z)), if_neg (show ¬ nI (msF D m (stN D m t)) = (2 : Int32) from fun z => q ((cl_15 D m _).mpr ((nI_eq (b := 2) (by omega) (by omega)).mp z)))]
    exact Or.inr ⟨rfl, _, rfl⟩
theorem num_w {D : Nat → Int32} {m t : Nat} (it : Nat → Int32) (im ct lt lo hi : Int32) : fX7_number (TT D m t it 1 im ct lt) lo hi = some (vaF D m (stN D m t), TT D m t it 1 im ct lt) := by
  have st7 : fX7_number (TT D m t it 1 im ct lt) lo hi = if nI (msF D m (stN D m t)) = (2 : Int32) then (o1 (fX7_within (vaF D m (stN D m t)) lo hi) (fun x102 => if x102 = 0 then (o1 (fX7_must (TT D m t it 1 im ct lt) (0 : Int32)) (fun T103 => some (vaF D m (stN D m t), T103))) else (o1 (fX7_must (TT D m t it 1 im ct lt) (1 : Int32)) (fun T104 => some (vaF D m (stN D m t), T104))))) else (o1 (fX7_must (TT D m t it 1 im ct lt) (0 : Int32)) (fun T101 => some (vaF D m (stN D m t), T101))) := rfl
  rw [st7, must_w, must_w, o1_v, within_v, ob, ite_self, ite_self]
/-! a word -/
theorem word_L {D it : Nat → Int32} {m s e j : Nat} (hm : m ≤ 120) (he : e ≤ m) (hj : j < 15) (hl : e - s = sLen.getD j 0) (hs : s ≤ e) (tp en so va wr im ct lt : Int32) : ∀ (q i f : Nat) (b : Bool), i + q = sLen.getD j 0 → q < f → fX7_isWord_L32 j (MT D it tp (nI s) en so va wr im ct lt) (fun x110 => nb x110 (some x110)) f (if b then 1 else 0) (nI i) = some (if b && decide (∀ t, t < sLen.getD j 0 → i ≤ t → D (s + t) = (sByt.getD j []).getD t 0) then 1 else 0) := by
  have h8 := sLen_le j hj
  have st : ∀ f x i, fX7_isWord_L32 j (MT D it tp (nI s) en so va wr im ct lt) (fun x110 => nb x110 (some x110)) (f + 1) x (nI i) = o1 (fJ0_length_8abf5 j) (fun x104 => if x104 ≤ nI i then (nb x (some x)) else (if x = 0 then (nb x (some x)) else (rd D 120 (nI s + nI i) (fun x105 => o1 (fJ0_charAt_5068e j (nI i)) (fun x106 => if x105 = x106 then (fX7_isWord_L32 j (MT D it tp (nI s) en so va wr im ct lt) (fun x110 => nb x110 (some x110)) f (1 : Int32) (nI i + (1 : Int32))) else (fX7_isWord_L32 j (MT D it tp (nI s) en so va wr im ct lt) (fun x110 => nb x110 (some x110)) f (0 : Int32) (nI i + (1 : Int32)))))))) := fun _ _ _ => rfl
  intro q
  induction q with
  | zero =>
    intro i f b hi hf
    obtain ⟨f, rfl⟩ : ∃ z, f = z + 1 := ⟨f - 1, by omega⟩
    rw [st, len_v hj, o1_v, if_pos (nI_le (by omega) (by omega)), nb_b, decide_eq_true (show ∀ t, t < sLen.getD j 0 → i ≤ t → D (s + t) = (sByt.getD j []).getD t 0 from fun t h1 h2 => absurd h2 (by omega)), Bool.and_true]
  | succ q ih =>
    intro i f b hi hf
    obtain ⟨f, rfl⟩ : ∃ z, f = z + 1 := ⟨f - 1, by omega⟩
    rw [st, len_v hj, o1_v, if_neg (nle (by omega) (by omega)), nb_b]
    cases b with
    | false => rfl
    | true =>
      rw [if_pos rfl, if_neg (show ¬ (1 : Int32) = 0 by decide), nI_add, rd_v _ _ (by omega) (by omega), char_v hj (by omega), o1_v, show nI i + (1 : Int32) = nI (i + 1) from nI_1 i, Bool.true_and]
      by_cases w : D (s + i) = (sByt.getD j []).getD i 0
      · rw [if_pos w]
        refine (ih (i + 1) f true (by omega) (by omega)).trans ?_
        rw [Bool.true_and]
        congr 2
        refine propext ⟨fun z => decide_eq_true (fun t h1 h2 => ?_), fun z => decide_eq_true (fun t h1 h2 => of_decide_eq_true z t h1 (by omega))⟩
        rcases Nat.lt_or_eq_of_le h2 with y | y
        · exact of_decide_eq_true z t h1 y
        · rw [← y]; exact w
      · rw [if_neg w, if_neg (fun z => w ((show ∀ t, t < sLen.getD j 0 → i ≤ t → D (s + t) = (sByt.getD j []).getD t 0 from of_decide_eq_true z) i (by omega) (Nat.le_refl i)))]
        exact ih (i + 1) f false (by omega) (by omega)
theorem word_0 {j : Nat} (hj : j < 15) (T : Mt) {f : Nat} (hf : 0 < f) : fX7_isWord_L32 j T (fun x110 => nb x110 (some x110)) f 0 0 = some 0 := by
  obtain ⟨f, rfl⟩ : ∃ z, f = z + 1 := ⟨f - 1, by omega⟩
  rw [fX7_isWord_L32, len_v hj, o1_v, if_pos (show (0 : Int32) = 0 from rfl), ite_self, nb_0]
theorem word_v {D : Nat → Int32} {m t j : Nat} (hm : m ≤ 120) (hj : j < 15) (it : Nat → Int32) (wr im ct lt : Int32) : fX7_isWord (TT D m t it wr im ct lt) j = some (if clF D m (stN D m t) = j then 1 else 0) := by
  have h8 := sLen_le j hj
  have hb := bfN_le D m t
  have he := enF_b D hb.2.1
  have st : fX7_isWord (TT D m t it wr im ct lt) j = if nI (msF D m (stN D m t)) = (1 : Int32) then (o1 (fJ0_length_8abf5 j) (fun x108 => if (nI (bfN D m (t + 1)) - nI (stN D m t)) = x108 then (fX7_isWord_L32 j (TT D m t it wr im ct lt) (fun x110 => nb x110 (some x110)) fu (1 : Int32) (0 : Int32)) else (fX7_isWord_L32 j (TT D m t it wr im ct lt) (fun x109 => nb x109 (some x109)) fu (0 : Int32) (0 : Int32)))) else (fX7_isWord_L32 j (TT D m t it wr im ct lt) (fun x107 => nb x107 (some x107)) fu (0 : Int32) (0 : Int32)) := rfl
  rw [st, word_0 hj _ (fu_gt (by omega)), len_v hj, o1_v]
  have eb : bfN D m (t + 1) = enF D m (stN D m t) := rfl
  by_cases q : msF D m (stN D m t) = 1
  · have hcl : clF D m (stN D m t) = wcG D (stN D m t) (enF D m (stN D m t)) 15 0 := by
      unfold msF at q
      unfold clF
      by_cases y : stN D m t < m
      · rw [if_pos y] at q ⊢
        by_cases w : isL (D (stN D m t))
        · rw [if_pos w]
        · rw [if_neg w] at q
          by_cases z : isD (D (stN D m t))
          · rw [if_pos z] at q; omega
          · rw [if_neg z] at q; omega
      · rw [if_neg y] at q; omega
    rw [if_pos (show nI (msF D m (stN D m t)) = (1 : Int32) by rw [q]; rfl), eb, pk_sub he.1]
    by_cases w : enF D m (stN D m t) - stN D m t = sLen.getD j 0
    · rw [if_pos (show nI (enF D m (stN D m t) - stN D m t) = nI (sLen.getD j 0) by rw [w])]
      refine (word_L hm he.2.1 hj w he.1 (nI m) _ _ _ wr im ct lt (sLen.getD j 0) 0 fu true (by omega) (fu_gt (by omega))).trans ?_
      rw [Bool.true_and]
      congr 2
      rw [hcl, ← wc_iff D _ _ hj]
      refine propext ⟨fun z => decide_eq_true ⟨w, fun i hi => of_decide_eq_true z i hi (Nat.zero_le i)⟩, fun z => decide_eq_true (fun i hi _ => (of_decide_eq_true z).2 i hi)⟩
    · rw [if_neg (fun z => w ((nI_eq (by omega) (by omega)).mp z)), if_neg]
      rw [hcl, ← wc_iff D _ _ hj]
      exact fun z => w (of_decide_eq_true z).1
  · rw [if_neg (show ¬ nI (msF D m (stN D m t)) = (1 : Int32) from fun z => q ((nI_eq (b := 1) (by have := ms_le D m (stN D m t); omega) (by omega)).mp z)), if_neg]
    intro z
    refine q ?_
    unfold clF at z
    unfold msF
    by_cases y : stN D m t < m
    · rw [if_pos y] at z ⊢
      by_cases w : isL (D (stN D m t))
      · rw [if_pos w]
      · rw [if_neg w] at z
        by_cases v : isD (D (stN D m t))
        · rw [if_pos v] at z; omega
        · rw [if_neg v] at z
          by_cases u : D (stN D m t) = 59
          · rw [if_pos u] at z; omega
          · rw [if_neg u] at z; omega
    · rw [if_neg y] at z; omega
theorem rz_v {β : Type} {n i : Nat} (h : i < n) (hn : n < 2147483648) (k : Nat → Option β) : rz n (nI i) k = k i := by
  unfold rz
  rw [if_pos (nI_in h hn), nI_clamp (by omega)]
theorem kind_L {D : Nat → Int32} {m t : Nat} (hm : m ≤ 120) (it : Nat → Int32) (wr im ct lt : Int32) (kx : Int32 → Option Int32) : ∀ (q j f : Nat) (x : Int32), j + q = 7 → q < f → fX7_kindTold_L4 (TT D m t it wr im ct lt) kx f x (nI j) = kx (if j ≤ clF D m (stN D m t) ∧ clF D m (stN D m t) < 7 then nI (clF D m (stN D m t)) else x) := by
  intro q
  induction q with
  | zero =>
    intro j f x hi hf
    obtain ⟨f, rfl⟩ : ∃ z, f = z + 1 := ⟨f - 1, by omega⟩
    rw [fX7_kindTold_L4, if_pos (show (7 : Int32) ≤ nI j from nI_le (a := 7) (by omega) (by omega)), if_neg (by omega)]
  | succ q ih =>
    intro j f x hi hf
    obtain ⟨f, rfl⟩ : ∃ z, f = z + 1 := ⟨f - 1, by omega⟩
    rw [fX7_kindTold_L4, if_neg (show ¬ (7 : Int32) ≤ nI j from nle (b := 7) (by omega) (by omega)), rz_v (by omega) (by omega), word_v hm (by omega), ob, show nI j + (1 : Int32) = nI (j + 1) from nI_1 j]
    by_cases w : clF D m (stN D m t) = j
    · rw [if_pos w, ih (j + 1) f _ (by omega) (by omega), if_neg (show ¬ (j + 1 ≤ clF D m (stN D m t) ∧ clF D m (stN D m t) < 7) by omega), if_pos (show j ≤ clF D m (stN D m t) ∧ clF D m (stN D m t) < 7 by omega), w]
    · rw [if_neg w, ih (j + 1) f _ (by omega) (by omega)]
      by_cases z : j + 1 ≤ clF D m (stN D m t) ∧ clF D m (stN D m t) < 7
      · rw [if_pos z, if_pos (show j ≤ clF D m (stN D m t) ∧ clF D m (stN D m t) < 7 by omega)]
      · rw [if_neg z, if_neg (show ¬ (j ≤ clF D m (stN D m t) ∧ clF D m (stN D m t) < 7) by omega)]
theorem kind_v {D : Nat → Int32} {m t : Nat} (hm : m ≤ 120) (it : Nat → Int32) (wr im ct lt : Int32) : fX7_kindTold (TT D m t it wr im ct lt) = some (if clF D m (stN D m t) < 7 then nI (clF D m (stN D m t)) else -1) := by
  unfold fX7_kindTold
  rw [show fX7_kindTold_L4 (TT D m t it wr im ct lt) (fun x105 => some x105) fu (-1 : Int32) (0 : Int32) = _ from kind_L hm it wr im ct lt (fun x105 => some x105) 7 0 fu (-1) (by omega) (fu_gt (by omega))]
  by_cases z : clF D m (stN D m t) < 7
  · rw [if_pos z, if_pos (show 0 ≤ clF D m (stN D m t) ∧ clF D m (stN D m t) < 7 by omega)]
  · rw [if_neg z, if_neg (show ¬ (0 ≤ clF D m (stN D m t) ∧ clF D m (stN D m t) < 7) by omega)]
theorem now_v {D : Nat → Int32} {m t : Nat} {s1 s2 s3 : Nat → Int32} {ln pl : Int32} (hC : Cut D m 121 s1 s2 s3) (ht : t ≤ 120) (x : Int32) : fX4_sortNow (nI t, x) (KT s1 s2 s3 ln pl) = some (nI (clF D m (stN D m t))) := by
  show o1 (fX6_at 121 s1 (nI t)) (fun x101 => some x101) = _
  rw [at_v _ (by omega) (by omega), o1_v, (hC t (by omega)).1]
/-! a part that may be left out, by both sides -/
theorem part_j {D : Nat → Int32} {m t j : Nat} (hm : m ≤ 120) (hD : ∀ i, i < m → ∃ b, b < 256 ∧ D i = nI b) {s1 s2 s3 : Nat → Int32} {ln pl : Int32} (hC : Cut D m 121 s1 s2 s3) (ht : t ≤ 120) (hj : j < 15) (x lo hi wo : Int32) (it : Nat → Int32) (im ct lt : Int32) : (∃ t' v, fX4_takePart (nI t, x) (KT s1 s2 s3 ln pl) (nI j) lo hi wo = some (1, (nI t', v)) ∧ fX7_perhaps (TT D m t it 0 im ct lt) j lo hi wo = some (v, TT D m t' it 0 im ct lt) ∧ t ≤ t' ∧ t' ≤ 120) ∨ ∃ t' x' v, fX4_takePart (nI t, x) (KT s1 s2 s3 ln pl) (nI j) lo hi wo = some (0, (nI t', x')) ∧ fX7_perhaps (TT D m t it 0 im ct lt) j lo hi wo = some (v, TT D m t' it 1 im ct lt) ∧ t' ≤ 120 := by
  have h19 := (cl_le D m (stN D m t)).1
  have st6 : fX4_takePart (nI t, x) (KT s1 s2 s3 ln pl) (nI j) lo hi wo = o1 (fX4_sortNow (nI t, x) (KT s1 s2 s3 ln pl)) (fun x101 => if x101 = nI j then (o2 (fX4_takeNumber ((nI t + (1 : Int32)), x) (KT s1 s2 s3 ln pl) lo hi) (fun x102 Q103 => nb x102 (some (x102, Q103)))) else (some ((1 : Int32), (nI t, wo)))) := rfl
  have st7 : fX7_perhaps (TT D m t it 0 im ct lt) j lo hi wo = o1 (fX7_isWord (TT D m t it 0 im ct lt) j) (fun x101 => if x101 = 0 then (some (wo, TT D m t it 0 im ct lt)) else (o1 (fX7_must (TT D m t it 0 im ct lt) (1 : Int32)) (fun T102 => o2 (fX7_number T102 lo hi) (fun x103 T104 => some (x103, T104))))) := if_pos rfl
  rw [st6, st7, now_v hC ht, o1_v, word_v hm hj, ob]
  by_cases q : clF D m (stN D m t) = j
  · have ht2 := t_lt hm (show clF D m (stN D m t) ≠ 17 by omega)
    rw [if_pos (show nI (clF D m (stN D m t)) = nI j by rw [q]), if_pos q, must_t hm hD, o1_v, show nI t + (1 : Int32) = nI (t + 1) from nI_1 t]
    rcases num_j (ln := ln) (pl := pl) hm hD hC (show t + 1 ≤ 120 by omega) x lo hi it im ct lt with ⟨v, e1, e2, e3, e4, e5⟩ | ⟨e1, v, e2⟩
    · rw [e1, e2, o2_v, o2_v, nb_1]
      exact Or.inl ⟨t + 1 + 1, v, rfl, rfl, by omega, by omega⟩
    · rw [e1, e2, o2_v, o2_v, nb_0]
      exact Or.inr ⟨t + 1, x, v, rfl, rfl, by omega⟩
  · rw [if_neg (fun z => q ((nI_eq (by omega) (by omega)).mp z)), if_neg q]
    exact Or.inl ⟨t, wo, rfl, rfl, Nat.le_refl t, ht⟩
theorem perhaps_w {D : Nat → Int32} {m t : Nat} (it : Nat → Int32) (im ct lt : Int32) (j : Nat) (lo hi wo : Int32) : fX7_perhaps (TT D m t it 1 im ct lt) j lo hi wo = some (wo, TT D m t it 1 im ct lt) := rfl
/-- an item is written down -/
def it6 (it : Nat → Int32) (c : Nat) (a0 a1 a2 a3 a4 a5 : Int32) : Nat → Int32 := upd (upd (upd (upd (upd (upd it (6 * c) a0) (6 * c + 1) a1) (6 * c + 2) a2) (6 * c + 3) a3) (6 * c + 4) a4) (6 * c + 5) a5
def wr_1 (it : Nat → Int32) (c a1 a2 a3 a4 a5 a6 : Int32) (k : (Nat → Int32) → Option Mt) : Option Mt := wr it 720 ((6 : Int32) * c) a1 (fun f101 => wr f101 720 (((6 : Int32) * c) + (1 : Int32)) a2 (fun f102 => wr f102 720 (((6 : Int32) * c) + (2 : Int32)) a3 (fun f103 => wr f103 720 (((6 : Int32) * c) + (3 : Int32)) a4 (fun f104 => wr f104 720 (((6 : Int32) * c) + (4 : Int32)) a5 (fun f105 => wr f105 720 (((6 : Int32) * c) + (5 : Int32)) a6 (fun f106 => k f106))))))
theorem item_v {D : Nat → Int32} {m t c : Nat} (hc : c < 120) (it : Nat → Int32) (wr ct lt a0 a1 a2 a3 a4 a5 : Int32) : fX7_item (TT D m t it wr (nI c) ct lt) a0 a1 a2 a3 a4 a5 = some (TT D m t (it6 it c a0 a1 a2 a3 a4 a5) wr (nI (c + 1)) ct lt) := by
  have e6 : (6 : Int32) * nI c = nI (6 * c) := by
    show nI 6 * nI c = _
    rw [pk_mul]
  have st : fX7_item (TT D m t it wr (nI c) ct lt) a0 a1 a2 a3 a4 a5 = wr_1 it (nI c) a0 a1 a2 a3 a4 a5 (fun f106 => some (TT D m t f106 wr (nI c + 1) ct lt)) := rfl
  rw [st]
  unfold wr_1
  rw [e6, show nI (6 * c) + (1 : Int32) = nI (6 * c + 1) from nI_add _ 1, show nI (6 * c) + (2 : Int32) = nI (6 * c + 2) from nI_add _ 2, show nI (6 * c) + (3 : Int32) = nI (6 * c + 3) from nI_add _ 3, show nI (6 * c) + (4 : Int32) = nI (6 * c + 4) from nI_add _ 4, show nI (6 * c) + (5 : Int32) = nI (6 * c + 5) from nI_add _ 5, wr_v _ _ _ (by omega) (by omega), wr_v _ _ _ (by omega) (by omega), wr_v _ _ _ (by omega) (by omega), wr_v _ _ _ (by omega) (by omega), wr_v _ _ _ (by omega) (by omega), wr_v _ _ _ (by omega) (by omega), show nI c + (1 : Int32) = nI (c + 1) from nI_1 c]
  rfl
