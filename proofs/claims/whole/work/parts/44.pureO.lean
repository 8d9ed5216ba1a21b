/-! ===== texts: tokens ===== -/
abbrev MT (D it : Nat → Int32) (tp bg en so va wr im ct lt : Int32) : Mt := (D, it, tp, bg, en, so, va, wr, im, ct, lt)
abbrev KT (s1 s2 s3 : Nat → Int32) (ln pl : Int32) : Tk := (s1, s2, s3, ln, pl)
abbrev isL (x : Int32) : Prop := ¬ x < (97 : Int32) ∧ ¬ (122 : Int32) < x
abbrev isD (x : Int32) : Prop := ¬ x < (48 : Int32) ∧ ¬ (57 : Int32) < x
/-- behind blanks; behind letters; behind digits, and their number -/
def skG (D : Nat → Int32) : Nat → Nat → Nat
  | 0, p => p
  | j + 1, p => if D p = 32 then skG D j (p + 1) else p
def wdG (D : Nat → Int32) : Nat → Nat → Nat
  | 0, p => p
  | j + 1, p => if isL (D p) then wdG D j (p + 1) else p
def stp (v x : Int32) : Int32 := if ((((10 : Int32) * v) + x) - (48 : Int32)) < (1000 : Int32) then ((((10 : Int32) * v) + x) - (48 : Int32)) else (1000 : Int32)
def dgG (D : Nat → Int32) : Nat → Nat → Int32 → Nat × Int32
  | 0, p, v => (p, v)
  | j + 1, p, v => if isD (D p) then dgG D j (p + 1) (stp v (D p)) else (p, v)
theorem skG_b (D : Nat → Int32) : ∀ j p, p ≤ skG D j p ∧ skG D j p ≤ p + j := by
  intro j
  induction j with
  | zero => intro p; exact ⟨Nat.le_refl p, Nat.le_refl p⟩
  | succ j ih =>
    intro p
    rw [skG]
    by_cases q : D p = 32
    · rw [if_pos q]
      have := ih (p + 1)
      omega
    · rw [if_neg q]; omega
theorem wdG_b (D : Nat → Int32) : ∀ j p, p ≤ wdG D j p ∧ wdG D j p ≤ p + j := by
  intro j
  induction j with
  | zero => intro p; exact ⟨Nat.le_refl p, Nat.le_refl p⟩
  | succ j ih =>
    intro p
    rw [wdG]
    by_cases q : isL (D p)
    · rw [if_pos q]
      have := ih (p + 1)
      omega
    · rw [if_neg q]; omega
theorem dgG_b (D : Nat → Int32) : ∀ j p v, p ≤ (dgG D j p v).1 ∧ (dgG D j p v).1 ≤ p + j := by
  intro j
  induction j with
  | zero => intro p v; exact ⟨Nat.le_refl p, Nat.le_refl p⟩
  | succ j ih =>
    intro p v
    rw [dgG]
    by_cases q : isD (D p)
    · rw [if_pos q]
      have := ih (p + 1) (stp v (D p))
      omega
    · rw [if_neg q]
      exact ⟨Nat.le_refl p, by omega⟩
/-- whether the bytes from s to e are word j; which word they are -/
def mtB (D : Nat → Int32) (s e j : Nat) : Bool := decide (e - s = sLen.getD j 0 ∧ ∀ i, i < sLen.getD j 0 → D (s + i) = (sByt.getD j []).getD i 0)
def wcG (D : Nat → Int32) (s e : Nat) : Nat → Nat → Nat
  | 0, _ => 18
  | f + 1, j => if mtB D s e j then j else wcG D s e f (j + 1)
/-- behind the token that begins at s; its number; its sort, by each side -/
def enF (D : Nat → Int32) (m s : Nat) : Nat := if s < m then (if isL (D s) then wdG D (m - s) s else if isD (D s) then (dgG D (m - s) s 0).1 else s + 1) else s
def vaF (D : Nat → Int32) (m s : Nat) : Int32 := if s < m then (if isL (D s) then 0 else if isD (D s) then (dgG D (m - s) s 0).2 else 0) else 0
def clF (D : Nat → Int32) (m s : Nat) : Nat := if s < m then (if isL (D s) then wcG D s (enF D m s) 15 0 else if isD (D s) then 15 else if D s = 59 then 16 else 18) else 17
def msF (D : Nat → Int32) (m s : Nat) : Nat := if s < m then (if isL (D s) then 1 else if isD (D s) then 2 else 3) else 0
theorem enF_b (D : Nat → Int32) {m s : Nat} (h : s ≤ m) : s ≤ enF D m s ∧ enF D m s ≤ m ∧ (s < m → s < enF D m s) := by
  unfold enF
  by_cases q : s < m
  · rw [if_pos q]
    by_cases w : isL (D s)
    · rw [if_pos w]
      have h1 := wdG_b D (m - s) s
      have e : m - s = (m - s - 1) + 1 := by omega
      have h2 := wdG_b D (m - s - 1) (s + 1)
      have h3 : wdG D (m - s) s = wdG D (m - s - 1) (s + 1) := by
        rw [e, wdG, if_pos w]
        rfl
      omega
    · rw [if_neg w]
      by_cases z : isD (D s)
      · rw [if_pos z]
        have h1 := dgG_b D (m - s) s 0
        have e : m - s = (m - s - 1) + 1 := by omega
        have h2 := dgG_b D (m - s - 1) (s + 1) (stp 0 (D s))
        have h3 : dgG D (m - s) s 0 = dgG D (m - s - 1) (s + 1) (stp 0 (D s)) := by
          rw [e, dgG, if_pos z]
          rfl
        rw [h3] at h1 ⊢
        omega
      · rw [if_neg z]; omega
  · rw [if_neg q]; omega
/-- where token t is looked for, where it begins -/
def bfN (D : Nat → Int32) (m : Nat) : Nat → Nat
  | 0 => 0
  | t + 1 => enF D m (skG D (m - bfN D m t) (bfN D m t))
def stN (D : Nat → Int32) (m t : Nat) : Nat := skG D (m - bfN D m t) (bfN D m t)
theorem bfN_le (D : Nat → Int32) (m : Nat) : ∀ t, bfN D m t ≤ m ∧ stN D m t ≤ m ∧ bfN D m t ≤ stN D m t := by
  intro t
  induction t with
  | zero =>
    have h := skG_b D (m - 0) 0
    refine ⟨Nat.zero_le m, ?_, Nat.zero_le _⟩
    show skG D (m - 0) 0 ≤ m
    omega
  | succ t ih =>
    have h := (enF_b D ih.2.1).2.1
    have e : bfN D m (t + 1) = enF D m (stN D m t) := rfl
    have h2 := skG_b D (m - bfN D m (t + 1)) (bfN D m (t + 1))
    rw [e] at h2
    refine ⟨by rw [e]; exact h, ?_, ?_⟩
    · show skG D (m - bfN D m (t + 1)) (bfN D m (t + 1)) ≤ m
      rw [e]
      omega
    · show bfN D m (t + 1) ≤ skG D (m - bfN D m (t + 1)) (bfN D m (t + 1))
      rw [e]
      omega
/-- as long as no end is reached, token t begins at t or behind it -/
theorem stN_ge (D : Nat → Int32) (m : Nat) : ∀ t, stN D m t < m → t ≤ stN D m t ∧ bfN D m t ≤ stN D m t := by
  intro t
  induction t with
  | zero => intro _; exact ⟨Nat.zero_le _, Nat.zero_le _⟩
  | succ t ih =>
    intro h
    have a := bfN_le D m t
    have b := bfN_le D m (t + 1)
    have e : bfN D m (t + 1) = enF D m (stN D m t) := rfl
    have c := enF_b D a.2.1
    rcases Nat.lt_or_ge (stN D m t) m with q | q
    · have := (ih q).1
      have := c.2.2 q
      omega
    · omega
/-! the words -/
theorem len_v {j : Nat} (h : j < 15) : fJ0_length_8abf5 j = some (nI (sLen.getD j 0)) := by
  unfold fJ0_length_8abf5
  rw [if_pos h]
  rfl
theorem sLen_le : ∀ j, j < 15 → sLen.getD j 0 < 8 := by decide +kernel
theorem char_v {j i : Nat} (h : j < 15) (hi : i < sLen.getD j 0) : fJ0_charAt_5068e j (nI i) = some ((sByt.getD j []).getD i 0) := by
  have h8 := sLen_le j h
  unfold fJ0_charAt_5068e
  rw [if_pos h, nI_clamp (by omega), if_pos (fun z => z.elim (nI_pos (by omega)) (fun z => by omega))]
theorem words_1 : ∀ j, j < 15 → ∀ i, i < 15 → (sLen.getD j 0 = sLen.getD i 0 ∧ ∀ t, t < sLen.getD j 0 → (sByt.getD j []).getD t 0 = (sByt.getD i []).getD t 0) → j = i := by decide +kernel
theorem mtB_1 {D : Nat → Int32} {s e i j : Nat} (hi : i < 15) (hj : j < 15) (h1 : mtB D s e i = true) (h2 : mtB D s e j = true) : i = j := by
  obtain ⟨a1, a2⟩ := of_decide_eq_true h1
  obtain ⟨b1, b2⟩ := of_decide_eq_true h2
  exact words_1 i hi j hj ⟨by omega, fun t ht => by rw [← a2 t ht, b2 t (by omega)]⟩
theorem wcG_v (D : Nat → Int32) (s e : Nat) : ∀ f j, j + f = 15 → (wcG D s e f j = 18 ∧ ∀ i, j ≤ i → i < 15 → mtB D s e i = false) ∨ (j ≤ wcG D s e f j ∧ wcG D s e f j < 15 ∧ mtB D s e (wcG D s e f j) = true) := by
  intro f
  induction f with
  | zero => intro j hj; exact Or.inl ⟨rfl, fun i h1 h2 => absurd h1 (by omega)⟩
  | succ f ih =>
    intro j hj
    rw [wcG]
    by_cases q : mtB D s e j = true
    · rw [if_pos q]
      exact Or.inr ⟨Nat.le_refl j, by omega, q⟩
    · rw [if_neg q]
      rcases ih (j + 1) (by omega) with ⟨z1, z2⟩ | ⟨z1, z2, z3⟩
      · refine Or.inl ⟨z1, fun i h1 h2 => ?_⟩
        by_cases w : i = j
        · rw [w]; exact Bool.eq_false_iff.mpr q
        · exact z2 i (by omega) h2
      · exact Or.inr ⟨by omega, z2, z3⟩
/-- a word is word j just where its sort is j -/
theorem wc_iff (D : Nat → Int32) (s e : Nat) {j : Nat} (hj : j < 15) : mtB D s e j = true ↔ wcG D s e 15 0 = j := by
  rcases wcG_v D s e 15 0 (by omega) with ⟨z1, z2⟩ | ⟨z1, z2, z3⟩
  · rw [z1, z2 j (Nat.zero_le j) hj]
    exact ⟨fun h => Bool.noConfusion h, fun h => absurd h (by omega)⟩
  · exact ⟨fun h => mtB_1 z2 hj z3 h, fun h => by rw [← h]; exact z3⟩
theorem wc_or (D : Nat → Int32) (s e : Nat) : wcG D s e 15 0 < 15 ∨ wcG D s e 15 0 = 18 := by
  rcases wcG_v D s e 15 0 (by omega) with ⟨z1, z2⟩ | ⟨z1, z2, z3⟩
  · exact Or.inr z1
  · exact Or.inl z2
theorem from_L {D P : Nat → Int32} {m s e j : Nat} (hj : j < 15) (hm : m ≤ 120) (he : e ≤ m) (hP : ∀ i, i < m → P i = D i) (hl : e - s = sLen.getD j 0) (hs : s ≤ e) : ∀ (q i f : Nat), i + q = sLen.getD j 0 → q < f → fX5_isFromTo_L17 j P (nI s) (some (1 : Int32)) f (nI i) = some (if decide (∀ t, t < sLen.getD j 0 → i ≤ t → D (s + t) = (sByt.getD j []).getD t 0) then 1 else 0) := by
  have h8 := sLen_le j hj
  intro q
  induction q with
  | zero =>
    intro i f hi hf
    obtain ⟨f, rfl⟩ : ∃ z, f = z + 1 := ⟨f - 1, by omega⟩
    rw [fX5_isFromTo_L17, len_v hj, o1_v, if_pos (nI_le (by omega) (by omega)), if_pos (decide_eq_true (fun t h1 h2 => absurd h2 (by omega)))]
  | succ q ih =>
    intro i f hi hf
    obtain ⟨f, rfl⟩ : ∃ z, f = z + 1 := ⟨f - 1, by omega⟩
    rw [fX5_isFromTo_L17, len_v hj, o1_v, if_neg (nle (by omega) (by omega)), nI_add, at_v _ (by omega) (by omega), o1_v, hP _ (by omega), char_v hj (by omega), o1_v, show nI i + (1 : Int32) = nI (i + 1) from nI_1 i, ih (i + 1) f (by omega) (by omega)]
    by_cases w : D (s + i) = (sByt.getD j []).getD i 0
    · rw [if_pos w]
      congr 2
      refine propext ⟨fun z => decide_eq_true (fun t h1 h2 => ?_), fun z => decide_eq_true (fun t h1 h2 => of_decide_eq_true z t h1 (by omega))⟩
      rcases Nat.lt_or_eq_of_le h2 with y | y
      · exact of_decide_eq_true z t h1 y
      · rw [← y]; exact w
    · rw [if_neg w, if_neg (fun z => w ((show ∀ t, t < sLen.getD j 0 → i ≤ t → D (s + t) = (sByt.getD j []).getD t 0 from of_decide_eq_true z) i (by omega) (Nat.le_refl i)))]
theorem from_v {D P : Nat → Int32} {m s e j : Nat} (hj : j < 15) (hm : m ≤ 120) (he : e ≤ m) (hP : ∀ i, i < m → P i = D i) (hs : s ≤ e) {K : Tk} (hK : K.2.2.2.2 = nI e) : fX5_isFromTo K P (nI s) j = some (if mtB D s e j then 1 else 0) := by
  have h8 := sLen_le j hj
  unfold fX5_isFromTo
  rw [len_v hj, o1_v, hK, pk_sub hs]
  by_cases q : e - s = sLen.getD j 0
  · rw [if_pos (show nI (e - s) = nI (sLen.getD j 0) by rw [q]), show fX5_isFromTo_L17 j P (nI s) (some (1 : Int32)) fu (0 : Int32) = _ from from_L hj hm he hP q hs (sLen.getD j 0) 0 fu (by omega) (fu_gt (by omega))]
    congr 2
    refine propext ⟨fun z => decide_eq_true ⟨q, fun i hi => of_decide_eq_true z i hi (Nat.zero_le i)⟩, fun z => decide_eq_true (fun t h1 _ => (of_decide_eq_true z).2 t h1)⟩
  · rw [if_neg (fun z => q ((nI_eq (by omega) (by omega)).mp z)), if_neg (fun z => q (of_decide_eq_true z).1)]
theorem letters_v : ∀ j, j < 15 → fX5_letters (nI j) = some j := by decide +kernel
theorem sort_L {D P : Nat → Int32} {m s e : Nat} (hm : m ≤ 120) (he : e ≤ m) (hP : ∀ i, i < m → P i = D i) (hs : s ≤ e) {K : Tk} (hK : K.2.2.2.2 = nI e) : ∀ (q j f : Nat), j + q = 15 → q < f → fX5_sortOfWord_L2 K P (nI s) (some (18 : Int32)) f (nI j) = some (nI (wcG D s e q j)) := by
  intro q
  induction q with
  | zero =>
    intro j f hi hf
    obtain ⟨f, rfl⟩ : ∃ z, f = z + 1 := ⟨f - 1, by omega⟩
    rw [fX5_sortOfWord_L2, if_pos (show (15 : Int32) ≤ nI j from nI_le (a := 15) (by omega) (by omega))]
    rfl
  | succ q ih =>
    intro j f hi hf
    obtain ⟨f, rfl⟩ : ∃ z, f = z + 1 := ⟨f - 1, by omega⟩
    rw [fX5_sortOfWord_L2, if_neg (show ¬ (15 : Int32) ≤ nI j from nle (b := 15) (by omega) (by omega)), letters_v j (by omega), o1_v, from_v (j := j) (by omega) hm he hP hs hK, o1_v, show nI j + (1 : Int32) = nI (j + 1) from nI_1 j, wcG]
    by_cases w : mtB D s e j = true
    · rw [if_neg (fun z => (bz _).mp z w), if_pos w]
    · rw [if_pos ((bz _).mpr w), if_neg w]
      exact ih (j + 1) f (by omega) (by omega)
theorem sort_v {D P : Nat → Int32} {m s e : Nat} (hm : m ≤ 120) (he : e ≤ m) (hP : ∀ i, i < m → P i = D i) (hs : s ≤ e) {K : Tk} (hK : K.2.2.2.2 = nI e) : fX5_sortOfWord K P (nI s) = some (nI (wcG D s e 15 0)) := by
  unfold fX5_sortOfWord
  exact sort_L hm he hP hs hK 15 0 fu (by omega) (fu_gt (by omega))
theorem lett_v (x : Int32) : fX5_isLetter x = some (if isL x then 1 else 0) := by
  unfold fX5_isLetter
  by_cases h : x < (97 : Int32)
  · rw [if_pos h, if_neg (fun z => z.1 h)]
  · rw [if_neg h]
    by_cases h2 : (122 : Int32) < x
    · rw [if_pos h2, if_neg (fun z => z.2 h2)]
    · rw [if_neg h2, if_pos ⟨h, h2⟩]
theorem digi_v (x : Int32) : fX5_isDigit x = some (if isD x then 1 else 0) := by
  unfold fX5_isDigit
  by_cases h : x < (48 : Int32)
  · rw [if_pos h, if_neg (fun z => z.1 h)]
  · rw [if_neg h]
    by_cases h2 : (57 : Int32) < x
    · rw [if_pos h2, if_neg (fun z => z.2 h2)]
    · rw [if_neg h2, if_pos ⟨h, h2⟩]
/-! cut into tokens -/
theorem sk6_L {D P : Nat → Int32} {m : Nat} (hm : m ≤ 120) (hP : ∀ i, i < m → P i = D i) (s1 s2 s3 : Nat → Int32) (kx : Tk → Option Tk) : ∀ (j p f : Nat), p + j = m → j < f → fX5_cut_L29 P kx f (KT s1 s2 s3 (nI m) (nI p)) = kx (KT s1 s2 s3 (nI m) (nI (skG D j p))) := by
  have st : ∀ f p, fX5_cut_L29 P kx (f + 1) (KT s1 s2 s3 (nI m) (nI p)) = if nI m ≤ nI p then kx (KT s1 s2 s3 (nI m) (nI p)) else o1 (fX6_at 120 P (nI p)) (fun x => if x = (32 : Int32) then fX5_cut_L29 P kx f (KT s1 s2 s3 (nI m) (nI p + 1)) else kx (KT s1 s2 s3 (nI m) (nI p))) := fun _ _ => rfl
  intro j
  induction j with
  | zero =>
    intro p f hi hf
    obtain ⟨f, rfl⟩ : ∃ z, f = z + 1 := ⟨f - 1, by omega⟩
    rw [st, if_pos (nI_le (by omega) (by omega))]
    rfl
  | succ j ih =>
    intro p f hi hf
    obtain ⟨f, rfl⟩ : ∃ z, f = z + 1 := ⟨f - 1, by omega⟩
    rw [st, if_neg (nle (by omega) (by omega)), at_v _ (by omega) (by omega), o1_v, hP p (by omega), show nI p + (1 : Int32) = nI (p + 1) from nI_1 p, skG]
    by_cases q : D p = 32
    · rw [if_pos q, if_pos q]
      exact ih (p + 1) f (by omega) (by omega)
    · rw [if_neg q, if_neg q]
theorem wd6_L {D P : Nat → Int32} {m : Nat} (hm : m ≤ 120) (hP : ∀ i, i < m → P i = D i) (s1 s2 s3 : Nat → Int32) (kx : Tk → Option (Int32 × Tk)) : ∀ (j p f : Nat), p + j = m → j < f → fX5_cutToken_L33 P kx f (KT s1 s2 s3 (nI m) (nI p)) = kx (KT s1 s2 s3 (nI m) (nI (wdG D j p))) := by
  have st : ∀ f p, fX5_cutToken_L33 P kx (f + 1) (KT s1 s2 s3 (nI m) (nI p)) = if nI m ≤ nI p then kx (KT s1 s2 s3 (nI m) (nI p)) else o1 (fX6_at 120 P (nI p)) (fun x => o1 (fX5_isLetter x) (fun y => if y = 0 then kx (KT s1 s2 s3 (nI m) (nI p)) else fX5_cutToken_L33 P kx f (KT s1 s2 s3 (nI m) (nI p + 1)))) := fun _ _ => rfl
  intro j
  induction j with
  | zero =>
    intro p f hi hf
    obtain ⟨f, rfl⟩ : ∃ z, f = z + 1 := ⟨f - 1, by omega⟩
    rw [st, if_pos (nI_le (by omega) (by omega))]
    rfl
  | succ j ih =>
    intro p f hi hf
    obtain ⟨f, rfl⟩ : ∃ z, f = z + 1 := ⟨f - 1, by omega⟩
    rw [st, if_neg (nle (by omega) (by omega)), at_v _ (by omega) (by omega), o1_v, hP p (by omega), lett_v, ob, show nI p + (1 : Int32) = nI (p + 1) from nI_1 p, wdG]
    by_cases q : isL (D p)
    · rw [if_pos q, if_pos q]
      exact ih (p + 1) f (by omega) (by omega)
    · rw [if_neg q, if_neg q]
theorem dg6_L {D P : Nat → Int32} {m : Nat} (hm : m ≤ 120) (hP : ∀ i, i < m → P i = D i) (s1 s2 s3 : Nat → Int32) (kx : Tk → Int32 → Option (Int32 × Tk)) : ∀ (j p f : Nat) (v : Int32), p + j = m → j < f → fX5_cutNumber_L2 P kx f (KT s1 s2 s3 (nI m) (nI p)) v = kx (KT s1 s2 s3 (nI m) (nI (dgG D j p v).1)) (dgG D j p v).2 := by
  have st : ∀ f p v, fX5_cutNumber_L2 P kx (f + 1) (KT s1 s2 s3 (nI m) (nI p)) v = if nI m ≤ nI p then kx (KT s1 s2 s3 (nI m) (nI p)) v else o1 (fX6_at 120 P (nI p)) (fun x => o1 (fX5_isDigit x) (fun y => if y = 0 then kx (KT s1 s2 s3 (nI m) (nI p)) v else o1 (fX6_at 120 P (nI p)) (fun z => fX5_cutNumber_L2 P kx f (KT s1 s2 s3 (nI m) (nI p + 1)) (stp v z)))) := fun _ _ _ => rfl
  intro j
  induction j with
  | zero =>
    intro p f v hi hf
    obtain ⟨f, rfl⟩ : ∃ z, f = z + 1 := ⟨f - 1, by omega⟩
    rw [st, if_pos (nI_le (by omega) (by omega))]
    rfl
  | succ j ih =>
    intro p f v hi hf
    obtain ⟨f, rfl⟩ : ∃ z, f = z + 1 := ⟨f - 1, by omega⟩
    rw [st, if_neg (nle (by omega) (by omega)), at_v _ (by omega) (by omega), o1_v, hP p (by omega), digi_v, ob, o1_v, show nI p + (1 : Int32) = nI (p + 1) from nI_1 p, dgG]
    by_cases q : isD (D p)
    · rw [if_pos q, if_pos q]
      exact ih (p + 1) f _ (by omega) (by omega)
    · rw [if_neg q, if_neg q]
theorem tok6_v {D P : Nat → Int32} {m s i : Nat} (hm : m ≤ 120) (hP : ∀ i, i < m → P i = D i) (hs : s ≤ m) (hi : i < 121) (s1 s2 s3 : Nat → Int32) : ∃ s3', fX5_cutToken (KT s1 s2 s3 (nI m) (nI s)) P (nI i) = some (nI (clF D m s), KT s1 s2 s3' (nI m) (nI (enF D m s))) ∧ (∀ t, t ≠ i → s3' t = s3 t) ∧ (clF D m s = 15 → s3' i = vaF D m s) := by
  have st : fX5_cutToken (KT s1 s2 s3 (nI m) (nI s)) P (nI i) = if nI s < nI m then (o1 (fX6_at 120 P (nI s)) (fun x101 => o1 (fX5_isLetter x101) (fun x102 => if x102 = 0 then (o1 (fX6_at 120 P (nI s)) (fun x103 => o1 (fX5_isDigit x103) (fun x104 => if x104 = 0 then (o1 (fX6_at 120 P (nI s)) (fun x105 => if x105 = (59 : Int32) then (some ((16 : Int32), (KT s1 s2 s3 (nI m) (nI s + 1)))) else (some ((18 : Int32), (KT s1 s2 s3 (nI m) (nI s + 1)))))) else (o2 (fX5_cutNumber (KT s1 s2 s3 (nI m) (nI s)) P) (fun x106 K107 => o1 (fX6_put 121 K107.2.2.1 (nI i) x106) (fun f108 => some ((15 : Int32), (K107.1, K107.2.1, f108, K107.2.2.2.1, K107.2.2.2.2)))))))) else (fX5_cutToken_L33 P (fun K113 => o1 (fX5_sortOfWord K113 P (nI s)) (fun x114 => some (x114, K113))) fu (KT s1 s2 s3 (nI m) (nI s)))))) else (some ((17 : Int32), KT s1 s2 s3 (nI m) (nI s))) := rfl
  rw [st]
  unfold clF enF vaF
  by_cases q : s < m
  · rw [if_pos (nI_lt q (by omega)), if_pos q, if_pos q, if_pos q, at_v _ (by omega) (by omega), o1_v, hP s q, lett_v, ob]
    by_cases w : isL (D s)
    · have hb := wdG_b D (m - s) s
      rw [if_pos w, if_pos w, if_pos w, wd6_L hm hP s1 s2 s3 _ (m - s) s fu (by omega) (fu_gt (by omega)), sort_v hm (show wdG D (m - s) s ≤ m by omega) hP hb.1 rfl, o1_v]
      refine ⟨s3, rfl, fun _ _ => rfl, fun z => ?_⟩
      rcases wc_or D s (wdG D (m - s) s) with y | y <;> omega
    · rw [if_neg w, if_neg w, if_neg w, if_neg w, o1_v, digi_v, ob]
      by_cases z : isD (D s)
      · rw [if_pos z, if_pos z, if_pos z, if_pos z]
        have e : fX5_cutNumber (KT s1 s2 s3 (nI m) (nI s)) P = some ((dgG D (m - s) s 0).2, KT s1 s2 s3 (nI m) (nI (dgG D (m - s) s 0).1)) := dg6_L hm hP s1 s2 s3 (fun K107 x108 => some (x108, K107)) (m - s) s fu 0 (by omega) (fu_gt (by omega))
        rw [e, o2_v]
        show ∃ s3', o1 (fX6_put 121 s3 (nI i) (dgG D (m - s) s 0).2) (fun f108 => some ((15 : Int32), KT s1 s2 f108 (nI m) (nI (dgG D (m - s) s 0).1))) = _ ∧ _
        rw [put_v _ _ hi (by omega), o1_v]
        exact ⟨_, rfl, fun t ht => up_n ht, fun _ => up_s⟩
      · rw [if_neg z, if_neg z, if_neg z, if_neg z, o1_v]
        by_cases y : D s = 59
        · rw [if_pos y, if_pos y, show nI s + (1 : Int32) = nI (s + 1) from nI_1 s]
          exact ⟨s3, rfl, fun _ _ => rfl, fun z => absurd z (by omega)⟩
        · rw [if_neg y, if_neg y, show nI s + (1 : Int32) = nI (s + 1) from nI_1 s]
          exact ⟨s3, rfl, fun _ _ => rfl, fun z => absurd z (by omega)⟩
  · rw [if_neg (nI_nlt (by omega) (by omega)), if_neg q, if_neg q, if_neg q]
    exact ⟨s3, rfl, fun _ _ => rfl, fun z => absurd z (by omega)⟩
/-- the tokens are cut -/
def Cut (D : Nat → Int32) (m c : Nat) (s1 s2 s3 : Nat → Int32) : Prop := ∀ t, t < c → s1 t = nI (clF D m (stN D m t)) ∧ s2 t = nI (stN D m t) ∧ (clF D m (stN D m t) = 15 → s3 t = vaF D m (stN D m t))
theorem cut_L {D P : Nat → Int32} {m : Nat} (hm : m ≤ 120) (hP : ∀ i, i < m → P i = D i) : ∀ (j i f : Nat) (s1 s2 s3 : Nat → Int32), i + j = 121 → j < f → Cut D m i s1 s2 s3 → ∃ s1' s2' s3' pl, fX5_cut_L20 P (fun K113 => some K113) f (KT s1 s2 s3 (nI m) (nI (bfN D m i))) (nI i) = some (KT s1' s2' s3' (nI m) pl) ∧ Cut D m 121 s1' s2' s3' := by
  have st : ∀ f i s1 s2 s3 (p : Nat), fX5_cut_L20 P (fun K113 => some K113) (f + 1) (KT s1 s2 s3 (nI m) (nI p)) (nI i) = if (121 : Int32) ≤ nI i then some (KT s1 s2 s3 (nI m) (nI p)) else fX5_cut_L29 P (fun K108 => wr K108.2.1 121 (nI i) K108.2.2.2.2 (fun f109 => o2 (fX5_cutToken (K108.1, f109, K108.2.2.1, K108.2.2.2.1, K108.2.2.2.2) P (nI i)) (fun x110 K111 => o1 (fX6_put 121 K111.1 (nI i) x110) (fun f112 => fX5_cut_L20 P (fun K113 => some K113) f (f112, K111.2.1, K111.2.2.1, K111.2.2.2.1, K111.2.2.2.2) (nI i + (1 : Int32)))))) fu (KT s1 s2 s3 (nI m) (nI p)) := fun _ _ _ _ _ _ => rfl
  intro j
  induction j with
  | zero =>
    intro i f s1 s2 s3 hi hf hC
    obtain ⟨f, rfl⟩ : ∃ z, f = z + 1 := ⟨f - 1, by omega⟩
    have e : i = 121 := by omega
    subst e
    rw [st, if_pos (by decide)]
    exact ⟨s1, s2, s3, _, rfl, hC⟩
  | succ j ih =>
    intro i f s1 s2 s3 hi hf hC
    obtain ⟨f, rfl⟩ : ∃ z, f = z + 1 := ⟨f - 1, by omega⟩
    have hb := bfN_le D m i
    rw [st, if_neg (show ¬ (121 : Int32) ≤ nI i from nle (b := 121) (by omega) (by omega)), sk6_L hm hP s1 s2 s3 _ (m - bfN D m i) (bfN D m i) fu (by omega) (fu_gt (by omega))]
    obtain ⟨s3', e1, e2, e3⟩ := tok6_v hm hP hb.2.1 (i := i) (by omega) s1 (upd s2 i (nI (stN D m i))) s3
    show ∃ s1' s2' s3' pl, wr s2 121 (nI i) (nI (stN D m i)) (fun f109 => o2 (fX5_cutToken (KT s1 f109 s3 (nI m) (nI (stN D m i))) P (nI i)) (fun x110 K111 => o1 (fX6_put 121 K111.1 (nI i) x110) (fun f112 => fX5_cut_L20 P (fun K113 => some K113) f (f112, K111.2.1, K111.2.2.1, K111.2.2.2.1, K111.2.2.2.2) (nI i + (1 : Int32))))) = some (KT s1' s2' s3' (nI m) pl) ∧ Cut D m 121 s1' s2' s3'
    rw [wr_v _ _ _ (by omega) (by omega), e1, o2_v]
    show ∃ s1' s2' s3'' pl, o1 (fX6_put 121 s1 (nI i) (nI (clF D m (stN D m i)))) (fun f112 => fX5_cut_L20 P (fun K113 => some K113) f (KT f112 (upd s2 i (nI (stN D m i))) s3' (nI m) (nI (bfN D m (i + 1)))) (nI i + (1 : Int32))) = some (KT s1' s2' s3'' (nI m) pl) ∧ Cut D m 121 s1' s2' s3''
    rw [put_v _ _ (by omega) (by omega), o1_v, show nI i + (1 : Int32) = nI (i + 1) from nI_1 i]
    refine ih (i + 1) f _ _ _ (by omega) (by omega) (fun t ht => ?_)
    by_cases q : t = i
    · subst q
      rw [up_s, up_s]
      exact ⟨rfl, rfl, e3⟩
    · rw [up_n q, up_n q, e2 t q]
      exact hC t (by omega)
theorem cut_ok {D P : Nat → Int32} {m : Nat} (hm : m ≤ 120) (hP : ∀ i, i < m → P i = D i) (K : Tk) : ∃ s1 s2 s3 pl, fX5_cut K P (nI m) = some (KT s1 s2 s3 (nI m) pl) ∧ Cut D m 121 s1 s2 s3 := by
  unfold fX5_cut
  rw [if_neg (show ¬ (120 : Int32) < nI m from nI_nlt (a := 120) (by omega) (by omega))]
  exact cut_L hm hP 121 0 fu K.1 K.2.1 K.2.2.1 (by omega) (fu_gt (by omega)) (fun t ht => absurd ht (Nat.not_lt_zero t))
