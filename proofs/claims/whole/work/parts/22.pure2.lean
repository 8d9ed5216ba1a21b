/-! ===== the lock ===== -/
theorem nI_or (a b : Nat) : nI a ||| nI b = nI (a ||| b) := by
  apply Int32.toBitVec_inj.1
  show BitVec.ofNat 32 a ||| BitVec.ofNat 32 b = BitVec.ofNat 32 (a ||| b)
  apply BitVec.eq_of_getLsbD_eq
  intro i hi
  simp [hi]
theorem sh1 : ∀ i, i < 31 → (1 : Int32) <<< (nI i &&& 31) = nI (2 ^ i) := by decide +kernel
/-- the conditions: how many, and each of its eight places is as a condition may be -/
def CI (k : Nat) (now : Nat → Int32) : Prop := now 3 = nI k ∧ k < 9 ∧ ∀ l, l < 8 → (∃ sd, sd < 5 ∧ now (96 + 3 * l) = nI sd) ∧ (∃ a, a < 8 ∧ now (96 + 3 * l + 1) = nI a) ∧ ∃ b, b < 41 ∧ now (96 + 3 * l + 2) = nI b
theorem CI.kp {n k : Nat} {now now' : Nat → Int32} (h : CI k now) (hn : n < 9) (hk : Kp n now now') : CI k now' := by
  obtain ⟨h1, h2, h3⟩ := h
  have q : ∀ i, 96 ≤ i → i < 120 → now' i = now i := fun i a b => hk i b (by omega) (by omega) (fun c hc => by omega)
  refine ⟨by rw [hk 3 (by omega) (by omega) (by omega) (fun c hc => by omega)]; exact h1, h2, fun l hl => ?_⟩
  rw [q _ (by omega) (by omega), q _ (by omega) (by omega), q _ (by omega) (by omega)]
  exact h3 l hl
theorem cf_v {n : Nat} {d e : Int32} {R : Rf} {now : Nat → Int32} (h : SM n d e R now) {l w : Nat} (hl : l < 8) (hw : w < 3) : fX1_conditionFact R (nI l) (nI w) = some (now (96 + 3 * l + w)) := by
  unfold fX1_conditionFact
  rw [i3, at_v _ (by omega) (by omega), o1_v, h.cd (by omega), Nat.add_assoc]
theorem li_v (now : Nat → Int32) {l w : Nat} (hl : l < 8) (hw : w < 3) : fX7_lockIs now (nI l) (nI w) = some (now (96 + 3 * l + w)) := by
  unfold fX7_lockIs
  rw [i96, rd_v _ _ (by omega) (by omega)]
theorem sh_e {n : Nat} {d e : Int32} {R : Rf} {now : Nat → Int32} (h : SM n d e R now) {c : Nat} (hc : c < 8) : ∃ v, fX1_shown R (nI c) = some v ∧ fX7_shows now (nI c) = some v := by
  obtain ⟨k, hk, e1, e2⟩ := h.kd hc
  exact ⟨_, shown_v hc hk e2, by rw [shows_v hc hk e1, h.fl hc (f := 1) (by omega), h.fl hc (f := 2) (by omega)]⟩
theorem isC_t {now : Nat → Int32} {n j : Nat} (h : now 2 = nI n) (hn : n < 9) (hj : j < n) : fX7_isCistern now (nI j) = some 1 := by
  rw [isC_v _ h hn, if_pos ⟨nI_pos (by omega), nle hj (by omega)⟩]
theorem isC_f {now : Nat → Int32} {n : Nat} {x : Int32} (h : now 2 = nI n) (hn : n < 9) (hx : x < 0 ∨ nI n ≤ x) : fX7_isCistern now x = some 0 := by
  rw [isC_v _ h hn, if_neg (fun z => hx.elim z.1 z.2)]
theorem b01 (c : Prop) [Decidable c] : ∃ b : Bool, (if c then some (1 : Int32) else some 0) = some (if b then 1 else 0) ∧ (if c then some (0 : Int32) else some 1) = some (if !b then 1 else 0) := by
  by_cases h : c
  · exact ⟨true, by rw [if_pos h]; rfl, by rw [if_pos h]; rfl⟩
  · exact ⟨false, by rw [if_neg h]; rfl, by rw [if_neg h]; rfl⟩
theorem holds_e {n k : Nat} {d e : Int32} {R : Rf} {now : Nat → Int32} (hn : n < 9) (h : SM n d e R now) (hci : CI k now) {l : Nat} (hl : l < 8) : ∃ b : Bool, fX1_holds R (nI l) = some (if b then 1 else 0) ∧ fX7_holds now (nI l) = some (if b then 1 else 0) := by
  obtain ⟨⟨sd, hsd, es⟩, ⟨a, ha, ea⟩, ⟨b, hb, eb⟩⟩ := hci.2.2 l hl
  have c0 : fX1_conditionFact R (nI l) (0 : Int32) = some (nI sd) := by rw [← es]; exact cf_v h (w := 0) hl (by omega)
  have c1 : fX1_conditionFact R (nI l) (1 : Int32) = some (nI a) := by rw [← ea]; exact cf_v h (w := 1) hl (by omega)
  have c2 : fX1_conditionFact R (nI l) (2 : Int32) = some (nI b) := by rw [← eb]; exact cf_v h (w := 2) hl (by omega)
  have m0 : fX7_lockIs now (nI l) (0 : Int32) = some (nI sd) := by rw [← es]; exact li_v now (w := 0) hl (by omega)
  have m1 : fX7_lockIs now (nI l) (1 : Int32) = some (nI a) := by rw [← ea]; exact li_v now (w := 1) hl (by omega)
  have m2 : fX7_lockIs now (nI l) (2 : Int32) = some (nI b) := by rw [← eb]; exact li_v now (w := 2) hl (by omega)
  unfold fX1_holds fX7_holds
  rw [c1, o1_v, c2, o1_v, m0, o1_v, m1, o1_v, m2, o1_v]
  by_cases han : a < n
  · rw [hasC_t h.n2 han (by omega), o1_v, if_neg (show ¬ (1 : Int32) = 0 by decide), c0, o1_v, isC_t h.n1 hn han, o1_v, if_neg (show ¬ (1 : Int32) = 0 by decide)]
    obtain ⟨va, ca1, ca2⟩ := sh_e h (c := a) ha
    have hB : ∀ (X : Option Int32), (o1 (fX1_hasCistern R (nI b)) (fun x => if x = 0 then some (0 : Int32) else X) = if b < n then X else some 0) ∧ (o1 (fX7_isCistern now (nI b)) (fun x => if x = 0 then some (0 : Int32) else X) = if b < n then X else some 0) := by
      intro X
      by_cases hbn : b < n
      · rw [hasC_t h.n2 hbn (by omega), o1_v, if_neg (show ¬ (1 : Int32) = 0 by decide), isC_t h.n1 hn hbn, o1_v, if_neg (show ¬ (1 : Int32) = 0 by decide), if_pos hbn]
        exact ⟨rfl, rfl⟩
      · rw [hasC_f h.n2 (Or.inr (nI_le (by omega) (by omega))), o1_v, if_pos rfl, isC_f h.n1 hn (Or.inr (nI_le (by omega) (by omega))), o1_v, if_pos rfl, if_neg hbn]
        exact ⟨rfl, rfl⟩
    match sd, hsd with
    | 0, _ =>
      rw [if_pos (show nI 0 = (0 : Int32) from rfl), if_neg (show ¬ (1 : Int32) < nI 0 by decide), (hB _).1, (hB _).2]
      unfold fX7_holds_J46
      rw [if_pos (show nI 0 = (0 : Int32) from rfl)]
      by_cases hbn : b < n
      · rw [if_pos hbn, if_pos hbn]
        obtain ⟨vb, cb1, cb2⟩ := sh_e h (c := b) (by omega)
        rw [ca1, o1_v, cb1, o1_v, ca2, o1_v, cb2, o1_v]
        obtain ⟨q, -, q2⟩ := b01 (va ≤ vb)
        exact ⟨!q, q2, q2⟩
      · rw [if_neg hbn, if_neg hbn]
        exact ⟨false, rfl, rfl⟩
    | 1, _ =>
      rw [if_neg (show ¬ nI 1 = (0 : Int32) by decide), if_pos (show nI 1 = (1 : Int32) from rfl), if_neg (show ¬ (1 : Int32) < nI 1 by decide), (hB _).1, (hB _).2]
      unfold fX7_holds_J46
      rw [if_neg (show ¬ nI 1 = (0 : Int32) by decide), if_pos (show nI 1 = (1 : Int32) from rfl)]
      by_cases hbn : b < n
      · rw [if_pos hbn, if_pos hbn]
        obtain ⟨vb, cb1, cb2⟩ := sh_e h (c := b) (by omega)
        rw [ca1, o1_v, cb1, o1_v, ca2, o1_v, cb2, o1_v]
        obtain ⟨q, q1, -⟩ := b01 (va = vb)
        exact ⟨q, q1, q1⟩
      · rw [if_neg hbn, if_neg hbn]
        exact ⟨false, rfl, rfl⟩
    | 2, _ =>
      rw [if_neg (show ¬ nI 2 = (0 : Int32) by decide), if_neg (show ¬ nI 2 = (1 : Int32) by decide), if_pos (show nI 2 = (2 : Int32) from rfl), if_pos (show (1 : Int32) < nI 2 by decide)]
      unfold fX7_holds_J46
      rw [if_neg (show ¬ nI 2 = (0 : Int32) by decide), if_neg (show ¬ nI 2 = (1 : Int32) by decide), if_pos (show nI 2 = (2 : Int32) from rfl), ca1, o1_v, ca2, o1_v]
      obtain ⟨q, q1, -⟩ := b01 (va = 0)
      exact ⟨q, q1, q1⟩
    | 3, _ =>
      rw [if_neg (show ¬ nI 3 = (0 : Int32) by decide), if_neg (show ¬ nI 3 = (1 : Int32) by decide), if_neg (show ¬ nI 3 = (2 : Int32) by decide), if_pos (show nI 3 = (3 : Int32) from rfl), if_pos (show (1 : Int32) < nI 3 by decide)]
      unfold fX7_holds_J46
      rw [if_neg (show ¬ nI 3 = (0 : Int32) by decide), if_neg (show ¬ nI 3 = (1 : Int32) by decide), if_neg (show ¬ nI 3 = (2 : Int32) by decide), if_pos (show nI 3 = (3 : Int32) from rfl), ca1, o1_v, ca2, o1_v, get_1 R ha, o1_v, cis_1 now ha, o1_v, h.fl ha (f := 1) (by omega)]
      obtain ⟨q, q1, -⟩ := b01 (va = now (16 + 10 * a + 1))
      exact ⟨q, q1, q1⟩
    | 4, _ =>
      rw [if_neg (show ¬ nI 4 = (0 : Int32) by decide), if_neg (show ¬ nI 4 = (1 : Int32) by decide), if_neg (show ¬ nI 4 = (2 : Int32) by decide), if_neg (show ¬ nI 4 = (3 : Int32) by decide), if_pos (show (1 : Int32) < nI 4 by decide)]
      unfold fX7_holds_J46
      rw [if_neg (show ¬ nI 4 = (0 : Int32) by decide), if_neg (show ¬ nI 4 = (1 : Int32) by decide), if_neg (show ¬ nI 4 = (2 : Int32) by decide), if_neg (show ¬ nI 4 = (3 : Int32) by decide), ca1, o1_v, ca2, o1_v]
      obtain ⟨q, -, q2⟩ := b01 (nI b ≤ va)
      exact ⟨!q, q2, q2⟩
    | sd + 5, q => exact absurd q (by omega)
  · rw [hasC_f h.n2 (Or.inr (nI_le (by omega) (by omega))), o1_v, if_pos rfl, isC_f h.n1 hn (Or.inr (nI_le (by omega) (by omega))), o1_v, if_pos rfl]
    exact ⟨false, rfl, rfl⟩
/-- which conditions hold, by the row -/
def hoB (now : Nat → Int32) (l : Nat) : Bool := fX7_holds now (nI l) == some 1
theorem holds_v {n k : Nat} {d e : Int32} {R : Rf} {now : Nat → Int32} (hn : n < 9) (h : SM n d e R now) (hci : CI k now) {l : Nat} (hl : l < 8) : fX1_holds R (nI l) = some (if hoB now l then 1 else 0) ∧ fX7_holds now (nI l) = some (if hoB now l then 1 else 0) := by
  obtain ⟨b, h1, h2⟩ := holds_e hn h hci hl
  have e : hoB now l = b := by
    unfold hoB
    rw [h2]
    cases b <;> decide
  rw [e]
  exact ⟨h1, h2⟩
/-- the set of those that hold, below i -/
def hoM (now : Nat → Int32) : Nat → Nat
  | 0 => 0
  | i + 1 => if hoB now i then hoM now i + 2 ^ i else hoM now i
theorem hoM_lt (now : Nat → Int32) : ∀ i, hoM now i < 2 ^ i := by
  intro i
  induction i with
  | zero => exact Nat.one_pos
  | succ i ih =>
    rw [hoM, Nat.pow_succ]
    by_cases h : hoB now i = true
    · rw [if_pos h]; omega
    · rw [if_neg h]; omega
theorem or_pow {m i : Nat} (h : m < 2 ^ i) : m ||| 2 ^ i = m + 2 ^ i := by
  have := Nat.two_pow_add_eq_or_of_lt h 1
  rw [Nat.mul_one] at this
  rw [Nat.or_comm, ← this, Nat.add_comm]
theorem hoM_all (now : Nat → Int32) : ∀ i, (hoM now i = 2 ^ i - 1) ↔ ∀ l, l < i → hoB now l = true := by
  intro i
  induction i with
  | zero => exact ⟨fun _ l hl => absurd hl (Nat.not_lt_zero _), fun _ => rfl⟩
  | succ i ih =>
    have hlt := hoM_lt now i
    rw [hoM, Nat.pow_succ]
    by_cases h : hoB now i = true
    · rw [if_pos h]
      constructor
      · intro q l hl
        rcases Nat.lt_succ_iff_lt_or_eq.mp hl with z | z
        · exact ih.mp (by omega) l z
        · rw [z]; exact h
      · intro q
        have := ih.mpr (fun l hl => q l (by omega))
        omega
    · rw [if_neg h]
      exact ⟨fun q => absurd q (by omega), fun q => absurd (q i (by omega)) h⟩
theorem hold7_L {n k : Nat} {d e : Int32} {R : Rf} {now : Nat → Int32} (hn : n < 9) (h : SM n d e R now) (hci : CI k now) (kx : Int32 → Option Int32) : ∀ (j i f : Nat), i + j = k → j < f → fX7_holding_L4 now kx f (nI (hoM now i)) (nI i) = kx (nI (hoM now k)) := by
  have hk : k < 9 := hci.2.1
  intro j
  induction j with
  | zero =>
    intro i f hi hf
    obtain ⟨f, rfl⟩ : ∃ q, f = q + 1 := ⟨f - 1, by omega⟩
    have : i = k := by omega
    subst this
    rw [fX7_holding_L4, show rd now 120 (3 : Int32) _ = _ from rd_v now (i := 3) _ (by omega) (by omega), hci.1, if_pos (nI_le (by omega) (by omega))]
  | succ j ih =>
    intro i f hi hf
    obtain ⟨f, rfl⟩ : ∃ q, f = q + 1 := ⟨f - 1, by omega⟩
    rw [fX7_holding_L4, show rd now 120 (3 : Int32) _ = _ from rd_v now (i := 3) _ (by omega) (by omega), hci.1, if_neg (nle (by omega) (by omega)), (holds_v hn h hci (l := i) (by omega)).2, o1_v, ← ih (i + 1) f (by omega) (by omega), hoM]
    by_cases q : hoB now i = true
    · rw [if_neg (fun z => (bz _).mp z q), if_pos q, sh1 i (by omega), nI_or, or_pow (hoM_lt now i)]
      exact congrArg _ (nI_1 i)
    · rw [if_pos ((bz _).mpr q), if_neg q, nI0, nI_or, Nat.or_zero]
      exact congrArg _ (nI_1 i)
theorem holding7_v {n k : Nat} {d e : Int32} {R : Rf} {now : Nat → Int32} (hn : n < 9) (h : SM n d e R now) (hci : CI k now) : fX7_holding now = some (nI (hoM now k)) := by
  unfold fX7_holding
  exact hold7_L hn h hci _ k 0 fu (by omega) (fu_gt (by have := hci.2.1; omega))
/-- whether the lock gives -/
def opB (now : Nat → Int32) (k : Nat) : Bool := decide (hoM now k = 2 ^ k - 1)
theorem open7_v {n k : Nat} {d e : Int32} {R : Rf} {now : Nat → Int32} (hn : n < 9) (h : SM n d e R now) (hci : CI k now) : fX7_isOpen now = some (if opB now k then 1 else 0) := by
  have hk : k < 9 := hci.2.1
  have hp : 0 < 2 ^ k := Nat.two_pow_pos k
  have hp2 : 2 ^ k ≤ 2 ^ 8 := Nat.pow_le_pow_right (by omega) (by omega)
  have hm := hoM_lt now k
  unfold fX7_isOpen
  rw [holding7_v hn h hci, o1_v, show rd now 120 (3 : Int32) _ = _ from rd_v now (i := 3) _ (by omega) (by omega), hci.1, sh1 k (by omega), show nI (2 ^ k) - (1 : Int32) = nI (2 ^ k - 1) from pk_sub (b := 1) hp]
  unfold opB
  by_cases q : hoM now k = 2 ^ k - 1
  · rw [if_pos (by rw [q]), if_pos (decide_eq_true q)]
  · rw [if_neg (fun z => q ((nI_eq (by omega) (by omega)).mp z)), if_neg (fun z => q (of_decide_eq_true z))]
theorem op7_v {n k : Nat} {d e : Int32} {R : Rf} {now : Nat → Int32} (hn : n < 9) (h : SM n d e R now) (hci : CI k now) : fX7_open now = some (if opB now k then 1 else 0) := by
  unfold fX7_open
  rw [open7_v hn h hci, o1_v]
  by_cases q : opB now k = true
  · rw [if_neg (fun z => (bz _).mp z q), if_pos q]
  · rw [if_pos ((bz _).mpr q), if_neg q]
theorem open1_L {n k : Nat} {d e : Int32} {R : Rf} {now : Nat → Int32} (hn : n < 9) (h : SM n d e R now) (hci : CI k now) : ∀ (j i f : Nat), i + j = k → j < f → fX1_isOpen_L2 R (some 1) f (nI i) = some (if decide (∀ l, l < k → i ≤ l → hoB now l = true) then 1 else 0) := by
  have hk : k < 9 := hci.2.1
  intro j
  induction j with
  | zero =>
    intro i f hi hf
    obtain ⟨f, rfl⟩ : ∃ q, f = q + 1 := ⟨f - 1, by omega⟩
    rw [fX1_isOpen_L2, h.cn, hci.1, if_pos (nI_le (by omega) (by omega)), if_pos (decide_eq_true (fun l h1 h2 => by omega))]
  | succ j ih =>
    intro i f hi hf
    obtain ⟨f, rfl⟩ : ∃ q, f = q + 1 := ⟨f - 1, by omega⟩
    rw [fX1_isOpen_L2, h.cn, hci.1, if_neg (nle (by omega) (by omega)), (holds_v hn h hci (l := i) (by omega)).1, o1_v]
    by_cases q : hoB now i = true
    · rw [if_neg (fun z => (bz _).mp z q), show nI i + (1 : Int32) = nI (i + 1) from nI_1 i, ih (i + 1) f (by omega) (by omega)]
      congr 2
      refine propext ⟨fun z => decide_eq_true (fun l h1 h2 => ?_), fun z => decide_eq_true (fun l h1 h2 => of_decide_eq_true z l h1 (by omega))⟩
      rcases Nat.lt_or_eq_of_le h2 with w | w
      · exact of_decide_eq_true z l h1 w
      · rw [← w]; exact q
    · rw [if_pos ((bz _).mpr q), if_neg (fun z => q ((show ∀ l, l < k → i ≤ l → hoB now l = true from of_decide_eq_true z) i (by omega) (Nat.le_refl _)))]
theorem open1_v {n k : Nat} {d e : Int32} {R : Rf} {now : Nat → Int32} (hn : n < 9) (h : SM n d e R now) (hci : CI k now) : fX1_isOpen R = some (if opB now k then 1 else 0) := by
  unfold fX1_isOpen
  rw [show (0 : Int32) = nI 0 from rfl, open1_L hn h hci k 0 fu (by omega) (fu_gt (by have := hci.2.1; omega))]
  unfold opB
  congr 2
  refine propext ⟨fun z => decide_eq_true ((hoM_all now k).mpr (fun l hl => of_decide_eq_true z l hl (Nat.zero_le _))), fun z => decide_eq_true (fun l hl _ => (hoM_all now k).mp (of_decide_eq_true z) l hl)⟩
