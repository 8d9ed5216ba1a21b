/-! ===== cloths ===== -/
theorem bc_6 : ∀ s, s < 256 → fJ6_bitCount_0f7a4 (nI s) = some (nI (pcn s)) := by decide +kernel
theorem bc_7 : ∀ s, s < 256 → fX7_bits (nI s) = some (nI (pcn s)) := by decide +kernel
/-- the row with just these cloths, below cistern i -/
def cvN (now : Nat → Int32) (s : Nat) : Nat → (Nat → Int32)
  | 0 => now
  | i + 1 => upd (cvN now s i) (16 + 10 * i + 5) ((nI s >>> (nI i &&& 31)) &&& (1 : Int32))
theorem cover_L {n : Nat} (hn : n < 9) (s : Nat) {now0 : Nat → Int32} (kx : Rf → Option Rf) (kx' : (Nat → Int32) → Option (Int32 × (Nat → Int32) × (Nat → Int32) × (Nat → Int32))) : ∀ (j i f f' : Nat) (R : Rf), i + j = n → j < f → j < f' → SM n 0 0 R (cvN now0 s i) → ∃ R', fX1_coverJust_L2 (nI s) kx f R (nI i) = kx R' ∧ fX7_cloths_L75 (nI s) kx' f' (cvN now0 s i) (nI i) = kx' (cvN now0 s n) ∧ SM n 0 0 R' (cvN now0 s n) := by
  intro j
  induction j with
  | zero =>
    intro i f f' R hi hf hf' h
    obtain ⟨f, rfl⟩ : ∃ q, f = q + 1 := ⟨f - 1, by omega⟩
    obtain ⟨f', rfl⟩ : ∃ q, f' = q + 1 := ⟨f' - 1, by omega⟩
    have e : i = n := by omega
    subst e
    exact ⟨R, by rw [fX1_coverJust_L2, h.n2, if_pos (nI_le (by omega) (by omega))], by rw [fX7_cloths_L75, show rd (cvN now0 s i) 120 (2 : Int32) _ = _ from rd_v _ (i := 2) _ (by omega) (by omega), h.n1, if_pos (nI_le (by omega) (by omega))], h⟩
  | succ j ih =>
    intro i f f' R hi hf hf' h
    obtain ⟨f, rfl⟩ : ∃ q, f = q + 1 := ⟨f - 1, by omega⟩
    obtain ⟨f', rfl⟩ : ∃ q, f' = q + 1 := ⟨f' - 1, by omega⟩
    have h2 : SM n 0 0 (upd R.1 (11 * i + 5) ((nI s >>> (nI i &&& 31)) &&& (1 : Int32)), R.2) (cvN now0 s (i + 1)) := h.set (c := i) (w := 5) (by omega) (by omega) (by omega) _
    obtain ⟨R', g1, g2, g3⟩ := ih (i + 1) f f' _ (by omega) (by omega) (by omega) h2
    refine ⟨R', ?_, ?_, g3⟩
    · rw [← g1, fX1_coverJust_L2, h.n2, if_neg (nle (by omega) (by omega)), set_5 R _ (by omega), o1_v, show nI i + (1 : Int32) = nI (i + 1) from nI_1 i]
    · rw [← g2, fX7_cloths_L75, show rd (cvN now0 s i) 120 (2 : Int32) _ = _ from rd_v _ (i := 2) _ (by omega) (by omega), h.n1, if_neg (nle (by omega) (by omega)), show fX7_at (nI i) (5 : Int32) = some (nI (16 + 10 * i + 5)) from at7_v i 5, o1_v, wr_v _ _ _ (by omega) (by omega), show nI i + (1 : Int32) = nI (i + 1) from nI_1 i]
      rfl
theorem cvN_ci {n k : Nat} (hn : n < 9) {now : Nat → Int32} (h : CI k now) (s : Nat) : ∀ i, i ≤ n → CI k (cvN now s i) := by
  intro i
  induction i with
  | zero => intro _; exact h
  | succ i ih => intro hi; exact (ih (by omega)).up (i := 16 + 10 * i + 5) (by omega)
/-- whether a rain leaves it open with just these cloths -/
def clB (n : Nat) (now : Nat → Int32) (sd : Nat) (am : Int32) (m s : Nat) : Bool := match fX7_leavesOpen (cvN now s n) now (nI sd) am (nI m) with
  | some p => decide (p.1 = 1)
  | none => false
theorem cl_v {n k : Nat} (hn : n < 9) {sd : Nat} (hs : sd < 4) (am : Int32) {m : Nat} (hm : m < 1000) {R : Rf} {now : Nat → Int32} (h : SM n 0 0 R now) (hci : CI k now) (s : Nat) : ∃ R1 R2 v, fX1_coverJust R (nI s) = some R1 ∧ fX1_passHours R1 (nI sd) am (nI m) = some (v, R2) ∧ fX1_isOpen R2 = some (if clB n now sd am m s then 1 else 0) ∧ fX7_leavesOpen (cvN now s n) now (nI sd) am (nI m) = some (if clB n now sd am m s then 1 else 0, now) ∧ (R2.2.2.2.2.2.1 = 0 ∨ R2.2.2.2.2.2.1 = 1) ∧ ∀ kx', fX7_cloths_L75 (nI s) kx' fu now (0 : Int32) = kx' (cvN now s n) := by
  obtain ⟨R1, g1, -, g3⟩ := cover_L hn s (now0 := now) (fun R103 => some R103) (fun _ => none) n 0 fu fu R (by omega) (fu_gt (by omega)) (fu_gt (by omega)) h
  obtain ⟨R2, v, b, e1, e2, e3, e4⟩ := leavesOpen_v hn hs am hm now g3 (cvN_ci hn hci s n (Nat.le_refl n))
  have eb : clB n now sd am m s = b := by
    unfold clB
    rw [e3]
    cases b <;> rfl
  rw [eb]
  refine ⟨R1, R2, v, g1, e1, e2, e3, e4, fun kx' => ?_⟩
  obtain ⟨-, -, g2, -⟩ := cover_L hn s (now0 := now) (fun R103 => some R103) kx' n 0 fu fu R (by omega) (fu_gt (by omega)) (fu_gt (by omega)) h
  exact g2
/-- the fewest, then the least -/
def Bst (op : Nat → Bool) (e b : Nat) : Prop := b < e ∧ op b = true ∧ ∀ s, s < e → op s = true → pcn b < pcn s ∨ (pcn b = pcn s ∧ b ≤ s)
theorem Bst.one {op : Nat → Bool} {e b c : Nat} (h : Bst op e b) (h2 : Bst op e c) : b = c := by
  have h3 := h.2.2 c h2.1 h2.2.1
  have h4 := h2.2.2 b h.1 h.2.1
  omega
theorem clo7_L {n k : Nat} (hn : n < 9) {sd : Nat} (hs : sd < 4) (am : Int32) {m : Nat} (hm : m < 1000) {R : Rf} {now : Nat → Int32} (h : SM n 0 0 R now) (hci : CI k now) (kx : (Nat → Int32) → Int32 → Option (Int32 × (Nat → Int32) × (Nat → Int32) × (Nat → Int32))) : ∀ (j s f : Nat) (x : Int32), s + j = 2 ^ n → j < f → ((x = -1 ∧ ∀ t, t < s → clB n now sd am m t = false) ∨ ∃ b, x = nI b ∧ Bst (clB n now sd am m) s b) → ∃ y, fX7_cloths_L41 now (nI sd) am (nI m) kx f now x (nI s) = kx now y ∧ ((y = -1 ∧ ∀ t, t < 2 ^ n → clB n now sd am m t = false) ∨ ∃ b, y = nI b ∧ Bst (clB n now sd am m) (2 ^ n) b) := by
  have h2 : 2 ^ n ≤ 2 ^ 8 := Nat.pow_le_pow_right (by omega) (by omega)
  intro j
  induction j with
  | zero =>
    intro s f x hi hf hx
    obtain ⟨f, rfl⟩ : ∃ q, f = q + 1 := ⟨f - 1, by omega⟩
    have e : s = 2 ^ n := by omega
    subst e
    exact ⟨x, by rw [fX7_cloths_L41, show rd now 120 (2 : Int32) _ = _ from rd_v now (i := 2) _ (by omega) (by omega), h.n1, sh1 n (by omega), if_pos (nI_le (by omega) (by omega))], hx⟩
  | succ j ih =>
    intro s f x hi hf hx
    obtain ⟨f, rfl⟩ : ∃ q, f = q + 1 := ⟨f - 1, by omega⟩
    obtain ⟨R1, R2, v, -, -, -, e3, -, e5⟩ := cl_v hn hs am hm h hci s
    rw [fX7_cloths_L41, show rd now 120 (2 : Int32) _ = _ from rd_v now (i := 2) _ (by omega) (by omega), h.n1, sh1 n (by omega), if_neg (nle (by omega) (by omega)), show nI s + (1 : Int32) = nI (s + 1) from nI_1 s]
    have hkeep : clB n now sd am m s = false → ((x = -1 ∧ ∀ t, t < s → clB n now sd am m t = false) ∨ ∃ b, x = nI b ∧ Bst (clB n now sd am m) s b) → ((x = -1 ∧ ∀ t, t < s + 1 → clB n now sd am m t = false) ∨ ∃ b, x = nI b ∧ Bst (clB n now sd am m) (s + 1) b) := by
      intro hq hx
      rcases hx with ⟨q1, q2⟩ | ⟨b, q1, q2⟩
      · refine Or.inl ⟨q1, fun t ht => ?_⟩
        rcases Nat.lt_succ_iff_lt_or_eq.mp ht with w | w
        · exact q2 t w
        · rw [w]; exact hq
      · refine Or.inr ⟨b, q1, by have := q2.1; omega, q2.2.1, fun t ht hp => ?_⟩
        rcases Nat.lt_succ_iff_lt_or_eq.mp ht with w | w
        · exact q2.2.2 t w hp
        · rw [w, hq] at hp; exact Bool.noConfusion hp
    rcases hx with ⟨rfl, q2⟩ | ⟨b, rfl, q2⟩
    · rw [if_pos (show (-1 : Int32) < 0 by decide), e5, e3, o2_v]
      by_cases q : clB n now sd am m s = true
      · rw [if_neg (fun z => (bz _).mp z q)]
        refine ih (s + 1) f (nI s) (by omega) (by omega) (Or.inr ⟨s, rfl, by omega, q, fun t ht hp => ?_⟩)
        rcases Nat.lt_succ_iff_lt_or_eq.mp ht with w | w
        · rw [q2 t w] at hp; exact Bool.noConfusion hp
        · rw [w]; exact Or.inr ⟨rfl, Nat.le_refl s⟩
      · rw [if_pos ((bz _).mpr q)]
        exact ih (s + 1) f (-1) (by omega) (by omega) (hkeep (Bool.eq_false_iff.mpr q) (Or.inl ⟨rfl, q2⟩))
    · have hb := q2.1
      have p1 := pcn_le s (by omega)
      have p2 := pcn_le b (by omega)
      rw [if_neg (nI_pos (n := b) (by omega)), bc_7 s (by omega), o1_v, bc_7 b (by omega), o1_v]
      by_cases w : pcn b ≤ pcn s
      · rw [if_pos (nI_le w (by omega))]
        refine ih (s + 1) f (nI b) (by omega) (by omega) (Or.inr ⟨b, rfl, by omega, q2.2.1, fun t ht hp => ?_⟩)
        rcases Nat.lt_succ_iff_lt_or_eq.mp ht with z | z
        · exact q2.2.2 t z hp
        · rw [z]; omega
      · rw [if_neg (nle (Nat.not_le.mp w) (by omega)), e5, e3, o2_v]
        by_cases q : clB n now sd am m s = true
        · rw [if_neg (fun z => (bz _).mp z q)]
          refine ih (s + 1) f (nI s) (by omega) (by omega) (Or.inr ⟨s, rfl, by omega, q, fun t ht hp => ?_⟩)
          rcases Nat.lt_succ_iff_lt_or_eq.mp ht with z | z
          · have := q2.2.2 t z hp
            omega
          · rw [z]; exact Or.inr ⟨rfl, Nat.le_refl s⟩
        · rw [if_pos ((bz _).mpr q)]
          exact ih (s + 1) f (nI b) (by omega) (by omega) (hkeep (Bool.eq_false_iff.mpr q) (Or.inr ⟨b, rfl, q2⟩))
/-- sets of so many bits -/
theorem clo6_b {n k : Nat} (hn : n < 9) {sd : Nat} (hs : sd < 4) (am : Int32) {m : Nat} (hm : m < 1000) {R : Rf} {now fd : Nat → Int32} (h : SM n 0 0 R now) (hci : CI k now) {q : Nat} (hq : q < 9) (kx : Rf → Option (Int32 × Rf × (Nat → Int32))) : ∀ (j s f : Nat) (B : Rf), s + j = 2 ^ n → j < f → (B.2.2.2.2.2.1 = 0 ∨ B.2.2.2.2.2.1 = 1) → (∀ t, t < s → pcn t = q → clB n now sd am m t = false) → ∃ B', (B'.2.2.2.2.2.1 = 0 ∨ B'.2.2.2.2.2.1 = 1) ∧ ((fX6_cloths_L39 R fd (nI sd) am (nI m) (nI q) kx f B (nI s) = kx B' ∧ ∀ t, t < 2 ^ n → pcn t = q → clB n now sd am m t = false) ∨ ∃ b, fX6_cloths_L39 R fd (nI sd) am (nI m) (nI q) kx f B (nI s) = some (nI b, B', fd) ∧ b < 2 ^ n ∧ pcn b = q ∧ clB n now sd am m b = true ∧ ∀ t, t < b → pcn t = q → clB n now sd am m t = false) := by
  have h2 : 2 ^ n ≤ 2 ^ 8 := Nat.pow_le_pow_right (by omega) (by omega)
  intro j
  induction j with
  | zero =>
    intro s f B hi hf hB hx
    obtain ⟨f, rfl⟩ : ∃ q, f = q + 1 := ⟨f - 1, by omega⟩
    have e : s = 2 ^ n := by omega
    subst e
    exact ⟨B, hB, Or.inl ⟨by rw [fX6_cloths_L39, h.n2, sh1 n (by omega), if_pos (nI_le (by omega) (by omega))], hx⟩⟩
  | succ j ih =>
    intro s f B hi hf hB hx
    obtain ⟨f, rfl⟩ : ∃ q, f = q + 1 := ⟨f - 1, by omega⟩
    obtain ⟨R1, R2, v, e1, e2, e3, -, e4, -⟩ := cl_v hn hs am hm h hci s
    have p1 := pcn_le s (by omega)
    rw [fX6_cloths_L39, h.n2, sh1 n (by omega), if_neg (nle (by omega) (by omega)), bc_6 s (by omega), o1_v, show nI s + (1 : Int32) = nI (s + 1) from nI_1 s]
    have hnext : (pcn s = q → clB n now sd am m s = false) → ∀ t, t < s + 1 → pcn t = q → clB n now sd am m t = false := by
      intro z t ht hp
      rcases Nat.lt_succ_iff_lt_or_eq.mp ht with w | w
      · exact hx t w hp
      · rw [w]; exact z (by rw [← w]; exact hp)
    by_cases w : pcn s = q
    · rw [if_pos (show nI (pcn s) = nI q by rw [w]), become_v B h.c01, o1_v, e1, o1_v, e2, o2_v, e3, o1_v]
      by_cases z : clB n now sd am m s = true
      · rw [if_neg (fun y => (bz _).mp y z)]
        exact ⟨R2, e4, Or.inr ⟨s, rfl, by omega, w, z, hx⟩⟩
      · rw [if_pos ((bz _).mpr z)]
        exact ih (s + 1) f R2 (by omega) (by omega) e4 (hnext (fun _ => Bool.eq_false_iff.mpr z))
    · rw [if_neg (fun y => w ((nI_eq (by omega) (by omega)).mp y))]
      exact ih (s + 1) f B (by omega) (by omega) hB (hnext (fun y => absurd y w))
theorem pcn_pow : ∀ n, n < 9 → ∀ s, s < 256 → s < 2 ^ n → pcn s ≤ n := by decide +kernel
theorem clo6_L {n k : Nat} (hn : n < 9) {sd : Nat} (hs : sd < 4) (am : Int32) {m : Nat} (hm : m < 1000) {R : Rf} {now fd : Nat → Int32} (h : SM n 0 0 R now) (hci : CI k now) (kx : Rf → Option (Int32 × Rf × (Nat → Int32))) : ∀ (j q f : Nat) (B : Rf), q + j = n + 1 → j < f → (B.2.2.2.2.2.1 = 0 ∨ B.2.2.2.2.2.1 = 1) → (∀ t, t < 2 ^ n → pcn t < q → clB n now sd am m t = false) → ∃ B', (B'.2.2.2.2.2.1 = 0 ∨ B'.2.2.2.2.2.1 = 1) ∧ ((fX6_cloths_L24 R fd (nI sd) am (nI m) kx f B (nI q) = kx B' ∧ ∀ t, t < 2 ^ n → clB n now sd am m t = false) ∨ ∃ b, fX6_cloths_L24 R fd (nI sd) am (nI m) kx f B (nI q) = some (nI b, B', fd) ∧ Bst (clB n now sd am m) (2 ^ n) b) := by
  have h2 : 2 ^ n ≤ 2 ^ 8 := Nat.pow_le_pow_right (by omega) (by omega)
  intro j
  induction j with
  | zero =>
    intro q f B hi hf hB hx
    obtain ⟨f, rfl⟩ : ∃ q, f = q + 1 := ⟨f - 1, by omega⟩
    have e : q = n + 1 := by omega
    subst e
    exact ⟨B, hB, Or.inl ⟨by rw [fX6_cloths_L24, h.n2, if_pos (nI_lt (by omega) (by omega))], fun t ht => hx t ht (by have := pcn_pow n hn t (by omega) ht; omega)⟩⟩
  | succ j ih =>
    intro q f B hi hf hB hx
    obtain ⟨f, rfl⟩ : ∃ q, f = q + 1 := ⟨f - 1, by omega⟩
    rw [fX6_cloths_L24, h.n2, if_neg (nI_nlt (by omega) (by omega))]
    obtain ⟨B', hB', y⟩ := clo6_b (fd := fd) hn hs am hm h hci (q := q) (by omega) (fun B115 => fX6_cloths_L24 R fd (nI sd) am (nI m) kx f B115 (nI q + (1 : Int32))) (2 ^ n) 0 fu B (by omega) (fu_gt (by omega)) hB (fun t ht => absurd ht (Nat.not_lt_zero t))
    rcases y with ⟨y1, y2⟩ | ⟨b, y1, y2, y3, y4, y5⟩
    · rw [show fX6_cloths_L39 R fd (nI sd) am (nI m) (nI q) _ fu B (0 : Int32) = _ from y1, show nI q + (1 : Int32) = nI (q + 1) from nI_1 q]
      exact ih (q + 1) f B' (by omega) (by omega) hB' (fun t ht hp => by
        rcases Nat.lt_succ_iff_lt_or_eq.mp hp with w | w
        · exact hx t ht w
        · exact y2 t ht w)
    · rw [show fX6_cloths_L39 R fd (nI sd) am (nI m) (nI q) _ fu B (0 : Int32) = _ from y1]
      refine ⟨B', hB', Or.inr ⟨b, rfl, y2, y4, fun t ht hp => ?_⟩⟩
      rcases Nat.lt_trichotomy (pcn t) q with w | w | w
      · rw [hx t ht w] at hp; exact Bool.noConfusion hp
      · refine Or.inr ⟨by omega, Nat.not_lt.mp (fun z => ?_)⟩
        rw [y5 t z w] at hp
        exact Bool.noConfusion hp
      · exact Or.inl (by omega)
theorem op_cloths {R B : Rf} {now aside fd found : Nat → Int32} (hR : Rl R now) (hB : B.2.2.2.2.2.1 = 0 ∨ B.2.2.2.2.2.1 = 1) (hF : Fnd fd found) (a b c : Int32) : P3 now (fX6_cloths R B fd a b c) (fX7_cloths now aside found a b c) := by
  obtain ⟨n, k, hn, h, hci, hsp⟩ := hR
  have h2 : 2 ^ n ≤ 2 ^ 8 := Nat.pow_le_pow_right (by omega) (by omega)
  unfold fX6_cloths fX7_cloths
  rw [fault_v h.ho, o1_v, ref_v, o1_v]
  rcases rfS_or now a b c 1 20 with ⟨e, h1, h3⟩ | e | e
  · rw [e, if_pos rfl, if_pos rfl, copy7_v, o1_v]
    obtain ⟨s, hs, rfl⟩ := inW (m := 3) (by omega) h1.1
    obtain ⟨m, hm1, hm, rfl⟩ := inW1 (m := 20) (by omega) h3
    obtain ⟨B', hB', y⟩ := clo6_L (fd := fd) hn hs b (m := m) (by omega) h hci (fun B116 => o2 (fX6_finding fd (-1000004 : Int32)) (fun x117 fd118 => some (x117, B116, fd118))) (n + 1) 0 fu B (by omega) (fu_gt (by omega)) hB (fun t _ ht => absurd ht (Nat.not_lt_zero _))
    obtain ⟨x, z1, z2⟩ := clo7_L hn hs b (m := m) (by omega) h hci (fun now127 x128 => if 0 ≤ x128 then (some (x128, now127, now, found)) else (o2 (fX7_finding found (-1000004 : Int32)) (fun x129 found130 => some (x129, now127, now, found130)))) (2 ^ n) 0 fu (-1) (by omega) (fu_gt (by omega)) (Or.inl ⟨rfl, fun t ht => absurd ht (Nat.not_lt_zero t)⟩)
    rw [show fX7_cloths_L41 now (nI s) b (nI m) _ fu now (-1 : Int32) (0 : Int32) = _ from z1]
    rcases y with ⟨y1, y2⟩ | ⟨q, y1, y2⟩
    · rw [show fX6_cloths_L24 R fd (nI s) b (nI m) _ fu B (0 : Int32) = _ from y1]
      rcases z2 with ⟨rfl, z3⟩ | ⟨p, rfl, z3⟩
      · rw [if_neg (by decide)]
        exact P3.fnd hB' hF (by omega) cN
      · have := y2 p z3.1
        rw [z3.2.1] at this
        exact Bool.noConfusion this
    · rw [show fX6_cloths_L24 R fd (nI s) b (nI m) _ fu B (0 : Int32) = _ from y1]
      rcases z2 with ⟨rfl, z3⟩ | ⟨p, rfl, z3⟩
      · have := z3 q y2.1
        rw [y2.2.1] at this
        exact Bool.noConfusion this
      · have := y2.one z3
        subst this
        have := y2.1
        rw [if_pos (show (0 : Int32) ≤ nI q from nI_le (a := 0) (by omega) (by omega))]
        exact ⟨_, _, _, _, _, rfl, rfl, hB', hF⟩
  · rw [e, if_neg (by decide), if_neg (by decide)]
    exact P3.fnd hB hF (by omega) cB
  · rw [e, if_neg (by decide), if_neg (by decide)]
    exact P3.fnd hB hF (by omega) cS'
