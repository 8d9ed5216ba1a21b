/-! ===== levels kept and taken ===== -/
theorem i8 (a b : Nat) : nI a * (8 : Int32) + nI b = nI (8 * a + b) := by
  show nI a * nI 8 + nI b = _
  rw [pk_mul, nI_add, Nat.mul_comm]
theorem m8 (a : Nat) : nI a * (8 : Int32) = nI (8 * a) := by
  show nI a * nI 8 = _
  rw [pk_mul, Nat.mul_comm]
theorem keep_L {n N b : Nat} (hn : n < 9) (hb : b + 8 ≤ N) (hN : N < 1000) {R : Rf} (h : R.2.2.2.1 = nI n) (kx : (Nat → Int32) → Option (Nat → Int32)) : ∀ (j i f : Nat) (g : Nat → Int32), i + j = n → j < f → (∀ c, c < i → g (b + c) = R.1 (11 * c + 2)) → ∃ g', fX1_keepLevels_L2 R N (nI b) kx f g (nI i) = kx g' ∧ (∀ c, c < n → g' (b + c) = R.1 (11 * c + 2)) ∧ ∀ t, (t < b ∨ b + 8 ≤ t) → g' t = g t := by
  intro j
  induction j with
  | zero =>
    intro i f g hi hf hg
    obtain ⟨f, rfl⟩ : ∃ q, f = q + 1 := ⟨f - 1, by omega⟩
    exact ⟨g, by rw [fX1_keepLevels_L2, h, if_pos (nI_le (by omega) (by omega))], fun c hc => hg c (by omega), fun _ _ => rfl⟩
  | succ j ih =>
    intro i f g hi hf hg
    obtain ⟨f, rfl⟩ : ∃ q, f = q + 1 := ⟨f - 1, by omega⟩
    obtain ⟨g', e, h1, h2⟩ := ih (i + 1) f (upd g (b + i) (R.1 (11 * i + 2))) (by omega) (by omega) (fun c hc => by
      by_cases q : c = i
      · subst q; exact up_s
      · rw [up_n (by omega)]; exact hg c (by omega))
    refine ⟨g', by rw [← e, fX1_keepLevels_L2, h, if_neg (nle (by omega) (by omega)), get_2 R (by omega), o1_v, nI_add, put_v _ _ (by omega) (by omega), o1_v, show nI i + (1 : Int32) = nI (i + 1) from nI_1 i], h1, fun t ht => ?_⟩
    rw [h2 t ht, up_n (by omega)]
theorem keep_v {n N b : Nat} (hn : n < 9) (hb : b + 8 ≤ N) (hN : N < 1000) {R : Rf} (h : R.2.2.2.1 = nI n) (g : Nat → Int32) : ∃ g', fX1_keepLevels R N g (nI b) = some g' ∧ (∀ c, c < n → g' (b + c) = R.1 (11 * c + 2)) ∧ ∀ t, (t < b ∨ b + 8 ≤ t) → g' t = g t := by
  unfold fX1_keepLevels
  exact keep_L hn hb hN h (fun f105 => some f105) n 0 fu g (by omega) (fu_gt (by omega)) (fun c hc => absurd hc (Nat.not_lt_zero c))
theorem take_L {n N b : Nat} (hn : n < 9) (hb : b + 8 ≤ N) (hN : N < 1000) (f : Nat → Int32) (kx : Rf → Option Rf) (r2 : (Nat → Int32) × (Nat → Int32) × Int32 × Int32 × Int32 × Int32 × Int32 × Int32) (h : r2.2.2.1 = nI n) : ∀ (j i q : Nat) (r : Nat → Int32), i + j = n → j < q → ∃ r', fX1_takeLevels_L2 N f (nI b) kx q (r, r2) (nI i) = kx (r', r2) ∧ (∀ c, i ≤ c → c < n → r' (11 * c + 2) = f (b + c)) ∧ ∀ t, (∀ c, i ≤ c → c < n → t ≠ 11 * c + 2) → r' t = r t := by
  intro j
  induction j with
  | zero =>
    intro i q r hi hq
    obtain ⟨q, rfl⟩ : ∃ z, q = z + 1 := ⟨q - 1, by omega⟩
    exact ⟨r, by rw [fX1_takeLevels_L2, if_pos (show r2.2.2.1 ≤ nI i by rw [h]; exact nI_le (by omega) (by omega))], fun c h1 h2 => absurd h1 (by omega), fun _ _ => rfl⟩
  | succ j ih =>
    intro i q r hi hq
    obtain ⟨q, rfl⟩ : ∃ z, q = z + 1 := ⟨q - 1, by omega⟩
    obtain ⟨r', e, h1, h2⟩ := ih (i + 1) q (upd r (11 * i + 2) (f (b + i))) (by omega) (by omega)
    refine ⟨r', ?_, fun c c1 c2 => ?_, fun t ht => ?_⟩
    · rw [← e, fX1_takeLevels_L2, if_neg (show ¬ r2.2.2.1 ≤ nI i by rw [h]; exact nle (by omega) (by omega)), nI_add, at_v _ (by omega) (by omega), o1_v, set_2 _ _ (by omega), o1_v, show nI i + (1 : Int32) = nI (i + 1) from nI_1 i]
    · by_cases z : c = i
      · subst z
        rw [h2 _ (fun c a1 a2 => by omega)]
        exact up_s
      · exact h1 c (by omega) c2
    · rw [h2 t (fun c a1 a2 => ht c (by omega) a2)]
      exact up_n (ht i (Nat.le_refl i) (by omega))
theorem take_v {n N b : Nat} (hn : n < 9) (hb : b + 8 ≤ N) (hN : N < 1000) (f : Nat → Int32) {R : Rf} (h : R.2.2.2.1 = nI n) : ∃ r', fX1_takeLevels R N f (nI b) = some (r', R.2) ∧ (∀ c, c < n → r' (11 * c + 2) = f (b + c)) ∧ ∀ t, (∀ c, c < n → t ≠ 11 * c + 2) → r' t = R.1 t := by
  unfold fX1_takeLevels
  obtain ⟨r', e, h1, h2⟩ := take_L hn hb hN f (fun R105 => some R105) R.2 h n 0 fu R.1 (by omega) (fu_gt (by omega))
  exact ⟨r', e, fun c hc => h1 c (Nat.zero_le c) hc, fun t ht => h2 t (fun c _ hc => ht c hc)⟩
theorem addsub (a b : Int32) : a = b + (a - b) := by rw [Int32.add_comm, Int32.sub_add_cancel]
/-- levels of another time are put in: the roof stands as then, but for HOUR and what ran off -/
theorem SM.lv {n : Nat} (hn : n < 9) {d e : Int32} {R : Rf} {now now2 : Nat → Int32} (h : SM n d e R now) (hk : Kp n now now2) {r : Nat → Int32} (h1 : ∀ c, c < n → r (11 * c + 2) = now2 (16 + 10 * c + 2)) (h2 : ∀ t, (∀ c, c < n → t ≠ 11 * c + 2) → r t = R.1 t) : ∃ d' e', SM n d' e' (r, R.2) now2 := by
  obtain ⟨⟨a1, a2⟩, a3, ⟨a4, a5⟩, a6, a7, a8, a9, a10, a11, a12⟩ := h
  have q : ∀ i, i < 120 → i ≠ 0 → i ≠ 4 → (∀ c, c < n → i ≠ 16 + 10 * c + 2) → now2 i = now i := hk
  refine ⟨R.2.2.2.2.2.2.2.1 - now2 4, R.2.2.2.2.2.2.1 - now2 0, ⟨by rw [q 2 (by omega) (by omega) (by omega) (fun c _ => by omega)]; exact a1, a2⟩, fun c hc => ?_, ⟨by rw [q 1 (by omega) (by omega) (by omega) (fun c _ => by omega)]; exact a4, by rw [q 1 (by omega) (by omega) (by omega) (fun c _ => by omega)]; exact a5⟩, fun c hc => ⟨fun f hf => ?_, fun f hf => ?_⟩, fun i hi => ?_, fun i hi => ?_, by rw [q 3 (by omega) (by omega) (by omega) (fun c _ => by omega)]; exact a9, by rw [q 5 (by omega) (by omega) (by omega) (fun c _ => by omega)]; exact a10, addsub _ _, addsub _ _⟩
  · obtain ⟨k, hk, e1⟩ := a3 c hc
    exact ⟨k, hk, by rw [q _ (by omega) (by omega) (by omega) (fun c' _ => by omega)]; exact e1⟩
  · show r (11 * c + f) = now2 (16 + 10 * c + f)
    by_cases z : f = 2 ∧ c < n
    · obtain ⟨rfl, hcn⟩ := z
      exact h1 c hcn
    · rw [h2 _ (fun c' hc' => by omega), q _ (by omega) (by omega) (by omega) (fun c' hc' => by omega)]
      exact (a6 c hc).1 f hf
  · show r (11 * c + 7 + f) = now2 (16 + 10 * c + 6 + f)
    rw [h2 _ (fun c' hc' => by omega), q _ (by omega) (by omega) (by omega) (fun c' hc' => by omega)]
    exact (a6 c hc).2 f hf
  · rw [q _ (by omega) (by omega) (by omega) (fun c' hc' => by omega)]
    exact a7 i hi
  · rw [q _ (by omega) (by omega) (by omega) (fun c' hc' => by omega)]
    exact a8 i hi
theorem Kp.vs {n : Nat} {a b c : Nat → Int32} (h : Kp n a b) (h2 : Kp n a c) : Kp n b c := fun i h1 h3 h4 h5 => (h2 i h1 h3 h4 h5).trans (h i h1 h3 h4 h5).symm
/-! ===== rains by their signs ===== -/
/-- the amount of a sign -/
abbrev amS (g : Nat) : Int32 := if g = 0 then 0 else 3
/-- an hour of a sign, by the row -/
def hrS (now : Nat → Int32) (g : Nat) : Nat → Int32 := match fX7_hour now (nI (g - 1)) (amS g) with
  | some p => p.2
  | none => now
/-- the row after j hours of these signs -/
def trS (now : Nat → Int32) (dg : Nat → Nat) : Nat → (Nat → Int32)
  | 0 => now
  | j + 1 => hrS (trS now dg j) (dg j)
theorem trS_x (now : Nat → Int32) {dg dg' : Nat → Nat} : ∀ j, (∀ i, i < j → dg i = dg' i) → trS now dg j = trS now dg' j := by
  intro j
  induction j with
  | zero => intro _; rfl
  | succ j ih =>
    intro h
    rw [trS, trS, ih (fun i hi => h i (by omega)), h j (by omega)]
theorem hrS_v {n k : Nat} (hn : n < 9) {d e : Int32} {R : Rf} {now : Nat → Int32} (h : SM n d e R now) (hci : CI k now) {g : Nat} (hg : g < 5) : ∃ R', fX1_passHour R (nI (g - 1)) (amS g) = some R' ∧ fX7_hour now (nI (g - 1)) (amS g) = some (if opB (hrS now g) k then 1 else 0, hrS now g) ∧ SM n d e R' (hrS now g) ∧ CI k (hrS now g) ∧ Kp n now (hrS now g) := by
  obtain ⟨R', now', e1, e2, h1, k1, -⟩ := hour_v hn (s := g - 1) (by omega) (amS g) d e h
  have c1 := hci.kp hn k1
  rw [op7_v hn h1 c1, o1_v] at e2
  have e3 : hrS now g = now' := by
    unfold hrS
    rw [e2]
  rw [e3]
  exact ⟨R', e1, e2, h1, c1, k1⟩
theorem trS_v {n k : Nat} (hn : n < 9) {d e : Int32} {R : Rf} {now : Nat → Int32} (h : SM n d e R now) (hci : CI k now) {dg : Nat → Nat} (hd : ∀ i, dg i < 5) : ∀ j, ∃ R', SM n d e R' (trS now dg j) ∧ CI k (trS now dg j) ∧ Kp n now (trS now dg j) := by
  intro j
  induction j with
  | zero => exact ⟨R, h, hci, Kp.rf _⟩
  | succ j ih =>
    obtain ⟨R1, g1, g2, g3⟩ := ih
    obtain ⟨R2, -, -, f1, f2, f3⟩ := hrS_v hn g1 g2 (hd j)
    exact ⟨R2, f1, f2, g3.tr f3⟩
/-- the sign of hour i of row r of m hours -/
def sgn (m r i : Nat) : Nat := r / 5 ^ (m - 1 - i) % 5
theorem sgn_lt (m r i : Nat) : sgn m r i < 5 := Nat.mod_lt _ (by omega)
theorem p5 {m : Nat} (h : m < 6) : 5 ^ m ≤ 3125 := Nat.pow_le_pow_right (n := 5) (by omega) (show m ≤ 5 by omega)
theorem rows_L (m : Nat) (hm : m < 2147483648) (kx : Int32 → Option Int32) : ∀ (j i f x : Nat), i + j = m → j < f → fX7_rows_L4 (nI m) kx f (nI x) (nI i) = kx (nI (x * 5 ^ j)) := by
  intro j
  induction j with
  | zero =>
    intro i f x hi hf
    obtain ⟨f, rfl⟩ : ∃ q, f = q + 1 := ⟨f - 1, by omega⟩
    rw [fX7_rows_L4, if_pos (nI_le (by omega) (by omega)), Nat.pow_zero, Nat.mul_one]
  | succ j ih =>
    intro i f x hi hf
    obtain ⟨f, rfl⟩ : ∃ q, f = q + 1 := ⟨f - 1, by omega⟩
    rw [fX7_rows_L4, if_neg (nle (by omega) (by omega)), show nI x * (5 : Int32) = nI (x * 5) from pk_mul x 5, show nI i + (1 : Int32) = nI (i + 1) from nI_1 i, ih (i + 1) f (x * 5) (by omega) (by omega), Nat.pow_succ, Nat.mul_assoc, Nat.mul_comm 5]
theorem rows_v {m : Nat} (hm : m < 6) : fX7_rows (nI m) = some (nI (5 ^ m)) := by
  unfold fX7_rows
  rw [show (1 : Int32) = nI 1 from rfl, show fX7_rows_L4 (nI m) (fun x101 => some x101) fu (nI 1) (0 : Int32) = _ from rows_L m (by omega) _ m 0 fu 1 (by omega) (fu_gt (by omega)), Nat.one_mul]
theorem many_L {m : Nat} (hm : m < 2147483648) {S : Sv} (hS : S.2.2.2.1 = nI m) (kx : Int32 → Option Int32) : ∀ (j i f x : Nat), i + j = m → j < f → fX3_howMany_L4 S kx f (nI x) (nI i) = kx (nI (x * 5 ^ j)) := by
  intro j
  induction j with
  | zero =>
    intro i f x hi hf
    obtain ⟨f, rfl⟩ : ∃ q, f = q + 1 := ⟨f - 1, by omega⟩
    rw [fX3_howMany_L4, hS, if_pos (nI_le (by omega) (by omega)), Nat.pow_zero, Nat.mul_one]
  | succ j ih =>
    intro i f x hi hf
    obtain ⟨f, rfl⟩ : ∃ q, f = q + 1 := ⟨f - 1, by omega⟩
    rw [fX3_howMany_L4, hS, if_neg (nle (by omega) (by omega)), show nI x * (5 : Int32) = nI (x * 5) from pk_mul x 5, show nI i + (1 : Int32) = nI (i + 1) from nI_1 i, ih (i + 1) f (x * 5) (by omega) (by omega), Nat.pow_succ, Nat.mul_assoc, Nat.mul_comm 5]
theorem many_v {m : Nat} (hm : m < 6) {S : Sv} (hS : S.2.2.2.1 = nI m) : fX3_howMany S = some (nI (5 ^ m)) := by
  unfold fX3_howMany
  rw [show (1 : Int32) = nI 1 from rfl, show fX3_howMany_L4 S (fun x101 => some x101) fu (nI 1) (0 : Int32) = _ from many_L (by omega) hS _ m 0 fu 1 (by omega) (fu_gt (by omega)), Nat.one_mul]
theorem sgn_v {m r i : Nat} (hm : m < 6) (hr : r < 5 ^ m) (hi : i < m) : fX7_signOf (nI r) (nI m) (nI i) = some (nI (sgn m r i)) := by
  have h5 := p5 hm
  have h6 := p5 (m := m - 1 - i) (by omega)
  have h7 : 0 < 5 ^ (m - 1 - i) := Nat.pow_pos (by omega)
  have h8 : r / 5 ^ (m - 1 - i) ≤ r := Nat.div_le_self _ _
  unfold fX7_signOf sgn
  rw [nI_sub1 (by omega), pk_sub (a := m - 1) (b := i) (by omega), rows_v (by omega), o1_v]
  unfold nz
  rw [if_neg (nI_ne0 h7 (by omega)), pk_div (by omega) h7 (by omega)]
  exact congrArg some (pk_rem (d := 5) (by omega) (by omega) (by omega))
/-- the model's hours of a row -/
theorem goes_L {n k m r : Nat} (hn : n < 9) (hm : m < 6) (hr : r < 5 ^ m) {R0 : Rf} {now0 : Nat → Int32} (h : SM n 0 0 R0 now0) (hci : CI k now0) (kx : (Nat → Int32) → Option (Nat → Int32)) : ∀ (j i f : Nat), i + j = m → j < f → fX7_rainGoes_L2 (nI r) (nI m) kx f (trS now0 (sgn m r) i) (nI i) = kx (trS now0 (sgn m r) m) := by
  intro j
  induction j with
  | zero =>
    intro i f hi hf
    obtain ⟨f, rfl⟩ : ∃ q, f = q + 1 := ⟨f - 1, by omega⟩
    have e : i = m := by omega
    subst e
    rw [fX7_rainGoes_L2, if_pos (nI_le (by omega) (by omega))]
  | succ j ih =>
    intro i f hi hf
    obtain ⟨f, rfl⟩ : ∃ q, f = q + 1 := ⟨f - 1, by omega⟩
    obtain ⟨R1, g1, g2, g3⟩ := trS_v hn h hci (sgn_lt m r) i
    obtain ⟨R2, -, f0, f1, f2, f3⟩ := hrS_v hn g1 g2 (sgn_lt m r i)
    rw [fX7_rainGoes_L2, if_neg (nle (by omega) (by omega)), sgn_v hm hr (by omega), o1_v, ← ih (i + 1) f (by omega) (by omega), show nI i + (1 : Int32) = nI (i + 1) from nI_1 i, trS]
    by_cases q : sgn m r i = 0
    · rw [if_pos (show nI (sgn m r i) = 0 by rw [q]; rfl)]
      have f0' : fX7_hour (trS now0 (sgn m r) i) (0 : Int32) (0 : Int32) = some (if opB (hrS (trS now0 (sgn m r) i) (sgn m r i)) k then 1 else 0, hrS (trS now0 (sgn m r) i) (sgn m r i)) := by
        rw [← f0]
        rw [show amS (sgn m r i) = 0 from if_pos q, q]
        rfl
      rw [f0', o2_v]
    · rw [if_neg (nI_ne0 (by omega) (by have := sgn_lt m r i; omega)), nI_sub1 (by omega)]
      have f0' : fX7_hour (trS now0 (sgn m r) i) (nI (sgn m r i - 1)) (3 : Int32) = some (if opB (hrS (trS now0 (sgn m r) i) (sgn m r i)) k then 1 else 0, hrS (trS now0 (sgn m r) i) (sgn m r i)) := by
        rw [← f0, show amS (sgn m r i) = 3 from if_neg q]
      rw [f0', o2_v]
theorem goes_v {n k m r : Nat} (hn : n < 9) (hm : m < 6) (hr : r < 5 ^ m) {R0 : Rf} {now0 : Nat → Int32} (h : SM n 0 0 R0 now0) (hci : CI k now0) : fX7_rainGoes now0 (nI r) (nI m) = some (trS now0 (sgn m r) m) := by
  unfold fX7_rainGoes
  exact goes_L hn hm hr h hci (fun now111 => some now111) m 0 fu (by omega) (fu_gt (by omega))
/-- whether row r of m hours opens it -/
def opR (now : Nat → Int32) (k m r : Nat) : Bool := opB (trS now (sgn m r) m) k
theorem opens_v {n k m r : Nat} (hn : n < 9) (hm : m < 6) (hr : r < 5 ^ m) {R0 : Rf} {now0 : Nat → Int32} (h : SM n 0 0 R0 now0) (hci : CI k now0) : fX7_opens now0 now0 (nI r) (nI m) = some (if opR now0 k m r then 1 else 0, now0) := by
  obtain ⟨R1, g1, g2, g3⟩ := trS_v hn h hci (sgn_lt m r) m
  unfold fX7_opens opR
  rw [goes_v hn hm hr h hci, o1_v, op7_v hn g1 g2, o1_v, back_v, o2_v]
  by_cases q : opB (trS now0 (sgn m r) m) k = true
  · rw [if_pos q, if_pos rfl]
  · rw [if_neg q, if_neg (by decide)]
/-! ===== the survey's rain ===== -/
theorem pr_a {m r : Nat} (hm : m < 6) (hr : r < 5 ^ m) (f0 : Nat → Int32) (s2 : (Nat → Int32) × (Nat → Int32) × Int32 × Int32 × Int32 × Int32) (kx : Sv → Int32 → Option (Sv × Rf)) : ∀ (j f ch : Nat) (f1 : Nat → Int32), j ≤ m → j < f → j ≤ ch → ch ≤ m → (∀ i, j ≤ i → i < m → f1 i = nI (sgn m r i)) → (∀ i, i < j → f1 i = f0 i) → (∀ i, j ≤ i → i < ch → f0 i = nI (sgn m r i)) → (r = 0 → ch = j) → ∃ f1' ch', fX3_passRain_L15 (nI r) kx f (f1, s2) (nI ch) (nI (r / 5 ^ (m - j))) (nI j - 1) = kx (f1', s2) (nI ch') ∧ ch' ≤ m ∧ (∀ i, i < m → f1' i = nI (sgn m r i)) ∧ (∀ i, i < ch' → f0 i = nI (sgn m r i)) ∧ (r = 0 → ch' = 0) := by
  have h5 := p5 hm
  intro j
  induction j with
  | zero =>
    intro f ch f1 hj hf hc1 hc2 a1 a2 a3 a4
    obtain ⟨f, rfl⟩ : ∃ q, f = q + 1 := ⟨f - 1, by omega⟩
    exact ⟨f1, ch, by rw [fX3_passRain_L15, if_pos (show (nI 0 - 1 : Int32) < 0 by decide)], hc2, fun i hi => a1 i (Nat.zero_le i) hi, fun i hi => a3 i (Nat.zero_le i) hi, a4⟩
  | succ j ih =>
    intro f ch f1 hj hf hc1 hc2 a1 a2 a3 a4
    obtain ⟨f, rfl⟩ : ∃ q, f = q + 1 := ⟨f - 1, by omega⟩
    have h8 : r / 5 ^ (m - (j + 1)) ≤ r := Nat.div_le_self _ _
    have eS : nI (r / 5 ^ (m - (j + 1))) - nI (r / 5 ^ (m - (j + 1))) / (5 : Int32) * (5 : Int32) = nI (sgn m r j) := by
      refine (pk_rem (d := 5) (by omega) (by omega) (by omega)).trans ?_
      unfold sgn
      rw [show m - 1 - j = m - (j + 1) by omega]
    have eD : nI (r / 5 ^ (m - (j + 1))) / (5 : Int32) = nI (r / 5 ^ (m - j)) := by
      refine (pk_div (d := 5) (by omega) (by omega) (by omega)).trans ?_
      rw [Nat.div_div_eq_div_mul, show m - j = m - (j + 1) + 1 by omega, Nat.pow_succ]
    have hm1 : nI j + (-1 : Int32) = nI j - 1 := (Int32.sub_eq_add_neg _ _).symm
    rw [fX3_passRain_L15, nI_pred, if_neg (nI_pos (n := j) (by omega)), eS, eD, hm1]
    have up1 : ∀ i, j ≤ i → i < m → upd f1 j (nI (sgn m r j)) i = nI (sgn m r i) := fun i h1 h2 => by
      by_cases q : i = j
      · subst q; exact up_s
      · rw [up_n q]; exact a1 i (by omega) h2
    have up2 : ∀ i, i < j → upd f1 j (nI (sgn m r j)) i = f0 i := fun i h1 => by
      rw [up_n (by omega)]; exact a2 i (by omega)
    by_cases q0 : r = 0
    · rw [if_pos (show nI r = 0 by rw [q0]; rfl), put_v _ _ (by omega) (by omega), o1_v]
      exact ih f j _ (by omega) (by omega) (Nat.le_refl j) (by omega) up1 up2 (fun i h1 h2 => absurd h1 (by omega)) (fun _ => rfl)
    · rw [if_neg (nI_ne0 (by omega) (by omega)), at_v _ (by omega) (by omega), o1_v]
      by_cases q1 : nI (sgn m r j) = f1 j
      · rw [if_pos q1]
        refine ih f ch f1 (by omega) (by omega) (by omega) hc2 (fun i h1 h2 => ?_) (fun i h1 => a2 i (by omega)) (fun i h1 h2 => ?_) (fun z => absurd z q0)
        · by_cases q : i = j
          · subst q; exact q1.symm
          · exact a1 i (by omega) h2
        · by_cases q : i = j
          · subst q
            rw [← a2 i (by omega)]
            exact q1.symm
          · exact a3 i (by omega) h2
      · rw [if_neg q1, put_v _ _ (by omega) (by omega), o1_v]
        exact ih f j _ (by omega) (by omega) (Nat.le_refl j) (by omega) up1 up2 (fun i h1 h2 => absurd h1 (by omega)) (fun z => absurd z q0)
theorem side_n {g : Nat} (hg : g < 5) : fX6_sideOf (nI g) = some (nI (g - 1)) := by
  rw [side6_v]
  by_cases q : g = 0
  · subst q
    rw [if_pos (by decide)]
    rfl
  · rw [if_neg (show ¬ nI g ≤ (0 : Int32) from nle (b := g) (a := 0) (by omega) (by omega)), nI_sub1 (by omega)]
theorem pr_b {n k m : Nat} (hn : n < 9) (hm : m < 6) {now0 : Nat → Int32} {dg : Nat → Nat} (hd : ∀ i, dg i < 5) (f1 : Nat → Int32) (hf1 : ∀ i, i < m → f1 i = nI (dg i)) (s3 : (Nat → Int32) × Int32 × Int32 × Int32 × Int32) (hs3 : s3.2.1 = nI m) (kx : Sv → Rf → Option (Sv × Rf)) : ∀ (j i f : Nat) (d e : Int32) (R : Rf) (f2 : Nat → Int32), i + j = m → j < f → SM n d e R (trS now0 dg i) → CI k (trS now0 dg i) → (∀ t, t ≤ i → ∀ c, c < n → f2 (8 * t + c) = trS now0 dg t (16 + 10 * c + 2)) → ∃ f2' R', fX3_passRain_L85 kx f (f1, f2, s3) R (nI i) = kx (f1, f2', s3) R' ∧ SM n d e R' (trS now0 dg m) ∧ (∀ t, t ≤ m → ∀ c, c < n → f2' (8 * t + c) = trS now0 dg t (16 + 10 * c + 2)) := by
  intro j
  induction j with
  | zero =>
    intro i f d e R f2 hi hf h hci hl
    obtain ⟨f, rfl⟩ : ∃ q, f = q + 1 := ⟨f - 1, by omega⟩
    have e : i = m := by omega
    subst e
    exact ⟨f2, R, by rw [fX3_passRain_L85, if_pos (show s3.2.1 ≤ nI i by rw [hs3]; exact nI_le (by omega) (by omega))], h, hl⟩
  | succ j ih =>
    intro i f d e R f2 hi hf h hci hl
    obtain ⟨f, rfl⟩ : ∃ q, f = q + 1 := ⟨f - 1, by omega⟩
    obtain ⟨R1, e1, -, h1, c1, k1⟩ := hrS_v hn h hci (hd i)
    obtain ⟨g', e2, z1, z2⟩ := keep_v (N := 48) (b := 8 * (i + 1)) hn (by omega) (by omega) h1.n2 f2
    obtain ⟨f2', R', w1, w2, w3⟩ := ih (i + 1) f d e R1 g' (by omega) (by omega) h1 c1 (fun t ht c hc => by
      by_cases q : t = i + 1
      · subst q
        rw [z1 c hc]
        exact h1.fl (by omega) (by omega)
      · rw [z2 _ (by omega)]
        exact hl t (by omega) c hc)
    refine ⟨f2', R', ?_, w2, w3⟩
    rw [← w1, fX3_passRain_L85, if_neg (show ¬ s3.2.1 ≤ nI i by rw [hs3]; exact nle (by omega) (by omega)), at_v _ (by omega) (by omega), o1_v, show ((f1, f2, s3) : Sv).1 i = nI (dg i) from hf1 i (by omega), side_n (hd i), o1_v, show nI i + (1 : Int32) = nI (i + 1) from nI_1 i, m8]
    have e2' : fX1_keepLevels R1 48 ((f1, f2, s3) : Sv).2.1 (nI (8 * (i + 1))) = some g' := e2
    by_cases q : dg i = 0
    · rw [if_pos (show nI (dg i) = 0 by rw [q]; rfl)]
      rw [show amS (dg i) = 0 from if_pos q] at e1
      rw [e1, o1_v, e2', o1_v] <;> rfl
    · rw [if_neg (nI_ne0 (by omega) (by have := hd i; omega))]
      rw [show amS (dg i) = 3 from if_neg q] at e1
      rw [e1, o1_v, e2', o1_v] <;> rfl
/-- a rain of the survey: the trial roof stands as after it, the levels on its way are kept -/
theorem pass_v {n k m r : Nat} (hn : n < 9) (hm : m < 6) (hr : r < 5 ^ m) {R0 : Rf} {now0 nowX : Nat → Int32} (h0 : SM n 0 0 R0 now0) (hci : CI k now0) {S : Sv} {R : Rf} {d e : Int32} (hX : SM n d e R nowX) (kX : Kp n now0 nowX) (hh : S.2.2.2.1 = nI m) {dg : Nat → Nat} (hlev : ∀ t, t ≤ m → (r = 0 → t = 0) → ∀ c, c < n → S.2.1 (8 * t + c) = trS now0 dg t (16 + 10 * c + 2)) (hsg : r ≠ 0 → ∀ i, i < m → S.1 i = nI (dg i)) (hd : ∀ i, dg i < 5) : ∃ f1 f2 R' d' e', fX3_passRain S R (nI r) = some ((f1, f2, S.2.2), R') ∧ (∀ i, i < m → f1 i = nI (sgn m r i)) ∧ (∀ t, t ≤ m → ∀ c, c < n → f2 (8 * t + c) = trS now0 (sgn m r) t (16 + 10 * c + 2)) ∧ SM n d' e' R' (trS now0 (sgn m r) m) := by
  have h5 := p5 hm
  obtain ⟨f1, ch, e1, hch, a1, a2, a3⟩ := pr_a hm hr S.1 S.2 (fun S107 x108 => o1 (fX1_takeLevels R 48 S107.2.1 (x108 * (8 : Int32))) (fun R109 => fX3_passRain_L85 (fun S122 R123 => some (S122, R123)) fu S107 R109 x108)) m fu m S.1 (Nat.le_refl m) (fu_gt (by omega)) (Nat.le_refl m) (Nat.le_refl m) (fun i h1 h2 => absurd h1 (by omega)) (fun _ _ => rfl) (fun i h1 h2 => absurd h1 (by omega)) (fun _ => rfl)
  have hx : ∀ t, t ≤ ch → trS now0 dg t = trS now0 (sgn m r) t := fun t ht => trS_x now0 t (fun i hi => by
    by_cases q : r = 0
    · have := a3 q
      omega
    · have q1 := a2 i (by omega)
      rw [hsg q i (by omega)] at q1
      exact (nI_eq (by have := hd i; omega) (by have := sgn_lt m r i; omega)).mp q1)
  have hl2 : ∀ t, t ≤ ch → ∀ c, c < n → S.2.1 (8 * t + c) = trS now0 (sgn m r) t (16 + 10 * c + 2) := fun t ht c hc => by
    rw [← hx t ht]
    exact hlev t (by omega) (fun z => by have := a3 z; omega) c hc
  obtain ⟨Rc, g1, g2, g3⟩ := trS_v hn h0 hci (sgn_lt m r) ch
  obtain ⟨r', e2, z1, z2⟩ := take_v (N := 48) (b := 8 * ch) hn (by omega) (by omega) S.2.1 hX.n2
  obtain ⟨d1, e3, h1⟩ := hX.lv hn (kX.vs g3) (r := r') (fun c hc => by rw [z1 c hc]; exact hl2 ch (Nat.le_refl ch) c hc) z2
  obtain ⟨f2', R', w1, w2, w3⟩ := pr_b (k := k) hn hm (now0 := now0) (sgn_lt m r) f1 a1 S.2.2 hh (fun S122 R123 => some (S122, R123)) (m - ch) ch fu d1 e3 (r', R.2) S.2.1 (by omega) (fu_gt (by omega)) h1 g2 hl2
  refine ⟨f1, f2', R', d1, e3, ?_, a1, w3, w2⟩
  unfold fX3_passRain
  rw [Nat.sub_self, Nat.pow_zero, Nat.div_one] at e1
  rw [hh]
  refine e1.trans ?_
  show o1 (fX1_takeLevels R 48 S.2.1 (nI ch * (8 : Int32))) (fun R109 => fX3_passRain_L85 (fun S122 R123 => some (S122, R123)) fu (f1, S.2) R109 (nI ch)) = _
  rw [m8, e2, o1_v]
  exact w1
