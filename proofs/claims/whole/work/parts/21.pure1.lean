/-! ===== the two roofs side by side ===== -/
/-- roof R and row now hold the same; HOUR and what ran off differ by e and d -/
def SM (n : Nat) (d e : Int32) (R : Rf) (now : Nat → Int32) : Prop :=
  (now 2 = nI n ∧ R.2.2.2.1 = nI n) ∧ (∀ c, c < 8 → ∃ k, k < 7 ∧ now (16 + 10 * c) = nI k) ∧ ((now 1 = 0 ∨ now 1 = 1) ∧ R.2.2.2.2.2.1 = now 1) ∧
  (∀ c, c < 8 → (∀ f, f < 6 → R.1 (11 * c + f) = now (16 + 10 * c + f)) ∧ ∀ f, f < 4 → R.1 (11 * c + 7 + f) = now (16 + 10 * c + 6 + f)) ∧
  (∀ i, i < 24 → R.2.1 i = now (96 + i)) ∧ (∀ i, i < 10 → R.2.2.1 i = now (6 + i)) ∧ R.2.2.2.2.1 = now 3 ∧ R.2.2.2.2.2.2.2.2 = now 5 ∧ R.2.2.2.2.2.2.2.1 = now 4 + d ∧ R.2.2.2.2.2.2.1 = now 0 + e
theorem SM.n1 {n : Nat} {d e : Int32} {R : Rf} {now : Nat → Int32} (h : SM n d e R now) : now 2 = nI n := h.1.1
theorem SM.n2 {n : Nat} {d e : Int32} {R : Rf} {now : Nat → Int32} (h : SM n d e R now) : R.2.2.2.1 = nI n := h.1.2
theorem SM.kd {n : Nat} {d e : Int32} {R : Rf} {now : Nat → Int32} (h : SM n d e R now) {c : Nat} (hc : c < 8) : ∃ k, k < 7 ∧ now (16 + 10 * c) = nI k ∧ R.1 (11 * c) = nI k := by
  obtain ⟨k, hk, e1⟩ := h.2.1 c hc
  exact ⟨k, hk, e1, by rw [← e1]; exact (h.2.2.2.1 c hc).1 0 (by omega)⟩
theorem SM.fl {n : Nat} {d e : Int32} {R : Rf} {now : Nat → Int32} (h : SM n d e R now) {c f : Nat} (hc : c < 8) (hf : f < 6) : R.1 (11 * c + f) = now (16 + 10 * c + f) := (h.2.2.2.1 c hc).1 f hf
theorem SM.ca {n : Nat} {d e : Int32} {R : Rf} {now : Nat → Int32} (h : SM n d e R now) {c f : Nat} (hc : c < 8) (hf : f < 4) : R.1 (11 * c + 7 + f) = now (16 + 10 * c + 6 + f) := (h.2.2.2.1 c hc).2 f hf
theorem SM.co {n : Nat} {d e : Int32} {R : Rf} {now : Nat → Int32} (h : SM n d e R now) : R.2.2.2.2.2.1 = now 1 := h.2.2.1.2
theorem SM.c01 {n : Nat} {d e : Int32} {R : Rf} {now : Nat → Int32} (h : SM n d e R now) : R.2.2.2.2.2.1 = 0 ∨ R.2.2.2.2.2.1 = 1 := by rw [h.co]; exact h.2.2.1.1
theorem SM.cd {n : Nat} {d e : Int32} {R : Rf} {now : Nat → Int32} (h : SM n d e R now) {i : Nat} (hi : i < 24) : R.2.1 i = now (96 + i) := h.2.2.2.2.1 i hi
theorem SM.sp {n : Nat} {d e : Int32} {R : Rf} {now : Nat → Int32} (h : SM n d e R now) {i : Nat} (hi : i < 10) : R.2.2.1 i = now (6 + i) := h.2.2.2.2.2.1 i hi
theorem SM.cn {n : Nat} {d e : Int32} {R : Rf} {now : Nat → Int32} (h : SM n d e R now) : R.2.2.2.2.1 = now 3 := h.2.2.2.2.2.2.1
theorem SM.zz {n : Nat} {d e : Int32} {R : Rf} {now : Nat → Int32} (h : SM n d e R now) : R.2.2.2.2.2.2.2.2 = now 5 := h.2.2.2.2.2.2.2.1
theorem SM.of {n : Nat} {d e : Int32} {R : Rf} {now : Nat → Int32} (h : SM n d e R now) : R.2.2.2.2.2.2.2.1 = now 4 + d := h.2.2.2.2.2.2.2.2.1
theorem SM.ho {n : Nat} {d e : Int32} {R : Rf} {now : Nat → Int32} (h : SM n d e R now) : R.2.2.2.2.2.2.1 = now 0 + e := h.2.2.2.2.2.2.2.2.2
/-- a place of a row that isn't written -/
theorem up_n {f : Nat → Int32} {k j : Nat} {x : Int32} (h : j ≠ k) : upd f k x j = f j := if_neg h
theorem up_s {f : Nat → Int32} {k : Nat} {x : Int32} : upd f k x k = x := if_pos rfl
/-- a level, a leak, a gutter, a cloth is written (field w, 1 to 5) -/
theorem SM.set {n : Nat} {d e : Int32} {R : Rf} {now : Nat → Int32} (h : SM n d e R now) {c w : Nat} (hc : c < 8) (h1 : 1 ≤ w) (hw : w < 6) (x : Int32) : SM n d e (upd R.1 (11 * c + w) x, R.2) (upd now (16 + 10 * c + w) x) := by
  obtain ⟨⟨a1, a2⟩, a3, ⟨a4, a5⟩, a6, a7, a8, a9, a10, a11, a12⟩ := h
  refine ⟨⟨by rw [up_n (by omega)]; exact a1, a2⟩, fun c' hc' => ?_, ⟨by rw [up_n (by omega)]; exact a4, by rw [up_n (by omega)]; exact a5⟩, fun c' hc' => ⟨fun f hf => ?_, fun f hf => ?_⟩, fun i hi => ?_, fun i hi => ?_, by rw [up_n (by omega)]; exact a9, by rw [up_n (by omega)]; exact a10, by rw [up_n (by omega)]; exact a11, by rw [up_n (by omega)]; exact a12⟩
  · obtain ⟨k, hk, e1⟩ := a3 c' hc'
    exact ⟨k, hk, by rw [up_n (by omega)]; exact e1⟩
  · by_cases q : c' = c ∧ f = w
    · obtain ⟨rfl, rfl⟩ := q
      rw [up_s]
      exact up_s
    · rw [up_n (by omega)]
      show upd R.1 (11 * c + w) x (11 * c' + f) = _
      rw [up_n (by omega)]
      exact (a6 c' hc').1 f hf
  · rw [up_n (by omega)]
    show upd R.1 (11 * c + w) x (11 * c' + 7 + f) = _
    rw [up_n (by omega)]
    exact (a6 c' hc').2 f hf
  · rw [up_n (by omega)]
    exact a7 i hi
  · rw [up_n (by omega)]
    exact a8 i hi
/-- water runs off the roof -/
theorem SM.off {n : Nat} {d e : Int32} {R : Rf} {now : Nat → Int32} (h : SM n d e R now) (x : Int32) : SM n d e (R.1, R.2.1, R.2.2.1, R.2.2.2.1, R.2.2.2.2.1, R.2.2.2.2.2.1, R.2.2.2.2.2.2.1, (R.2.2.2.2.2.2.2.1 + x), R.2.2.2.2.2.2.2.2) (upd now 4 (now 4 + x)) := by
  obtain ⟨⟨a1, a2⟩, a3, ⟨a4, a5⟩, a6, a7, a8, a9, a10, a11, a12⟩ := h
  refine ⟨⟨by rw [up_n (by omega)]; exact a1, a2⟩, fun c' hc' => ?_, ⟨by rw [up_n (by omega)]; exact a4, by rw [up_n (by omega)]; exact a5⟩, fun c' hc' => ⟨fun f hf => by rw [up_n (by omega)]; exact (a6 c' hc').1 f hf, fun f hf => by rw [up_n (by omega)]; exact (a6 c' hc').2 f hf⟩, fun i hi => by rw [up_n (by omega)]; exact a7 i hi, fun i hi => by rw [up_n (by omega)]; exact a8 i hi, by rw [up_n (by omega)]; exact a9, by rw [up_n (by omega)]; exact a10, ?_, by rw [up_n (by omega)]; exact a12⟩
  · obtain ⟨k, hk, e1⟩ := a3 c' hc'
    exact ⟨k, hk, by rw [up_n (by omega)]; exact e1⟩
  · show R.2.2.2.2.2.2.2.1 + x = upd now 4 (now 4 + x) 4 + d
    rw [up_s, a11, Int32.add_assoc, Int32.add_assoc, Int32.add_comm d x]
/-- an hour more -/
theorem SM.hour {n : Nat} {d e : Int32} {R : Rf} {now : Nat → Int32} (h : SM n d e R now) : SM n d e (R.1, R.2.1, R.2.2.1, R.2.2.2.1, R.2.2.2.2.1, R.2.2.2.2.2.1, (R.2.2.2.2.2.2.1 + 1), R.2.2.2.2.2.2.2.1, R.2.2.2.2.2.2.2.2) (upd now 0 (now 0 + 1)) := by
  obtain ⟨⟨a1, a2⟩, a3, ⟨a4, a5⟩, a6, a7, a8, a9, a10, a11, a12⟩ := h
  refine ⟨⟨by rw [up_n (by omega)]; exact a1, a2⟩, fun c' hc' => ?_, ⟨by rw [up_n (by omega)]; exact a4, by rw [up_n (by omega)]; exact a5⟩, fun c' hc' => ⟨fun f hf => by rw [up_n (by omega)]; exact (a6 c' hc').1 f hf, fun f hf => by rw [up_n (by omega)]; exact (a6 c' hc').2 f hf⟩, fun i hi => by rw [up_n (by omega)]; exact a7 i hi, fun i hi => by rw [up_n (by omega)]; exact a8 i hi, by rw [up_n (by omega)]; exact a9, by rw [up_n (by omega)]; exact a10, by rw [up_n (by omega)]; exact a11, ?_⟩
  · obtain ⟨k, hk, e1⟩ := a3 c' hc'
    exact ⟨k, hk, by rw [up_n (by omega)]; exact e1⟩
  · show R.2.2.2.2.2.2.1 + 1 = upd now 0 (now 0 + 1) 0 + e
    rw [up_s, a12, Int32.add_assoc, Int32.add_assoc, Int32.add_comm e 1]
/-- all but levels and what ran off is as before; HOUR neither -/
def Kq (n : Nat) (now now' : Nat → Int32) : Prop := ∀ i, i < 120 → i ≠ 4 → (∀ c, c < n → i ≠ 16 + 10 * c + 2) → now' i = now i
def Kp (n : Nat) (now now' : Nat → Int32) : Prop := ∀ i, i < 120 → i ≠ 0 → i ≠ 4 → (∀ c, c < n → i ≠ 16 + 10 * c + 2) → now' i = now i
theorem Kq.rf {n : Nat} (now : Nat → Int32) : Kq n now now := fun _ _ _ _ => rfl
theorem Kq.tr {n : Nat} {a b c : Nat → Int32} (h : Kq n a b) (h2 : Kq n b c) : Kq n a c := fun i h1 h3 h4 => (h2 i h1 h3 h4).trans (h i h1 h3 h4)
theorem Kq.lv {n : Nat} {now : Nat → Int32} {c : Nat} (hc : c < n) (x : Int32) : Kq n now (upd now (16 + 10 * c + 2) x) := fun i _ _ h => up_n (h c hc)
theorem Kq.of {n : Nat} (now : Nat → Int32) (x : Int32) : Kq n now (upd now 4 x) := fun i _ h _ => up_n h
theorem Kp.rf {n : Nat} (now : Nat → Int32) : Kp n now now := fun _ _ _ _ _ => rfl
theorem Kp.tr {n : Nat} {a b c : Nat → Int32} (h : Kp n a b) (h2 : Kp n b c) : Kp n a c := fun i h1 h3 h4 h5 => (h2 i h1 h3 h4 h5).trans (h i h1 h3 h4 h5)
theorem Kq.ho {n : Nat} {now now' : Nat → Int32} (h : Kq n now now') (x : Int32) : Kp n now (upd now' 0 x) := fun i h1 h2 h3 h4 => (up_n h2).trans (h i h1 h3 h4)
theorem nsub (a b : Int32) : a + -b = a - b := (Int32.sub_eq_add_neg a b).symm
theorem at2 (c : Nat) : fX7_at (nI c) (2 : Int32) = some (nI (16 + 10 * c + 2)) := at7_v c 2
/-- the first loop: what comes in -/
theorem hr_a {n : Nat} (hn : n < 9) {s : Nat} (hs : s < 4) (am d e : Int32) (kx : Rf → Option Rf) (kx' : (Nat → Int32) → Option (Int32 × (Nat → Int32))) : ∀ (j i k k' : Nat) (R : Rf) (now : Nat → Int32), i + j = n → j < k → j < k' → SM n d e R now → ∃ R' now', fX1_passHour_L2 (nI s) am kx k R (nI i) = kx R' ∧ fX7_hour_L2 (nI s) am kx' k' now (nI i) = kx' now' ∧ SM n d e R' now' ∧ Kq n now now' := by
  intro j
  induction j with
  | zero =>
    intro i k k' R now hi hk hk' h
    obtain ⟨k, rfl⟩ : ∃ q, k = q + 1 := ⟨k - 1, by omega⟩
    obtain ⟨k', rfl⟩ : ∃ q, k' = q + 1 := ⟨k' - 1, by omega⟩
    refine ⟨R, now, ?_, ?_, h, Kq.rf _⟩
    · rw [fX1_passHour_L2, h.n2, if_pos (nI_le (by omega) (by omega))]
    · rw [fX7_hour_L2, show rd now 120 (2 : Int32) _ = _ from rd_v now (i := 2) _ (by omega) (by omega), h.n1, if_pos (nI_le (by omega) (by omega))]
  | succ j ih =>
    intro i k k' R now hi hk hk' h
    obtain ⟨k, rfl⟩ : ∃ q, k = q + 1 := ⟨k - 1, by omega⟩
    obtain ⟨k', rfl⟩ : ∃ q, k' = q + 1 := ⟨k' - 1, by omega⟩
    have hc : i < 8 := by omega
    obtain ⟨kd, hkd, e1, e2⟩ := h.kd hc
    have hca : caS kd (R.1 (11 * i + 5)) R.2.2.2.2.2.1 (R.1 (11 * i + 7 + s)) am = caS kd (now (16 + 10 * i + 5)) (now 1) (now (16 + 10 * i + 6 + s)) am := by rw [h.fl hc (by omega), h.co, h.ca hc hs]
    obtain ⟨R', now', g1, g2, g3, g4⟩ := ih (i + 1) k k' _ _ (by omega) (by omega) (by omega) (h.set hc (w := 2) (by omega) (by omega) (now (16 + 10 * i + 2) + caS kd (now (16 + 10 * i + 5)) (now 1) (now (16 + 10 * i + 6 + s)) am))
    refine ⟨R', now', ?_, ?_, g3, (Kq.lv (show i < n by omega) _).tr g4⟩
    · rw [← g1, fX1_passHour_L2, if_neg (show ¬ R.2.2.2.1 ≤ nI i by rw [h.n2]; exact nle (by omega) (by omega)), caught_v hc hkd e2 hs h.c01, o1_v, raise_v R _ hc, o1_v, hca, h.fl hc (by omega)]
      exact congrArg _ (nI_1 i)
    · rw [← g2, fX7_hour_L2, show rd now 120 (2 : Int32) _ = _ from rd_v now (i := 2) _ (by omega) (by omega), h.n1, if_neg (nle (by omega) (by omega)), at2, o1_v, rd_v now _ (by omega) (by omega), comes_v hc hkd e1 hs, o1_v, wr_v now _ _ (by omega) (by omega)]
      exact congrArg _ (nI_1 i)
theorem runOver_v {n : Nat} {R : Rf} {i : Nat} (hc : i < 8) (hn : n < 9) (h : R.2.2.2.1 = nI n) (x : Int32) : fX1_runOver R (nI i) x = (if gtS n i (R.1 (11 * i + 4)) < 0 then some (upd R.1 (11 * i + 2) (R.1 (11 * i + 2) - x), R.2.1, R.2.2.1, R.2.2.2.1, R.2.2.2.2.1, R.2.2.2.2.2.1, R.2.2.2.2.2.2.1, (R.2.2.2.2.2.2.2.1 + x), R.2.2.2.2.2.2.2.2) else o1 (fX1_raise (upd R.1 (11 * i + 2) (R.1 (11 * i + 2) - x), R.2) (gtS n i (R.1 (11 * i + 4))) x) (fun R => some R)) := by
  unfold fX1_runOver
  rw [gutter_v hc hn h, o1_v, raise_v R _ hc, o1_v, nsub]
/-- the second loop: what runs over -/
theorem hr_b {n : Nat} (hn : n < 9) (d e : Int32) (kx : Rf → Option Rf) (kx' : (Nat → Int32) → Option (Int32 × (Nat → Int32))) : ∀ (j i k k' : Nat) (R : Rf) (now : Nat → Int32), i + j = n → j < k → j < k' → SM n d e R now → ∃ R' now', fX1_passHour_L30 kx k R (nI i) = kx R' ∧ fX7_hour_L40 kx' k' now (nI i) = kx' now' ∧ SM n d e R' now' ∧ Kq n now now' := by
  intro j
  induction j with
  | zero =>
    intro i k k' R now hi hk hk' h
    obtain ⟨k, rfl⟩ : ∃ q, k = q + 1 := ⟨k - 1, by omega⟩
    obtain ⟨k', rfl⟩ : ∃ q, k' = q + 1 := ⟨k' - 1, by omega⟩
    refine ⟨R, now, ?_, ?_, h, Kq.rf _⟩
    · rw [fX1_passHour_L30, h.n2, if_pos (nI_le (by omega) (by omega))]
    · rw [fX7_hour_L40, show rd now 120 (2 : Int32) _ = _ from rd_v now (i := 2) _ (by omega) (by omega), h.n1, if_pos (nI_le (by omega) (by omega))]
  | succ j ih =>
    intro i k k' R now hi hk hk' h
    obtain ⟨k, rfl⟩ : ∃ q, k = q + 1 := ⟨k - 1, by omega⟩
    obtain ⟨k', rfl⟩ : ∃ q, k' = q + 1 := ⟨k' - 1, by omega⟩
    have hc : i < 8 := by omega
    obtain ⟨kd, hkd, e1, e2⟩ := h.kd hc
    have hx : rnS kd (R.1 (11 * i + 1)) (R.1 (11 * i + 2)) = rnS kd (now (16 + 10 * i + 1)) (now (16 + 10 * i + 2)) := by rw [h.fl hc (by omega), h.fl hc (by omega)]
    generalize hX : rnS kd (now (16 + 10 * i + 1)) (now (16 + 10 * i + 2)) = X at hx
    have hg : gtS n i (R.1 (11 * i + 4)) = gtS n i (now (16 + 10 * i + 4)) := by rw [h.fl hc (by omega)]
    have h2 := h.set hc (w := 2) (by omega) (by omega) (now (16 + 10 * i + 2) - X)
    rcases gtS_or n i (now (16 + 10 * i + 4)) hn with q | ⟨t, ht, q⟩
    · obtain ⟨R', now', g1, g2, g3, g4⟩ := ih (i + 1) k k' _ _ (by omega) (by omega) (by omega) (h2.off X)
      refine ⟨R', now', ?_, ?_, g3, ((Kq.lv (show i < n by omega) _).tr (Kq.of _ _)).tr g4⟩
      · rw [← g1, fX1_passHour_L30, if_neg (show ¬ R.2.2.2.1 ≤ nI i by rw [h.n2]; exact nle (by omega) (by omega)), running_v hc hkd e2, o1_v, hx, runOver_v hc hn h.n2, hg, q, if_pos (by decide), o1_v, h.fl hc (by omega)]
        exact congrArg _ (nI_1 i)
      · rw [← g2, fX7_hour_L40, show rd now 120 (2 : Int32) _ = _ from rd_v now (i := 2) _ (by omega) (by omega), h.n1, if_neg (nle (by omega) (by omega)), runs_v hc hkd e1, o1_v, hX, leads_v hc hn h.n1, o1_v, q, at2, o1_v, rd_v now _ (by omega) (by omega), wr_v now _ _ (by omega) (by omega), if_neg (by decide), show rd (upd now (16 + 10 * i + 2) (now (16 + 10 * i + 2) - X)) 120 (4 : Int32) _ = _ from rd_v _ (i := 4) _ (by omega) (by omega), show wr (upd now (16 + 10 * i + 2) (now (16 + 10 * i + 2) - X)) 120 (4 : Int32) _ _ = _ from wr_v _ (i := 4) _ _ (by omega) (by omega)]
        exact congrArg _ (nI_1 i)
    · have ht8 : t < 8 := by omega
      obtain ⟨R', now', g1, g2, g3, g4⟩ := ih (i + 1) k k' _ _ (by omega) (by omega) (by omega) (h2.set ht8 (w := 2) (by omega) (by omega) (upd now (16 + 10 * i + 2) (now (16 + 10 * i + 2) - X) (16 + 10 * t + 2) + X))
      refine ⟨R', now', ?_, ?_, g3, ((Kq.lv (show i < n by omega) _).tr (Kq.lv ht _)).tr g4⟩
      · rw [← g1, fX1_passHour_L30, if_neg (show ¬ R.2.2.2.1 ≤ nI i by rw [h.n2]; exact nle (by omega) (by omega)), running_v hc hkd e2, o1_v, hx, runOver_v hc hn h.n2, hg, q, if_neg (nI_pos (n := t) (by omega)), h.fl hc (by omega), raise_v _ _ ht8, o1_v, o1_v, h2.fl ht8 (by omega)]
        exact congrArg _ (nI_1 i)
      · rw [← g2, fX7_hour_L40, show rd now 120 (2 : Int32) _ = _ from rd_v now (i := 2) _ (by omega) (by omega), h.n1, if_neg (nle (by omega) (by omega)), runs_v hc hkd e1, o1_v, hX, leads_v hc hn h.n1, o1_v, q, at2, o1_v, rd_v now _ (by omega) (by omega), wr_v now _ _ (by omega) (by omega), if_pos (nI_pos' (n := t) (by omega)), at2, o1_v, rd_v _ _ (by omega) (by omega), wr_v _ _ _ (by omega) (by omega)]
        exact congrArg _ (nI_1 i)
theorem spill_v {R : Rf} {i : Nat} (hc : i < 8) : fX1_spill R (nI i) = some (upd R.1 (11 * i + 2) (R.1 (11 * i + 2) - (if (0 : Int32) < R.1 (11 * i + 2) - R.1 (11 * i + 1) then R.1 (11 * i + 2) - R.1 (11 * i + 1) else 0)), R.2.1, R.2.2.1, R.2.2.2.1, R.2.2.2.2.1, R.2.2.2.2.2.1, R.2.2.2.2.2.2.1, (R.2.2.2.2.2.2.2.1 + (if (0 : Int32) < R.1 (11 * i + 2) - R.1 (11 * i + 1) then R.1 (11 * i + 2) - R.1 (11 * i + 1) else 0)), R.2.2.2.2.2.2.2.2) := by
  unfold fX1_spill
  rw [get_2 R hc, o1_v, get_1 R hc, o1_v, raise_v R _ hc, o1_v, nsub]
theorem hr_c {n : Nat} (hn : n < 9) (d e : Int32) (kx : Rf → Option Rf) (kx' : (Nat → Int32) → Option (Int32 × (Nat → Int32))) : ∀ (j i k k' : Nat) (R : Rf) (now : Nat → Int32), i + j = n → j < k → j < k' → SM n d e R now → ∃ R' now', fX1_passHour_L56 kx k R (nI i) = kx R' ∧ fX7_hour_L112 kx' k' now (nI i) = kx' now' ∧ SM n d e R' now' ∧ Kq n now now' := by
  intro j
  induction j with
  | zero =>
    intro i k k' R now hi hk hk' h
    obtain ⟨k, rfl⟩ : ∃ q, k = q + 1 := ⟨k - 1, by omega⟩
    obtain ⟨k', rfl⟩ : ∃ q, k' = q + 1 := ⟨k' - 1, by omega⟩
    refine ⟨R, now, ?_, ?_, h, Kq.rf _⟩
    · rw [fX1_passHour_L56, h.n2, if_pos (nI_le (by omega) (by omega))]
    · rw [fX7_hour_L112, show rd now 120 (2 : Int32) _ = _ from rd_v now (i := 2) _ (by omega) (by omega), h.n1, if_pos (nI_le (by omega) (by omega))]
  | succ j ih =>
    intro i k k' R now hi hk hk' h
    obtain ⟨k, rfl⟩ : ∃ q, k = q + 1 := ⟨k - 1, by omega⟩
    obtain ⟨k', rfl⟩ : ∃ q, k' = q + 1 := ⟨k' - 1, by omega⟩
    have hc : i < 8 := by omega
    have hx : (if (0 : Int32) < R.1 (11 * i + 2) - R.1 (11 * i + 1) then R.1 (11 * i + 2) - R.1 (11 * i + 1) else 0) = (if (0 : Int32) < now (16 + 10 * i + 2) - now (16 + 10 * i + 1) then now (16 + 10 * i + 2) - now (16 + 10 * i + 1) else 0) := by rw [h.fl hc (f := 2) (by omega), h.fl hc (f := 1) (by omega)]
    have h2 := (h.set hc (w := 2) (by omega) (by omega) (now (16 + 10 * i + 2) - (if (0 : Int32) < now (16 + 10 * i + 2) - now (16 + 10 * i + 1) then now (16 + 10 * i + 2) - now (16 + 10 * i + 1) else 0))).off (if (0 : Int32) < now (16 + 10 * i + 2) - now (16 + 10 * i + 1) then now (16 + 10 * i + 2) - now (16 + 10 * i + 1) else 0)
    obtain ⟨R', now', g1, g2, g3, g4⟩ := ih (i + 1) k k' _ _ (by omega) (by omega) (by omega) h2
    refine ⟨R', now', ?_, ?_, g3, ((Kq.lv (show i < n by omega) _).tr (Kq.of _ _)).tr g4⟩
    · rw [← g1, fX1_passHour_L56, if_neg (show ¬ R.2.2.2.1 ≤ nI i by rw [h.n2]; exact nle (by omega) (by omega)), spill_v hc, o1_v, hx, h.fl hc (f := 2) (by omega)]
      exact congrArg _ (nI_1 i)
    · rw [← g2, fX7_hour_L112, show rd now 120 (2 : Int32) _ = _ from rd_v now (i := 2) _ (by omega) (by omega), h.n1, if_neg (nle (by omega) (by omega)), cis_2 now hc, o1_v, cis_1 now hc, o1_v, at2, o1_v, rd_v now _ (by omega) (by omega), wr_v now _ _ (by omega) (by omega), show rd (upd now (16 + 10 * i + 2) _) 120 (4 : Int32) _ = _ from rd_v _ (i := 4) _ (by omega) (by omega), show wr (upd now (16 + 10 * i + 2) _) 120 (4 : Int32) _ _ = _ from wr_v _ (i := 4) _ _ (by omega) (by omega)]
      exact congrArg _ (nI_1 i)
theorem hr_d {n : Nat} (hn : n < 9) (d e : Int32) (kx : Rf → Option Rf) (kx' : (Nat → Int32) → Option (Int32 × (Nat → Int32))) : ∀ (j i k k' : Nat) (R : Rf) (now : Nat → Int32), i + j = n → j < k → j < k' → SM n d e R now → ∃ R' now', fX1_passHour_L77 kx k R (nI i) = kx R' ∧ fX7_hour_L175 kx' k' now (nI i) = kx' now' ∧ SM n d e R' now' ∧ Kq n now now' := by
  intro j
  induction j with
  | zero =>
    intro i k k' R now hi hk hk' h
    obtain ⟨k, rfl⟩ : ∃ q, k = q + 1 := ⟨k - 1, by omega⟩
    obtain ⟨k', rfl⟩ : ∃ q, k' = q + 1 := ⟨k' - 1, by omega⟩
    refine ⟨R, now, ?_, ?_, h, Kq.rf _⟩
    · rw [fX1_passHour_L77, h.n2, if_pos (nI_le (by omega) (by omega))]
    · rw [fX7_hour_L175, show rd now 120 (2 : Int32) _ = _ from rd_v now (i := 2) _ (by omega) (by omega), h.n1, if_pos (nI_le (by omega) (by omega))]
  | succ j ih =>
    intro i k k' R now hi hk hk' h
    obtain ⟨k, rfl⟩ : ∃ q, k = q + 1 := ⟨k - 1, by omega⟩
    obtain ⟨k', rfl⟩ : ∃ q, k' = q + 1 := ⟨k' - 1, by omega⟩
    have hc : i < 8 := by omega
    obtain ⟨kd, hkd, e1, e2⟩ := h.kd hc
    have hx : lkS kd R.2.2.2.2.2.1 (R.1 (11 * i + 3)) (R.1 (11 * i + 2)) = lkS kd (now 1) (now (16 + 10 * i + 3)) (now (16 + 10 * i + 2)) := by rw [h.fl hc (f := 2) (by omega), h.fl hc (f := 3) (by omega), h.co]
    obtain ⟨R', now', g1, g2, g3, g4⟩ := ih (i + 1) k k' _ _ (by omega) (by omega) (by omega) (h.set hc (w := 2) (by omega) (by omega) (now (16 + 10 * i + 2) - lkS kd (now 1) (now (16 + 10 * i + 3)) (now (16 + 10 * i + 2))))
    refine ⟨R', now', ?_, ?_, g3, (Kq.lv (show i < n by omega) _).tr g4⟩
    · rw [← g1, fX1_passHour_L77, if_neg (show ¬ R.2.2.2.1 ≤ nI i by rw [h.n2]; exact nle (by omega) (by omega)), leaked_v hc hkd e2 h.c01, o1_v, raise_v R _ hc, o1_v, nsub, hx, h.fl hc (f := 2) (by omega)]
      exact congrArg _ (nI_1 i)
    · rw [← g2, fX7_hour_L175, show rd now 120 (2 : Int32) _ = _ from rd_v now (i := 2) _ (by omega) (by omega), h.n1, if_neg (nle (by omega) (by omega)), at2, o1_v, rd_v now _ (by omega) (by omega), leaks_v hc hkd e1, o1_v, wr_v now _ _ (by omega) (by omega)]
      exact congrArg _ (nI_1 i)
theorem fu_gt {n : Nat} (h : n < 1000000) : n < fu := h
/-- an hour of rain, side by side -/
theorem hour_v {n : Nat} (hn : n < 9) {s : Nat} (hs : s < 4) (am d e : Int32) {R : Rf} {now : Nat → Int32} (h : SM n d e R now) : ∃ R' now', fX1_passHour R (nI s) am = some R' ∧ fX7_hour now (nI s) am = o1 (fX7_open now') (fun x => some (x, now')) ∧ SM n d e R' now' ∧ Kp n now now' ∧ now' 0 = now 0 + 1 := by
  obtain ⟨R1, now1, a1, b1, h1, k1⟩ := hr_a hn hs am d e (fun R105 => fX1_passHour_L30 (fun R110 => fX1_passHour_L56 (fun R113 => fX1_passHour_L77 (fun R118 => some (R118.1, R118.2.1, R118.2.2.1, R118.2.2.2.1, R118.2.2.2.2.1, R118.2.2.2.2.2.1, (R118.2.2.2.2.2.2.1 + (1 : Int32)), R118.2.2.2.2.2.2.2.1, R118.2.2.2.2.2.2.2.2)) fu R113 (0 : Int32)) fu R110 (0 : Int32)) fu R105 (0 : Int32)) (fun now111 => fX7_hour_L40 (fun now134 => fX7_hour_L112 (fun now151 => fX7_hour_L175 (fun now162 => rd now162 120 (0 : Int32) (fun x163 => wr now162 120 (0 : Int32) (x163 + (1 : Int32)) (fun f164 => o1 (fX7_open f164) (fun x165 => some (x165, f164))))) fu now151 (0 : Int32)) fu now134 (0 : Int32)) fu now111 (0 : Int32)) n 0 fu fu R now (by omega) (fu_gt (by omega)) (fu_gt (by omega)) h
  obtain ⟨R2, now2, a2, b2, h2, k2⟩ := hr_b hn d e (fun R110 => fX1_passHour_L56 (fun R113 => fX1_passHour_L77 (fun R118 => some (R118.1, R118.2.1, R118.2.2.1, R118.2.2.2.1, R118.2.2.2.2.1, R118.2.2.2.2.2.1, (R118.2.2.2.2.2.2.1 + (1 : Int32)), R118.2.2.2.2.2.2.2.1, R118.2.2.2.2.2.2.2.2)) fu R113 (0 : Int32)) fu R110 (0 : Int32)) (fun now134 => fX7_hour_L112 (fun now151 => fX7_hour_L175 (fun now162 => rd now162 120 (0 : Int32) (fun x163 => wr now162 120 (0 : Int32) (x163 + (1 : Int32)) (fun f164 => o1 (fX7_open f164) (fun x165 => some (x165, f164))))) fu now151 (0 : Int32)) fu now134 (0 : Int32)) n 0 fu fu R1 now1 (by omega) (fu_gt (by omega)) (fu_gt (by omega)) h1
  obtain ⟨R3, now3, a3, b3, h3, k3⟩ := hr_c hn d e (fun R113 => fX1_passHour_L77 (fun R118 => some (R118.1, R118.2.1, R118.2.2.1, R118.2.2.2.1, R118.2.2.2.2.1, R118.2.2.2.2.2.1, (R118.2.2.2.2.2.2.1 + (1 : Int32)), R118.2.2.2.2.2.2.2.1, R118.2.2.2.2.2.2.2.2)) fu R113 (0 : Int32)) (fun now151 => fX7_hour_L175 (fun now162 => rd now162 120 (0 : Int32) (fun x163 => wr now162 120 (0 : Int32) (x163 + (1 : Int32)) (fun f164 => o1 (fX7_open f164) (fun x165 => some (x165, f164))))) fu now151 (0 : Int32)) n 0 fu fu R2 now2 (by omega) (fu_gt (by omega)) (fu_gt (by omega)) h2
  obtain ⟨R4, now4, a4, b4, h4, k4⟩ := hr_d hn d e (fun R118 => some (R118.1, R118.2.1, R118.2.2.1, R118.2.2.2.1, R118.2.2.2.2.1, R118.2.2.2.2.2.1, (R118.2.2.2.2.2.2.1 + (1 : Int32)), R118.2.2.2.2.2.2.2.1, R118.2.2.2.2.2.2.2.2)) (fun now162 => rd now162 120 (0 : Int32) (fun x163 => wr now162 120 (0 : Int32) (x163 + (1 : Int32)) (fun f164 => o1 (fX7_open f164) (fun x165 => some (x165, f164))))) n 0 fu fu R3 now3 (by omega) (fu_gt (by omega)) (fu_gt (by omega)) h3
  refine ⟨_, upd now4 0 (now4 0 + 1), ?_, ?_, h4.hour, (((k1.tr k2).tr k3).tr k4).ho _, ?_⟩
  · unfold fX1_passHour
    exact (((a1.trans a2).trans a3).trans a4)
  · unfold fX7_hour
    refine (((b1.trans b2).trans b3).trans b4).trans ?_
    rw [show rd now4 120 (0 : Int32) _ = _ from rd_v now4 (i := 0) _ (by omega) (by omega), show wr now4 120 (0 : Int32) _ _ = _ from wr_v now4 (i := 0) _ _ (by omega) (by omega)]
  · rw [up_s, (((k1.tr k2).tr k3).tr k4) 0 (by omega) (by omega) (fun c _ => by omega)]
