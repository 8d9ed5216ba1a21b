/-! ===== the plain side: values ===== -/
theorem o1_v {α β : Type} (a : α) (k : α → Option β) : o1 (some a) k = k a := rfl
theorem o2_v {α β γ : Type} (a : α) (b : β) (k : α → β → Option γ) : o2 (some (a, b)) k = k a b := rfl
theorem o3_v {α β γ δ : Type} (a : α) (b : β) (c : γ) (k : α → β → γ → Option δ) : o3 (some (a, b, c)) k = k a b c := rfl
theorem o4_v {α β γ δ ε : Type} (a : α) (b : β) (c : γ) (d : δ) (k : α → β → γ → δ → Option ε) : o4 (some (a, b, c, d)) k = k a b c d := rfl
theorem nI0 : (0 : Int32) = nI 0 := rfl
theorem rd_v {β : Type} (f : Nat → Int32) {n i : Nat} (k : Int32 → Option β) (h : i < n) (hn : n < 2147483648) : rd f n (nI i) k = k (f i) := by
  unfold rd
  rw [if_pos (nI_in h hn), nI_clamp (by omega)]
theorem wr_v {β : Type} (f : Nat → Int32) {n i : Nat} (x : Int32) (k : (Nat → Int32) → Option β) (h : i < n) (hn : n < 2147483648) : wr f n (nI i) x k = k (upd f i x) := by
  unfold wr
  rw [if_pos (nI_in h hn), nI_clamp (by omega)]
theorem nb_0 {β : Type} (k : Option β) : nb 0 k = k := if_pos (by decide)
theorem nb_1 {β : Type} (k : Option β) : nb 1 k = k := if_pos (by decide)
theorem nb_b {β : Type} (b : Bool) (k : Option β) : nb (if b then 1 else 0) k = k := by cases b; exact nb_0 k; exact nb_1 k
theorem nle {a b : Nat} (h : a < b) (hb : b < 2147483648) : ¬ nI b ≤ nI a := nI_ge h hb
theorem i11 (c w : Nat) : nI c * (11 : Int32) + nI w = nI (11 * c + w) := by
  show nI c * nI 11 + nI w = _
  rw [pk_mul, nI_add, Nat.mul_comm]
theorem i10 (c w : Nat) : (16 : Int32) + (10 : Int32) * nI c + nI w = nI (16 + 10 * c + w) := by
  show nI 16 + nI 10 * nI c + nI w = _
  rw [pk_mul, nI_add, nI_add]
theorem i3 (c w : Nat) : nI c * (3 : Int32) + nI w = nI (3 * c + w) := by
  show nI c * nI 3 + nI w = _
  rw [pk_mul, nI_add, Nat.mul_comm]
theorem i96 (c w : Nat) : (96 : Int32) + (3 : Int32) * nI c + nI w = nI (96 + 3 * c + w) := by
  show nI 96 + nI 3 * nI c + nI w = _
  rw [pk_mul, nI_add, nI_add]
theorem at_v (f : Nat → Int32) {n i : Nat} (h : i < n) (hn : n < 2147483648) : fX6_at n f (nI i) = some (f i) := by
  unfold fX6_at
  rw [if_neg (nI_pos (n := i) (by omega)), if_neg (show ¬ Int32.ofNat n ≤ nI i from nle h hn), rd_v f _ h hn]
theorem at_o (f : Nat → Int32) {n i : Nat} (h : n ≤ i) (hi : i < 2147483648) : fX6_at n f (nI i) = some 0 := by
  unfold fX6_at
  rw [if_neg (nI_pos hi), if_pos (show Int32.ofNat n ≤ nI i from nI_le h hi)]
theorem put_v (f : Nat → Int32) {n i : Nat} (x : Int32) (h : i < n) (hn : n < 2147483648) : fX6_put n f (nI i) x = some (upd f i x) := by
  unfold fX6_put
  rw [if_neg (nI_pos (n := i) (by omega)), if_neg (show ¬ Int32.ofNat n ≤ nI i from nle h hn), wr_v f _ _ h hn]
theorem get_v (R : Rf) {c w : Nat} (hc : c < 8) (hw : w < 11) : fX1_get R (nI c) (nI w) = some (R.1 (11 * c + w)) := by
  unfold fX1_get
  rw [i11, if_neg (nI_pos (n := 11 * c + w) (by omega)), if_neg (show ¬ (88 : Int32) ≤ nI (11 * c + w) from nle (b := 88) (by omega) (by omega)), rd_v _ _ (by omega) (by omega)]
theorem get_0 (R : Rf) {c : Nat} (hc : c < 8) : fX1_get R (nI c) (0 : Int32) = some (R.1 (11 * c)) := get_v R (w := 0) hc (by omega)
theorem get_1 (R : Rf) {c : Nat} (hc : c < 8) : fX1_get R (nI c) (1 : Int32) = some (R.1 (11 * c + 1)) := get_v R (w := 1) hc (by omega)
theorem get_2 (R : Rf) {c : Nat} (hc : c < 8) : fX1_get R (nI c) (2 : Int32) = some (R.1 (11 * c + 2)) := get_v R (w := 2) hc (by omega)
theorem get_3 (R : Rf) {c : Nat} (hc : c < 8) : fX1_get R (nI c) (3 : Int32) = some (R.1 (11 * c + 3)) := get_v R (w := 3) hc (by omega)
theorem get_4 (R : Rf) {c : Nat} (hc : c < 8) : fX1_get R (nI c) (4 : Int32) = some (R.1 (11 * c + 4)) := get_v R (w := 4) hc (by omega)
theorem get_5 (R : Rf) {c : Nat} (hc : c < 8) : fX1_get R (nI c) (5 : Int32) = some (R.1 (11 * c + 5)) := get_v R (w := 5) hc (by omega)
theorem get_7 (R : Rf) {c f : Nat} (hc : c < 8) (hf : f < 4) : fX1_get R (nI c) ((7 : Int32) + nI f) = some (R.1 (11 * c + 7 + f)) := by
  rw [show (7 : Int32) + nI f = nI (7 + f) from nI_add 7 f, get_v R hc (by omega), Nat.add_assoc]
theorem set_v (R : Rf) {c w : Nat} (x : Int32) (hc : c < 8) (hw : w < 11) : fX1_set R (nI c) (nI w) x = some (upd R.1 (11 * c + w) x, R.2) := by
  unfold fX1_set
  rw [i11, if_neg (nI_pos (n := 11 * c + w) (by omega)), if_neg (show ¬ (88 : Int32) ≤ nI (11 * c + w) from nle (b := 88) (by omega) (by omega)), wr_v _ _ _ (by omega) (by omega)]
theorem raise_v (R : Rf) {c : Nat} (x : Int32) (hc : c < 8) : fX1_raise R (nI c) x = some (upd R.1 (11 * c + 2) (R.1 (11 * c + 2) + x), R.2) := by
  unfold fX1_raise
  rw [get_2 R hc, o1_v, show fX1_set R (nI c) (2 : Int32) (R.1 (11 * c + 2) + x) = _ from set_v R (w := 2) _ hc (by omega), o1_v]
theorem hasC_t {R : Rf} {n j : Nat} (h : R.2.2.2.1 = nI n) (hj : j < n) (hn : n < 2147483648) : fX1_hasCistern R (nI j) = some 1 := by
  unfold fX1_hasCistern
  rw [if_neg (nI_pos (n := j) (by omega)), h, if_neg (nle hj hn)]
theorem hasC_f {R : Rf} {n : Nat} {x : Int32} (h : R.2.2.2.1 = nI n) (hx : x < 0 ∨ nI n ≤ x) : fX1_hasCistern R x = some 0 := by
  unfold fX1_hasCistern
  rw [h]
  by_cases h0 : x < 0
  · rw [if_pos h0]
  · rw [if_neg h0, if_pos (hx.resolve_left h0)]
/-- which kinds are of a kind -/
def uT (k w : Nat) : Bool := (([[0], [0, 1], [0, 2], [0, 1, 3], [0, 2, 4], [0, 5], [0, 5, 6]] : List (List Nat)).getD k []).contains w
theorem uT_k : ∀ k, k < 7 → ∀ w, w < 7 → ((((kKinds k) >>> (nI w &&& 31)) &&& (1 : Int32)) = 1 ↔ uT k w = true) := by decide +kernel
theorem isOf_v {R : Rf} {c k w : Nat} (hc : c < 8) (hk : k < 7) (hR : R.1 (11 * c) = nI k) (hw : w < 7) : fX1_isOf R (nI c) (nI w) = some (if uT k w then 1 else 0) := by
  unfold fX1_isOf
  rw [get_0 R hc, o1_v, hR, if_neg (nI_pos (n := k) (by omega)), if_neg (show ¬ (7 : Int32) ≤ nI k from nle (b := 7) hk (by omega)), rd_v _ _ hk (by omega)]
  by_cases h : uT k w = true
  · rw [if_pos ((uT_k k hk w hw).mpr h), if_pos h]
  · rw [if_neg (fun z => h ((uT_k k hk w hw).mp z)), if_neg h]
/-- what the lock sees; what comes in; what leaks; what runs over -/
def shS (k : Nat) (h lv : Int32) : Int32 := if k = 4 then h - lv else if k = 3 then (if (3 : Int32) ≤ lv then lv else 0) else lv
def caS (k : Nat) (cloth cold ca amount : Int32) : Int32 := if cloth = 1 then 0 else if cold = 1 ∧ uT k 5 = true then 0 else if uT k 2 = true then (amount * ca) / 2 else amount * ca
def lkS (k : Nat) (cold leak lv : Int32) : Int32 := if k = 6 then 0 else if cold = 1 ∧ uT k 5 = true then 0 else if lv < leak then lv else leak
def rnS (k : Nat) (h lv : Int32) : Int32 := if uT k 1 = true then (if lv - h < 0 then 0 else lv) else (if 0 < lv - h then lv - h else 0)
theorem uT_4 : ∀ k, k < 7 → (uT k 4 = true ↔ k = 4) := by decide +kernel
theorem uT_3 : ∀ k, k < 7 → (uT k 3 = true ↔ k = 3) := by decide +kernel
theorem uT_6 : ∀ k, k < 7 → (uT k 6 = true ↔ k = 6) := by decide +kernel
theorem bz (b : Bool) : ((if b = true then (1 : Int32) else 0) = 0) ↔ ¬ b = true := by cases b <;> decide
theorem shown_v {R : Rf} {c k : Nat} (hc : c < 8) (hk : k < 7) (hR : R.1 (11 * c) = nI k) : fX1_shown R (nI c) = some (shS k (R.1 (11 * c + 1)) (R.1 (11 * c + 2))) := by
  unfold fX1_shown shS
  rw [get_2 R hc, o1_v, show fX1_isOf R (nI c) (4 : Int32) = _ from isOf_v (w := 4) hc hk hR (by omega), o1_v]
  by_cases h4 : k = 4
  · rw [if_neg (fun z => (bz _).mp z ((uT_4 k hk).mpr h4)), get_1 R hc, o1_v, if_pos h4]
  · rw [if_pos ((bz _).mpr (fun z => h4 ((uT_4 k hk).mp z))), if_neg h4, show fX1_isOf R (nI c) (3 : Int32) = _ from isOf_v (w := 3) hc hk hR (by omega), o1_v]
    by_cases h3 : k = 3
    · rw [if_neg (fun z => (bz _).mp z ((uT_3 k hk).mpr h3)), if_pos h3]
      by_cases h : (3 : Int32) ≤ R.1 (11 * c + 2)
      · rw [if_pos h, if_pos h]
      · rw [if_neg h, if_neg h]
    · rw [if_pos ((bz _).mpr (fun z => h3 ((uT_3 k hk).mp z))), if_neg h3]
theorem caught_v {R : Rf} {c k f : Nat} {amount : Int32} (hc : c < 8) (hk : k < 7) (hR : R.1 (11 * c) = nI k) (hf : f < 4) (hcold : R.2.2.2.2.2.1 = 0 ∨ R.2.2.2.2.2.1 = 1) : fX1_caught R (nI c) (nI f) amount = some (caS k (R.1 (11 * c + 5)) R.2.2.2.2.2.1 (R.1 (11 * c + 7 + f)) amount) := by
  unfold fX1_caught caS
  have hJ : fX1_caught_J28 R (nI c) (nI f) amount = some (if uT k 2 = true then (amount * R.1 (11 * c + 7 + f)) / 2 else amount * R.1 (11 * c + 7 + f)) := by
    unfold fX1_caught_J28
    rw [get_7 R hc hf, o1_v, show fX1_isOf R (nI c) (2 : Int32) = _ from isOf_v (w := 2) hc hk hR (by omega), o1_v]
    by_cases h : uT k 2 = true
    · rw [if_neg (fun z => (bz _).mp z h), if_pos h]
    · rw [if_pos ((bz _).mpr h), if_neg h]
  rw [get_5 R hc, o1_v]
  by_cases h5 : R.1 (11 * c + 5) = 1
  · rw [if_pos h5, if_pos h5]
  · rw [if_neg h5, if_neg h5]
    rcases hcold with h | h
    · have hz : ¬ (R.2.2.2.2.2.1 = 1 ∧ uT k 5 = true) := fun z => absurd (h.symm.trans z.1) (by decide)
      rw [if_pos h, hJ, if_neg hz]
    · rw [if_neg (by rw [h]; decide), show fX1_isOf R (nI c) (5 : Int32) = _ from isOf_v (w := 5) hc hk hR (by omega), o1_v]
      by_cases hu : uT k 5 = true
      · rw [if_neg (fun z => (bz _).mp z hu), if_pos ⟨h, hu⟩]
      · have hz : ¬ (R.2.2.2.2.2.1 = 1 ∧ uT k 5 = true) := fun z => hu z.2
        rw [if_pos ((bz _).mpr hu), hJ, if_neg hz]
theorem leaked_v {R : Rf} {c k : Nat} (hc : c < 8) (hk : k < 7) (hR : R.1 (11 * c) = nI k) (hcold : R.2.2.2.2.2.1 = 0 ∨ R.2.2.2.2.2.1 = 1) : fX1_leaked R (nI c) = some (lkS k R.2.2.2.2.2.1 (R.1 (11 * c + 3)) (R.1 (11 * c + 2))) := by
  unfold fX1_leaked lkS
  rw [show fX1_isOf R (nI c) (6 : Int32) = _ from isOf_v (w := 6) hc hk hR (by omega), o1_v]
  by_cases h6 : k = 6
  · rw [if_neg (fun z => (bz _).mp z ((uT_6 k hk).mpr h6)), if_pos h6]
  · rw [if_pos ((bz _).mpr (fun z => h6 ((uT_6 k hk).mp z))), if_neg h6]
    rcases hcold with h | h
    · have hz : ¬ (R.2.2.2.2.2.1 = 1 ∧ uT k 5 = true) := fun z => absurd (h.symm.trans z.1) (by decide)
      rw [if_pos h, get_3 R hc, o1_v, get_2 R hc, o1_v, if_neg hz]
    · rw [if_neg (by rw [h]; decide), show fX1_isOf R (nI c) (5 : Int32) = _ from isOf_v (w := 5) hc hk hR (by omega), o1_v]
      by_cases hu : uT k 5 = true
      · rw [if_neg (fun z => (bz _).mp z hu), if_pos ⟨h, hu⟩]
      · have hz : ¬ (R.2.2.2.2.2.1 = 1 ∧ uT k 5 = true) := fun z => hu z.2
        rw [if_pos ((bz _).mpr hu), get_3 R hc, o1_v, get_2 R hc, o1_v, if_neg hz]
theorem running_v {R : Rf} {c k : Nat} (hc : c < 8) (hk : k < 7) (hR : R.1 (11 * c) = nI k) : fX1_runningOver R (nI c) = some (rnS k (R.1 (11 * c + 1)) (R.1 (11 * c + 2))) := by
  unfold fX1_runningOver rnS
  rw [get_2 R hc, o1_v, get_1 R hc, o1_v, show fX1_isOf R (nI c) (1 : Int32) = _ from isOf_v (w := 1) hc hk hR (by omega), o1_v]
  by_cases h : uT k 1 = true
  · rw [if_neg (fun z => (bz _).mp z h), if_pos h]
    by_cases h2 : R.1 (11 * c + 2) - R.1 (11 * c + 1) < 0
    · rw [if_pos h2, if_pos h2]
    · rw [if_neg h2, if_neg h2]
  · rw [if_pos ((bz _).mpr h), if_neg h]
/-- where a gutter leads: -1, or another cistern that is there -/
def gtS (n c : Nat) (x : Int32) : Int32 := if x < 0 ∨ nI n ≤ x ∨ x = nI c then -1 else x
theorem gutter_v {R : Rf} {n c : Nat} (hc : c < 8) (hn : n < 9) (hR : R.2.2.2.1 = nI n) : fX1_gutterEnd R (nI c) = some (gtS n c (R.1 (11 * c + 4))) := by
  unfold fX1_gutterEnd gtS
  rw [get_4 R hc, o1_v]
  rcases pk_ix (R.1 (11 * c + 4)) (n := n) (by omega) with h | h | ⟨j, hj, h⟩
  · rw [hasC_f hR (Or.inl h), o1_v, if_pos rfl, if_pos (Or.inl h)]
  · rw [hasC_f hR (Or.inr h), o1_v, if_pos rfl, if_pos (Or.inr (Or.inl h))]
  · rw [h, hasC_t hR hj (by omega), o1_v, if_neg (by decide)]
    by_cases e : nI j = nI c
    · rw [if_pos e, if_pos (Or.inr (Or.inr e))]
    · rw [if_neg e, if_neg (fun z => z.elim (nI_pos (by omega)) (fun z => z.elim (nle hj (by omega)) e))]
theorem gtS_or (n c : Nat) (x : Int32) (hn : n < 9) : (gtS n c x = -1) ∨ ∃ j, j < n ∧ gtS n c x = nI j := by
  unfold gtS
  rcases pk_ix x (n := n) (by omega) with h | h | ⟨j, hj, h⟩
  · exact Or.inl (if_pos (Or.inl h))
  · exact Or.inl (if_pos (Or.inr (Or.inl h)))
  · by_cases e : x = nI c
    · exact Or.inl (if_pos (Or.inr (Or.inr e)))
    · exact Or.inr ⟨j, hj, by rw [if_neg (fun z => z.elim (fun z => nI_pos (by omega) (h ▸ z)) (fun z => z.elim (fun z => nle hj (by omega) (h ▸ z)) e)), h]⟩
/-! the model's -/
theorem within_v (a b c : Int32) : fX7_within a b c = some (if ¬ a < b ∧ ¬ c < a then 1 else 0) := by
  unfold fX7_within
  by_cases h : a < b
  · rw [if_pos h, if_neg (fun z => z.1 h)]
  · rw [if_neg h]
    by_cases h2 : c < a
    · rw [if_pos h2, if_neg (fun z => z.2 h2)]
    · rw [if_neg h2, if_pos ⟨h, h2⟩]
theorem nb_i {β : Type} (c : Prop) [Decidable c] (k : Option β) : nb (if c then 1 else 0) k = k := by
  by_cases h : c
  · rw [if_pos h]; exact nb_1 k
  · rw [if_neg h]; exact nb_0 k
theorem iz (c : Prop) [Decidable c] : ((if c then (1 : Int32) else 0) = 0) ↔ ¬ c := by
  by_cases h : c
  · rw [if_pos h]; exact ⟨fun z => absurd z (by decide), fun z => absurd h z⟩
  · rw [if_neg h]; exact ⟨fun _ => h, fun _ => rfl⟩
theorem nlt_pred {n : Nat} {x : Int32} (hn : n < 2147483648) (h0 : ¬ x < 0) : (¬ (nI n - 1 : Int32) < x) ↔ ¬ nI n ≤ x := by
  obtain ⟨j, hj, rfl⟩ := nI_of h0
  cases n with
  | zero =>
    refine ⟨fun h => absurd ?_ h, fun h => absurd (nI_le (Nat.zero_le j) hj) h⟩
    have e : (nI 0 - 1 : Int32) < 0 := by decide
    exact Int32.lt_of_lt_of_le e (nI_pos' hj)
  | succ n =>
    rw [nI_pred]
    rw [show ¬ (nI n < nI j) ↔ j ≤ n from ⟨fun h => Nat.not_lt.mp (fun q => h (nI_lt q hj)), fun h => nI_nlt h (by omega)⟩]
    exact ⟨fun h => nle (by omega) hn, fun h => Nat.not_lt.mp (fun q => h (nI_le q hj))⟩
theorem isC_v {now : Nat → Int32} {n : Nat} (x : Int32) (h : now 2 = nI n) (hn : n < 9) : fX7_isCistern now x = some (if ¬ x < 0 ∧ ¬ nI n ≤ x then 1 else 0) := by
  unfold fX7_isCistern
  rw [show rd now 120 (2 : Int32) _ = _ from rd_v now (i := 2) _ (by omega) (by omega), h, within_v, o1_v, nb_i]
  by_cases h0 : x < 0
  · rw [if_neg (fun z => z.1 h0), if_neg (fun z => z.1 h0)]
  · by_cases h1 : nI n ≤ x
    · rw [if_neg (fun z => (nlt_pred (by omega) h0).mp z.2 h1), if_neg (fun z => z.2 h1)]
    · rw [if_pos ⟨h0, (nlt_pred (by omega) h0).mpr h1⟩, if_pos ⟨h0, h1⟩]
theorem at7_v (c w : Nat) : fX7_at (nI c) (nI w) = some (nI (16 + 10 * c + w)) := by unfold fX7_at; rw [i10]
theorem cis_v (now : Nat → Int32) {c w : Nat} (hc : c < 8) (hw : w < 10) : fX7_cisternIs now (nI c) (nI w) = some (now (16 + 10 * c + w)) := by
  unfold fX7_cisternIs
  rw [at7_v, o1_v, rd_v _ _ (by omega) (by omega)]
theorem cis_0 (now : Nat → Int32) {c : Nat} (hc : c < 8) : fX7_cisternIs now (nI c) (0 : Int32) = some (now (16 + 10 * c)) := cis_v now (w := 0) hc (by omega)
theorem cis_1 (now : Nat → Int32) {c : Nat} (hc : c < 8) : fX7_cisternIs now (nI c) (1 : Int32) = some (now (16 + 10 * c + 1)) := cis_v now (w := 1) hc (by omega)
theorem cis_2 (now : Nat → Int32) {c : Nat} (hc : c < 8) : fX7_cisternIs now (nI c) (2 : Int32) = some (now (16 + 10 * c + 2)) := cis_v now (w := 2) hc (by omega)
theorem cis_3 (now : Nat → Int32) {c : Nat} (hc : c < 8) : fX7_cisternIs now (nI c) (3 : Int32) = some (now (16 + 10 * c + 3)) := cis_v now (w := 3) hc (by omega)
theorem cis_4 (now : Nat → Int32) {c : Nat} (hc : c < 8) : fX7_cisternIs now (nI c) (4 : Int32) = some (now (16 + 10 * c + 4)) := cis_v now (w := 4) hc (by omega)
theorem cis_5 (now : Nat → Int32) {c : Nat} (hc : c < 8) : fX7_cisternIs now (nI c) (5 : Int32) = some (now (16 + 10 * c + 5)) := cis_v now (w := 5) hc (by omega)
theorem cis_6 (now : Nat → Int32) {c f : Nat} (hc : c < 8) (hf : f < 4) : fX7_cisternIs now (nI c) ((6 : Int32) + nI f) = some (now (16 + 10 * c + 6 + f)) := by
  rw [show (6 : Int32) + nI f = nI (6 + f) from nI_add 6 f, cis_v now hc (by omega), ← Nat.add_assoc]
theorem under_k : ∀ k, k < 7 → ∀ w, w < 7 → fX7_isUnder (nI k) (nI w) = some (if uT k w then 1 else 0) := by decide +kernel
theorem under_v {now : Nat → Int32} {c k w : Nat} (hc : c < 8) (hk : k < 7) (h : now (16 + 10 * c) = nI k) (hw : w < 7) : fX7_isUnder_ now (nI c) (nI w) (0 : Int32) = some (if uT k w then 1 else 0) := by
  unfold fX7_isUnder_
  rw [cis_0 now hc, o1_v, h, under_k k hk w hw, o1_v, nb_b]
theorem stiff_v {now : Nat → Int32} {c k : Nat} (hc : c < 8) (hk : k < 7) (h : now (16 + 10 * c) = nI k) : fX7_isStiff now (nI c) = some (if now 1 = 1 ∧ uT k 5 = true then 1 else 0) := by
  unfold fX7_isStiff
  rw [show fX7_isUnder_ now (nI c) (5 : Int32) (0 : Int32) = _ from under_v (w := 5) hc hk h (by omega), o1_v]
  by_cases hu : uT k 5 = true
  · rw [if_neg (fun z => (bz _).mp z hu), show rd now 120 (1 : Int32) _ = _ from rd_v now (i := 1) _ (by omega) (by omega)]
    by_cases h1 : now 1 = 1
    · rw [if_pos h1, if_pos ⟨h1, hu⟩]
    · rw [if_neg h1, if_neg (fun z => h1 z.1)]
  · rw [if_pos ((bz _).mpr hu), if_neg (fun z => hu z.2)]
theorem shows_v {now : Nat → Int32} {c k : Nat} (hc : c < 8) (hk : k < 7) (h : now (16 + 10 * c) = nI k) : fX7_shows now (nI c) = some (shS k (now (16 + 10 * c + 1)) (now (16 + 10 * c + 2))) := by
  unfold fX7_shows shS
  rw [cis_2 now hc, o1_v, cis_0 now hc, o1_v, h]
  by_cases h4 : k = 4
  · rw [if_pos (show nI k = (4 : Int32) by rw [h4]; rfl), cis_1 now hc, o1_v, if_pos h4]
  · rw [if_neg (show ¬ nI k = (4 : Int32) from fun z => h4 ((nI_eq (b := 4) (by omega) (by omega)).mp z)), if_neg h4]
    by_cases h3 : k = 3
    · rw [if_pos (show nI k = (3 : Int32) by rw [h3]; rfl), if_pos h3]
      by_cases hh : (3 : Int32) ≤ now (16 + 10 * c + 2)
      · rw [if_pos hh, if_pos hh]
      · rw [if_neg hh, if_neg hh]
    · rw [if_neg (show ¬ nI k = (3 : Int32) from fun z => h3 ((nI_eq (b := 3) (by omega) (by omega)).mp z)), if_neg h3]
theorem zdiv : (0 : Int32) / 2 = 0 := by decide
theorem comes_v {now : Nat → Int32} {c k f : Nat} {amount : Int32} (hc : c < 8) (hk : k < 7) (h : now (16 + 10 * c) = nI k) (hf : f < 4) : fX7_comesIn now (nI c) (nI f) amount = some (caS k (now (16 + 10 * c + 5)) (now 1) (now (16 + 10 * c + 6 + f)) amount) := by
  unfold fX7_comesIn caS
  have hJ : ∀ y : Int32, fX7_comesIn_J25 now (nI c) y = some (if now 1 = 1 ∧ uT k 5 = true then 0 else if uT k 2 = true then y / 2 else y) := by
    intro y
    unfold fX7_comesIn_J25
    rw [stiff_v hc hk h, o1_v]
    by_cases hs : now 1 = 1 ∧ uT k 5 = true
    · rw [if_neg (fun z => (iz _).mp z hs), if_pos hs]
    · rw [if_pos ((iz _).mpr hs), if_neg hs, show fX7_isUnder_ now (nI c) (2 : Int32) (0 : Int32) = _ from under_v (w := 2) hc hk h (by omega), o1_v]
      by_cases hu : uT k 2 = true
      · rw [if_neg (fun z => (bz _).mp z hu), if_pos hu]
      · rw [if_pos ((bz _).mpr hu), if_neg hu]
  rw [cis_5 now hc, o1_v]
  by_cases h5 : now (16 + 10 * c + 5) = 1
  · rw [if_pos h5, if_pos h5, hJ, zdiv, ite_self, ite_self]
  · rw [if_neg h5, if_neg h5, cis_6 now hc hf, o1_v, hJ]
theorem leaks_v {now : Nat → Int32} {c k : Nat} (hc : c < 8) (hk : k < 7) (h : now (16 + 10 * c) = nI k) : fX7_leaksNow now (nI c) = some (lkS k (now 1) (now (16 + 10 * c + 3)) (now (16 + 10 * c + 2))) := by
  unfold fX7_leaksNow lkS
  rw [stiff_v hc hk h, o1_v]
  by_cases hs : now 1 = 1 ∧ uT k 5 = true
  · rw [if_neg (fun z => (iz _).mp z hs), if_pos hs, ite_self]
  · rw [if_pos ((iz _).mpr hs), if_neg hs, cis_0 now hc, o1_v, h]
    by_cases h6 : k = 6
    · rw [if_pos (show nI k = (6 : Int32) by rw [h6]; rfl), if_pos h6]
    · rw [if_neg (show ¬ nI k = (6 : Int32) from fun z => h6 ((nI_eq (b := 6) (by omega) (by omega)).mp z)), if_neg h6, cis_3 now hc, o1_v, cis_2 now hc, o1_v]
theorem runs_v {now : Nat → Int32} {c k : Nat} (hc : c < 8) (hk : k < 7) (h : now (16 + 10 * c) = nI k) : fX7_runsOver now (nI c) = some (rnS k (now (16 + 10 * c + 1)) (now (16 + 10 * c + 2))) := by
  unfold fX7_runsOver rnS
  rw [cis_2 now hc, o1_v, cis_1 now hc, o1_v, show fX7_isUnder_ now (nI c) (1 : Int32) (0 : Int32) = _ from under_v (w := 1) hc hk h (by omega), o1_v]
  by_cases hu : uT k 1 = true
  · rw [if_neg (fun z => (bz _).mp z hu), if_pos hu]
    by_cases h2 : now (16 + 10 * c + 2) - now (16 + 10 * c + 1) < 0
    · rw [if_pos h2, if_pos h2]
    · rw [if_neg h2, if_neg h2, o1_v]
  · rw [if_pos ((bz _).mpr hu), if_neg hu]
theorem leads_v {now : Nat → Int32} {n c : Nat} (hc : c < 8) (hn : n < 9) (h : now 2 = nI n) : fX7_leadsTo now (nI c) = some (gtS n c (now (16 + 10 * c + 4))) := by
  unfold fX7_leadsTo gtS
  rw [cis_4 now hc, o1_v, isC_v _ h hn, o1_v]
  by_cases h0 : now (16 + 10 * c + 4) < 0
  · rw [if_pos ((iz _).mpr (fun z => z.1 h0)), if_pos (Or.inl h0)]
  · by_cases h1 : nI n ≤ now (16 + 10 * c + 4)
    · rw [if_pos ((iz _).mpr (fun z => z.2 h1)), if_pos (Or.inr (Or.inl h1))]
    · rw [if_neg (fun z => (iz _).mp z ⟨h0, h1⟩)]
      by_cases e : now (16 + 10 * c + 4) = nI c
      · rw [if_pos e, if_pos (Or.inr (Or.inr e))]
      · rw [if_neg e, if_neg (fun z => z.elim h0 (fun z => z.elim h1 e))]
