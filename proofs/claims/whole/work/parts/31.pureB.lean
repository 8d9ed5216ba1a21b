/-! ===== cistern, ahead ===== -/
/-- j places from b on become 1 -/
def fil (f : Nat → Int32) (b : Nat) : Nat → Nat → Int32
  | 0 => f
  | j + 1 => fil (upd f b 1) (b + 1) j
theorem fil_n : ∀ (j b : Nat) (f : Nat → Int32) (i : Nat), (i < b ∨ b + j ≤ i) → fil f b j i = f i := by
  intro j
  induction j with
  | zero => intro b f i _; rfl
  | succ j ih =>
    intro b f i h
    show fil (upd f b 1) (b + 1) j i = f i
    rw [ih (b + 1) _ i (by omega), up_n (by omega)]
theorem SM.fil {n : Nat} {d e : Int32} {c : Nat} (hc : c < 8) : ∀ (j i : Nat) {R : Rf} {now : Nat → Int32}, i + j = 4 → SM n d e R now → SM n d e (fil R.1 (11 * c + 7 + i) j, R.2) (fil now (16 + 10 * c + 6 + i) j) := by
  intro j
  induction j with
  | zero => intro i R now _ h; exact h
  | succ j ih =>
    intro i R now hi h
    exact ih (i + 1) (by omega) (h.setc hc (w := i) (by omega) 1)
theorem add_L {c : Nat} (hc : c < 8) (kx : Rf → Option (Int32 × Rf)) : ∀ (j i f : Nat) (R : Rf), i + j = 4 → j < f → fX1_addCistern_L60 (nI c) kx f R (nI i) = kx (fil R.1 (11 * c + 7 + i) j, R.2) := by
  intro j
  induction j with
  | zero =>
    intro i f R hi hf
    obtain ⟨f, rfl⟩ : ∃ q, f = q + 1 := ⟨f - 1, by omega⟩
    rw [fX1_addCistern_L60, if_pos (show (4 : Int32) ≤ nI i from nI_le (a := 4) (by omega) (by omega))]
    rfl
  | succ j ih =>
    intro i f R hi hf
    obtain ⟨f, rfl⟩ : ∃ q, f = q + 1 := ⟨f - 1, by omega⟩
    rw [fX1_addCistern_L60, if_neg (show ¬ (4 : Int32) ≤ nI i from nle (b := 4) (by omega) (by omega)), set_7 R 1 hc (by omega), o1_v, show nI i + (1 : Int32) = nI (i + 1) from nI_1 i, ih (i + 1) f _ (by omega) (by omega)]
    rfl
theorem built_L {c : Nat} (hc : c < 8) (kx : (Nat → Int32) → Option (Int32 × (Nat → Int32))) : ∀ (j i f : Nat) (now : Nat → Int32), i + j = 4 → j < f → fX7_built_L85 (nI c) kx f now (nI i) = kx (fil now (16 + 10 * c + 6 + i) j) := by
  intro j
  induction j with
  | zero =>
    intro i f now hi hf
    obtain ⟨f, rfl⟩ : ∃ q, f = q + 1 := ⟨f - 1, by omega⟩
    rw [fX7_built_L85, if_pos (show (4 : Int32) ≤ nI i from nI_le (a := 4) (by omega) (by omega))]
    rfl
  | succ j ih =>
    intro i f now hi hf
    obtain ⟨f, rfl⟩ : ∃ q, f = q + 1 := ⟨f - 1, by omega⟩
    rw [fX7_built_L85, if_neg (show ¬ (4 : Int32) ≤ nI i from nle (b := 4) (by omega) (by omega)), show (6 : Int32) + nI i = nI (6 + i) from nI_add 6 i, at7_v, o1_v, ← Nat.add_assoc, wr_v now _ _ (by omega) (by omega), show nI i + (1 : Int32) = nI (i + 1) from nI_1 i, ih (i + 1) f _ (by omega) (by omega)]
    rfl
/-- the class's roof with a cistern more -/
def addR (R : Rf) (n : Nat) (kd hi lv lk gt : Int32) : Nat → Int32 := fil (upd (upd (upd (upd (upd (upd R.1 (11 * n) kd) (11 * n + 1) hi) (11 * n + 2) lv) (11 * n + 3) lk) (11 * n + 4) gt) (11 * n + 5) 0) (11 * n + 7) 4
def addN (now : Nat → Int32) (n : Nat) (kd hi lv lk gt : Int32) : Nat → Int32 := upd (fil (upd (upd (upd (upd (upd (upd now (16 + 10 * n) kd) (16 + 10 * n + 1) hi) (16 + 10 * n + 2) lv) (16 + 10 * n + 3) lk) (16 + 10 * n + 4) gt) (16 + 10 * n + 5) 0) (16 + 10 * n + 6) 4) 2 (nI (n + 1))
theorem SM.add {n : Nat} {d e : Int32} {R : Rf} {now : Nat → Int32} (h : SM n d e R now) (hn : n < 8) {k : Nat} (hk : k < 7) (hi lv lk gt : Int32) : SM (n + 1) d e (addR R n (nI k) hi lv lk gt, R.2.1, R.2.2.1, nI (n + 1), R.2.2.2.2) (addN now n (nI k) hi lv lk gt) :=
  (SM.fil (n := n) (d := d) (e := e) hn 4 0 (by omega) ((((((h.setk hn hk).set hn (w := 1) (by omega) (by omega) hi).set hn (w := 2) (by omega) (by omega) lv).set hn (w := 3) (by omega) (by omega) lk).set hn (w := 4) (by omega) (by omega) gt).set hn (w := 5) (by omega) (by omega) 0)).num (n' := n + 1)
theorem addN_n {now : Nat → Int32} {n i : Nat} {kd hi lv lk gt : Int32} (hi2 : i ≠ 2) (h : i < 16 + 10 * n ∨ 16 + 10 * n + 10 ≤ i) : addN now n kd hi lv lk gt i = now i := by
  unfold addN
  rw [up_n hi2, fil_n 4 _ _ i (by omega), up_n (by omega), up_n (by omega), up_n (by omega), up_n (by omega), up_n (by omega), up_n (by omega)]
theorem add_v {R : Rf} {n : Nat} (h : R.2.2.2.1 = nI n) (hn : n < 8) (kd hi : Int32) : fX1_addCistern R kd hi = some (nI n, (addR R n kd hi 0 1 (-1), R.2.1, R.2.2.1, nI (n + 1), R.2.2.2.2)) := by
  unfold fX1_addCistern
  rw [h, show nI n + (1 : Int32) = nI (n + 1) from nI_1 n, set_0 _ _ hn, o1_v, set_1 _ _ hn, o1_v, set_2 _ _ hn, o1_v, set_3 _ _ hn, o1_v, set_4 _ _ hn, o1_v, set_5 _ _ hn, o1_v]
  exact add_L hn _ 4 0 fu _ (by omega) (fu_gt (by omega))
theorem built_v {now : Nat → Int32} {n : Nat} (h : now 2 = nI n) (hn : n < 8) (kd hi lv lk gt : Int32) : fX7_built now kd hi lv lk gt = some (nI n, addN now n kd hi lv lk gt) := by
  unfold fX7_built
  rw [show rd now 120 (2 : Int32) _ = _ from rd_v now (i := 2) _ (by omega) (by omega), h, show fX7_at (nI n) (0 : Int32) = some (nI (16 + 10 * n)) from at7_v n 0, o1_v, wr_v _ _ _ (by omega) (by omega), show fX7_at (nI n) (1 : Int32) = some (nI (16 + 10 * n + 1)) from at7_v n 1, o1_v, wr_v _ _ _ (by omega) (by omega), show fX7_at (nI n) (2 : Int32) = some (nI (16 + 10 * n + 2)) from at7_v n 2, o1_v, wr_v _ _ _ (by omega) (by omega), show fX7_at (nI n) (3 : Int32) = some (nI (16 + 10 * n + 3)) from at7_v n 3, o1_v, wr_v _ _ _ (by omega) (by omega), show fX7_at (nI n) (4 : Int32) = some (nI (16 + 10 * n + 4)) from at7_v n 4, o1_v, wr_v _ _ _ (by omega) (by omega), show fX7_at (nI n) (5 : Int32) = some (nI (16 + 10 * n + 5)) from at7_v n 5, o1_v, wr_v _ _ _ (by omega) (by omega)]
  refine (built_L hn _ 4 0 fu _ (by omega) (fu_gt (by omega))).trans ?_
  rw [show rd (fil _ _ 4) 120 (2 : Int32) _ = _ from rd_v _ (i := 2) _ (by omega) (by omega), show wr (fil _ _ 4) 120 (2 : Int32) _ _ = _ from wr_v _ (i := 2) _ _ (by omega) (by omega), fil_n 4 _ _ 2 (by omega), up_n (by omega), up_n (by omega), up_n (by omega), up_n (by omega), up_n (by omega), up_n (by omega), h, show nI n + (1 : Int32) = nI (n + 1) from nI_1 n]
  rfl
theorem op_cistern {R : Rf} {now fd found : Nat → Int32} (hR : Rl R now) (hF : Fnd fd found) (a b : Int32) : P2 (fX6_cistern R fd a b) (fX7_cistern now found a b) := by
  have hR' := hR
  obtain ⟨n, k, hn, h, hci, hsp⟩ := hR
  unfold fX6_cistern fX7_cistern
  rw [win_v, ob, win_v, ob, isKind_v, ob, within_v, ob, show rd now 120 (2 : Int32) _ = _ from rd_v now (i := 2) _ (by omega) (by omega), h.n1, h.n2]
  refine P2.ite (fun ha => P2.ite (fun hb => ?_) (fun _ => P2.fnd hR' hF (by omega) cB)) (fun _ => P2.fnd hR' hF (by omega) cB)
  obtain ⟨kd, hkd, rfl⟩ := inW (m := 6) (by omega) ha
  by_cases h8 : n = 8
  · subst h8
    rw [if_neg (show ¬ nI 8 < (8 : Int32) by decide), if_pos (show nI 8 = (8 : Int32) from rfl)]
    exact P2.fnd hR' hF (by omega) cF
  · rw [if_pos (show nI n < (8 : Int32) from nI_lt (b := 8) (by omega) (by omega)), if_neg (show ¬ nI n = (8 : Int32) from fun z => h8 ((nI_eq (b := 8) (by omega) (by omega)).mp z)), add_v h.n2 (by omega), o2_v, built_v h.n1 (by omega), o2_v]
    refine ⟨_, _, _, _, _, rfl, rfl, ⟨n + 1, k, by omega, h.add (by omega) hkd b 0 1 (-1), ⟨by rw [addN_n (by omega) (by omega)]; exact hci.1, hci.2.1, fun l hl => ?_⟩, fun s hs => ?_⟩, hF⟩
    · rw [addN_n (by omega) (by omega), addN_n (by omega) (by omega), addN_n (by omega) (by omega)]
      exact hci.2.2 l hl
    · rw [addN_n (by omega) (by omega)]
      exact hsp s hs
