/-! ===== places written ===== -/
theorem set_0 (R : Rf) {c : Nat} (x : Int32) (hc : c < 8) : fX1_set R (nI c) (0 : Int32) x = some (upd R.1 (11 * c) x, R.2) := set_v R (w := 0) x hc (by omega)
theorem set_1 (R : Rf) {c : Nat} (x : Int32) (hc : c < 8) : fX1_set R (nI c) (1 : Int32) x = some (upd R.1 (11 * c + 1) x, R.2) := set_v R (w := 1) x hc (by omega)
theorem set_2 (R : Rf) {c : Nat} (x : Int32) (hc : c < 8) : fX1_set R (nI c) (2 : Int32) x = some (upd R.1 (11 * c + 2) x, R.2) := set_v R (w := 2) x hc (by omega)
theorem set_3 (R : Rf) {c : Nat} (x : Int32) (hc : c < 8) : fX1_set R (nI c) (3 : Int32) x = some (upd R.1 (11 * c + 3) x, R.2) := set_v R (w := 3) x hc (by omega)
theorem set_4 (R : Rf) {c : Nat} (x : Int32) (hc : c < 8) : fX1_set R (nI c) (4 : Int32) x = some (upd R.1 (11 * c + 4) x, R.2) := set_v R (w := 4) x hc (by omega)
theorem set_5 (R : Rf) {c : Nat} (x : Int32) (hc : c < 8) : fX1_set R (nI c) (5 : Int32) x = some (upd R.1 (11 * c + 5) x, R.2) := set_v R (w := 5) x hc (by omega)
theorem set_7 (R : Rf) {c f : Nat} (x : Int32) (hc : c < 8) (hf : f < 4) : fX1_set R (nI c) ((7 : Int32) + nI f) x = some (upd R.1 (11 * c + 7 + f) x, R.2) := by
  rw [show (7 : Int32) + nI f = nI (7 + f) from nI_add 7 f, set_v R x hc (by omega), Nat.add_assoc]
theorem SM.setk {n : Nat} {d e : Int32} {R : Rf} {now : Nat → Int32} (h : SM n d e R now) {c k : Nat} (hc : c < 8) (hk : k < 7) : SM n d e (upd R.1 (11 * c) (nI k), R.2) (upd now (16 + 10 * c) (nI k)) := by
  obtain ⟨⟨a1, a2⟩, a3, ⟨a4, a5⟩, a6, a7, a8, a9, a10, a11, a12⟩ := h
  refine ⟨⟨by rw [up_n (by omega)]; exact a1, a2⟩, fun c' hc' => ?_, ⟨by rw [up_n (by omega)]; exact a4, by rw [up_n (by omega)]; exact a5⟩, fun c' hc' => ⟨fun f hf => ?_, fun f hf => ?_⟩, fun i hi => ?_, fun i hi => ?_, by rw [up_n (by omega)]; exact a9, by rw [up_n (by omega)]; exact a10, by rw [up_n (by omega)]; exact a11, by rw [up_n (by omega)]; exact a12⟩
  · by_cases q : c' = c
    · subst q
      exact ⟨k, hk, up_s⟩
    · obtain ⟨k, hk, e1⟩ := a3 c' hc'
      exact ⟨k, hk, by rw [up_n (by omega)]; exact e1⟩
  · show upd R.1 (11 * c) (nI k) (11 * c' + f) = _
    by_cases q : c' = c ∧ f = 0
    · obtain ⟨rfl, rfl⟩ := q
      show upd R.1 (11 * c') (nI k) (11 * c') = upd now (16 + 10 * c') (nI k) (16 + 10 * c')
      rw [up_s, up_s]
    · rw [up_n (by omega), up_n (by omega)]
      exact (a6 c' hc').1 f hf
  · rw [up_n (by omega)]
    show upd R.1 (11 * c) (nI k) (11 * c' + 7 + f) = _
    rw [up_n (by omega)]
    exact (a6 c' hc').2 f hf
  · rw [up_n (by omega)]
    exact a7 i hi
  · rw [up_n (by omega)]
    exact a8 i hi
theorem SM.setc {n : Nat} {d e : Int32} {R : Rf} {now : Nat → Int32} (h : SM n d e R now) {c w : Nat} (hc : c < 8) (hw : w < 4) (x : Int32) : SM n d e (upd R.1 (11 * c + 7 + w) x, R.2) (upd now (16 + 10 * c + 6 + w) x) := by
  obtain ⟨⟨a1, a2⟩, a3, ⟨a4, a5⟩, a6, a7, a8, a9, a10, a11, a12⟩ := h
  refine ⟨⟨by rw [up_n (by omega)]; exact a1, a2⟩, fun c' hc' => ?_, ⟨by rw [up_n (by omega)]; exact a4, by rw [up_n (by omega)]; exact a5⟩, fun c' hc' => ⟨fun f hf => ?_, fun f hf => ?_⟩, fun i hi => ?_, fun i hi => ?_, by rw [up_n (by omega)]; exact a9, by rw [up_n (by omega)]; exact a10, by rw [up_n (by omega)]; exact a11, by rw [up_n (by omega)]; exact a12⟩
  · obtain ⟨k, hk, e1⟩ := a3 c' hc'
    exact ⟨k, hk, by rw [up_n (by omega)]; exact e1⟩
  · rw [up_n (by omega)]
    show upd R.1 (11 * c + 7 + w) x (11 * c' + f) = _
    rw [up_n (by omega)]
    exact (a6 c' hc').1 f hf
  · show upd R.1 (11 * c + 7 + w) x (11 * c' + 7 + f) = _
    by_cases q : c' = c ∧ f = w
    · obtain ⟨rfl, rfl⟩ := q
      rw [up_s, up_s]
    · rw [up_n (by omega), up_n (by omega)]
      exact (a6 c' hc').2 f hf
  · rw [up_n (by omega)]
    exact a7 i hi
  · rw [up_n (by omega)]
    exact a8 i hi
/-- a place below 16 that only a scalar of the roof holds -/
theorem SM.scal {n n' : Nat} {d e : Int32} {R : Rf} {now : Nat → Int32} (h : SM n d e R now) {i : Nat} {x y1 y2 y3 y4 y5 y6 : Int32} (hi : i < 6) (b1 : upd now i x 2 = nI n' ∧ y1 = nI n') (b2 : (upd now i x 1 = 0 ∨ upd now i x 1 = 1) ∧ y3 = upd now i x 1) (b3 : y2 = upd now i x 3) (b4 : y6 = upd now i x 5) (b5 : y5 = upd now i x 4 + d) (b6 : y4 = upd now i x 0 + e) : SM n' d e (R.1, R.2.1, R.2.2.1, y1, y2, y3, y4, y5, y6) (upd now i x) := by
  obtain ⟨⟨a1, a2⟩, a3, ⟨a4, a5⟩, a6, a7, a8, a9, a10, a11, a12⟩ := h
  refine ⟨b1, fun c' hc' => ?_, b2, fun c' hc' => ⟨fun f hf => ?_, fun f hf => ?_⟩, fun i hi => ?_, fun i hi => ?_, b3, b4, b5, b6⟩
  · obtain ⟨k, hk, e1⟩ := a3 c' hc'
    exact ⟨k, hk, by rw [up_n (by omega)]; exact e1⟩
  · rw [up_n (by omega)]; exact (a6 c' hc').1 f hf
  · rw [up_n (by omega)]; exact (a6 c' hc').2 f hf
  · rw [up_n (by omega)]; exact a7 i hi
  · rw [up_n (by omega)]; exact a8 i hi
theorem SM.num {n n' : Nat} {d e : Int32} {R : Rf} {now : Nat → Int32} (h : SM n d e R now) : SM n' d e (R.1, R.2.1, R.2.2.1, nI n', R.2.2.2.2) (upd now 2 (nI n')) :=
  h.scal (i := 2) (by omega) ⟨up_s, rfl⟩ (by rw [up_n (by omega)]; exact h.2.2.1) (by rw [up_n (by omega)]; exact h.cn) (by rw [up_n (by omega)]; exact h.zz) (by rw [up_n (by omega)]; exact h.of) (by rw [up_n (by omega)]; exact h.ho)
theorem SM.cold {n : Nat} {d e : Int32} {R : Rf} {now : Nat → Int32} (h : SM n d e R now) {x : Int32} (hx : x = 0 ∨ x = 1) : SM n d e (R.1, R.2.1, R.2.2.1, R.2.2.2.1, R.2.2.2.2.1, x, R.2.2.2.2.2.2) (upd now 1 x) :=
  h.scal (i := 1) (by omega) ⟨by rw [up_n (by omega)]; exact h.n1, h.n2⟩ (by rw [up_s]; exact ⟨hx, rfl⟩) (by rw [up_n (by omega)]; exact h.cn) (by rw [up_n (by omega)]; exact h.zz) (by rw [up_n (by omega)]; exact h.of) (by rw [up_n (by omega)]; exact h.ho)
theorem SM.draw {n : Nat} {d e : Int32} {R : Rf} {now : Nat → Int32} (h : SM n d e R now) (x : Int32) : SM n d e (R.1, R.2.1, R.2.2.1, R.2.2.2.1, R.2.2.2.2.1, R.2.2.2.2.2.1, R.2.2.2.2.2.2.1, R.2.2.2.2.2.2.2.1, x) (upd now 5 x) :=
  h.scal (i := 5) (by omega) ⟨by rw [up_n (by omega)]; exact h.n1, h.n2⟩ (by rw [up_n (by omega)]; exact h.2.2.1) (by rw [up_n (by omega)]; exact h.cn) (by rw [up_s]) (by rw [up_n (by omega)]; exact h.of) (by rw [up_n (by omega)]; exact h.ho)
theorem SM.locks {n : Nat} {d e : Int32} {R : Rf} {now : Nat → Int32} (h : SM n d e R now) (x : Int32) : SM n d e (R.1, R.2.1, R.2.2.1, R.2.2.2.1, x, R.2.2.2.2.2) (upd now 3 x) :=
  h.scal (i := 3) (by omega) ⟨by rw [up_n (by omega)]; exact h.n1, h.n2⟩ (by rw [up_n (by omega)]; exact h.2.2.1) (by rw [up_s]) (by rw [up_n (by omega)]; exact h.zz) (by rw [up_n (by omega)]; exact h.of) (by rw [up_n (by omega)]; exact h.ho)
theorem SM.spot {n : Nat} {d e : Int32} {R : Rf} {now : Nat → Int32} (h : SM n d e R now) {s : Nat} (hs : s < 10) (x : Int32) : SM n d e (R.1, R.2.1, upd R.2.2.1 s x, R.2.2.2) (upd now (6 + s) x) := by
  obtain ⟨⟨a1, a2⟩, a3, ⟨a4, a5⟩, a6, a7, a8, a9, a10, a11, a12⟩ := h
  refine ⟨⟨by rw [up_n (by omega)]; exact a1, a2⟩, fun c' hc' => ?_, ⟨by rw [up_n (by omega)]; exact a4, by rw [up_n (by omega)]; exact a5⟩, fun c' hc' => ⟨fun f hf => by rw [up_n (by omega)]; exact (a6 c' hc').1 f hf, fun f hf => by rw [up_n (by omega)]; exact (a6 c' hc').2 f hf⟩, fun i hi => by rw [up_n (by omega)]; exact a7 i hi, fun i hi => ?_, by rw [up_n (by omega)]; exact a9, by rw [up_n (by omega)]; exact a10, by rw [up_n (by omega)]; exact a11, by rw [up_n (by omega)]; exact a12⟩
  · obtain ⟨k, hk, e1⟩ := a3 c' hc'
    exact ⟨k, hk, by rw [up_n (by omega)]; exact e1⟩
  · show upd R.2.2.1 s x i = _
    by_cases q : i = s
    · subst q
      rw [up_s, up_s]
    · rw [up_n q, up_n (by omega)]
      exact a8 i hi
theorem SM.lockf {n : Nat} {d e : Int32} {R : Rf} {now : Nat → Int32} (h : SM n d e R now) {j : Nat} (hj : j < 24) (x : Int32) : SM n d e (R.1, upd R.2.1 j x, R.2.2) (upd now (96 + j) x) := by
  obtain ⟨⟨a1, a2⟩, a3, ⟨a4, a5⟩, a6, a7, a8, a9, a10, a11, a12⟩ := h
  refine ⟨⟨by rw [up_n (by omega)]; exact a1, a2⟩, fun c' hc' => ?_, ⟨by rw [up_n (by omega)]; exact a4, by rw [up_n (by omega)]; exact a5⟩, fun c' hc' => ⟨fun f hf => by rw [up_n (by omega)]; exact (a6 c' hc').1 f hf, fun f hf => by rw [up_n (by omega)]; exact (a6 c' hc').2 f hf⟩, fun i hi => ?_, fun i hi => by rw [up_n (by omega)]; exact a8 i hi, by rw [up_n (by omega)]; exact a9, by rw [up_n (by omega)]; exact a10, by rw [up_n (by omega)]; exact a11, by rw [up_n (by omega)]; exact a12⟩
  · obtain ⟨k, hk, e1⟩ := a3 c' hc'
    exact ⟨k, hk, by rw [up_n (by omega)]; exact e1⟩
  · show upd R.2.1 j x i = _
    by_cases q : i = j
    · subst q
      rw [up_s, up_s]
    · rw [up_n q, up_n (by omega)]
      exact a7 i hi
/-! ===== calls that write one place ===== -/
theorem Rl.cis {now : Nat → Int32} {n k i : Nat} {x : Int32} {R' : Rf} (hn : n < 9) (h : SM n 0 0 R' (upd now i x)) (hci : CI k now) (hsp : ∀ s, s < 10 → now (6 + s) = -1 ∨ ∃ j, j < 8 ∧ now (6 + s) = nI j) (hi : 16 ≤ i ∧ i < 96 ∨ i < 6 ∧ i ≠ 3) : Rl R' (upd now i x) := by
  refine ⟨n, k, hn, h, ⟨by rw [up_n (by omega)]; exact hci.1, hci.2.1, fun l hl => ?_⟩, fun s hs => ?_⟩
  · rw [up_n (by omega), up_n (by omega), up_n (by omega)]
    exact hci.2.2 l hl
  · rw [up_n (by omega)]
    exact hsp s hs
theorem op_cold {R : Rf} {now fd found : Nat → Int32} (hR : Rl R now) (hF : Fnd fd found) (a : Int32) : P2 (fX6_cold R fd a) (fX7_cold now found a) := by
  have hR' := hR
  obtain ⟨n, k, hn, h, hci, hsp⟩ := hR
  unfold fX6_cold fX7_cold
  rw [win_v, ob, within_v, ob]
  refine P2.ite (fun hb => ?_) (fun _ => P2.fnd hR' hF (by omega) cB)
  obtain ⟨w, hw, rfl⟩ := inW (m := 1) (by omega) hb
  unfold fX7_become
  rw [show rd now 120 (1 : Int32) _ = _ from rd_v now (i := 1) _ (by omega) (by omega), show wr now 120 (1 : Int32) _ _ = _ from wr_v now (i := 1) _ _ (by omega) (by omega), o2_v, ← h.co]
  have hx : nI w = 0 ∨ nI w = 1 := by
    rcases (show w = 0 ∨ w = 1 by omega) with rfl | rfl
    · exact Or.inl rfl
    · exact Or.inr rfl
  have hRl := Rl.cis hn (h.cold hx) hci hsp (Or.inr (by omega))
  rcases h.c01 with q | q
  · rw [q, if_pos rfl]
    rcases hx with r | r
    · rw [r] at hRl ⊢
      rw [if_neg (by decide)]
      exact ⟨_, _, _, _, _, rfl, rfl, hRl, hF⟩
    · rw [r] at hRl ⊢
      rw [if_pos rfl]
      exact ⟨_, _, _, _, _, rfl, rfl, hRl, hF⟩
  · rw [q, if_neg (by decide)]
    rcases hx with r | r
    · rw [r] at hRl ⊢
      rw [if_neg (by decide)]
      exact ⟨_, _, _, _, _, rfl, rfl, hRl, hF⟩
    · rw [r] at hRl ⊢
      rw [if_pos rfl]
      exact ⟨_, _, _, _, _, rfl, rfl, hRl, hF⟩
theorem op_seed {R : Rf} {now : Nat → Int32} (hR : Rl R now) (a : Int32) : ∃ v R' now', fX6_seed R a = some (v, R') ∧ fX7_seed now a = some (v, now') ∧ Rl R' now' := by
  obtain ⟨n, k, hn, h, hci, hsp⟩ := hR
  refine ⟨_, _, upd now 5 a, rfl, ?_, Rl.cis hn (h.draw a) hci hsp (Or.inr (by omega))⟩
  unfold fX7_seed fX7_become
  rw [show rd now 120 (5 : Int32) _ = _ from rd_v now (i := 5) _ (by omega) (by omega), show wr now 120 (5 : Int32) _ _ = _ from wr_v now (i := 5) _ _ (by omega) (by omega), o2_v, h.zz]
