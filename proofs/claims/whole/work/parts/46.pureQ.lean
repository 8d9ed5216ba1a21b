/-! ===== texts: items ===== -/
def rcC (K : Tk) (Q : Tr) (R : Rf) (c : Int32) : Option (Int32 × Tr × Rf) := o2 (fX4_takePart Q K (10 : Int32) (0 : Int32) (7 : Int32) (-1 : Int32)) (fun x113 Q114 => if x113 = 0 then (some ((0 : Int32), Q114, R)) else (o2 (fX4_setTaken Q114 R c (4 : Int32)) (fun x115 R116 => if x115 = 0 then (some ((0 : Int32), Q114, R116)) else (some ((1 : Int32), Q114, R116)))))
def rcB (K : Tk) (Q : Tr) (R : Rf) (c : Int32) : Option (Int32 × Tr × Rf) := o2 (fX4_takePart Q K (9 : Int32) (0 : Int32) (9 : Int32) (1 : Int32)) (fun x109 Q110 => if x109 = 0 then (some ((0 : Int32), Q110, R)) else (o2 (fX4_setTaken Q110 R c (3 : Int32)) (fun x111 R112 => if x111 = 0 then (some ((0 : Int32), Q110, R112)) else (rcC K Q110 R112 c))))
def rcA (K : Tk) (Q : Tr) (R : Rf) (c h : Int32) : Option (Int32 × Tr × Rf) := o2 (fX4_takePart Q K (8 : Int32) (0 : Int32) h (0 : Int32)) (fun x105 Q106 => if x105 = 0 then (some ((0 : Int32), Q106, R)) else (o2 (fX4_setTaken Q106 R c (2 : Int32)) (fun x107 R108 => if x107 = 0 then (some ((0 : Int32), Q106, R108)) else (rcB K Q106 R108 c))))
def mcC (T : Mt) (x1 h l k : Int32) : Option Mt := o2 (fX7_perhaps T 10 (0 : Int32) (7 : Int32) (-1 : Int32)) (fun x108 T109 => o1 (fX7_item T109 x1 h l k x108 (0 : Int32)) (fun T110 => some T110))
def mcB (T : Mt) (x1 h l : Int32) : Option Mt := o2 (fX7_perhaps T 9 (0 : Int32) (9 : Int32) (1 : Int32)) (fun x106 T107 => mcC T107 x1 h l x106)
def mcA (T : Mt) (x1 h : Int32) : Option Mt := o2 (fX7_perhaps T 8 (0 : Int32) h (0 : Int32)) (fun x104 T105 => mcB T105 x1 h x104)
theorem mcC_w {D : Nat → Int32} {m t c : Nat} (hc : c < 120) (it : Nat → Int32) (ct lt x1 h l k : Int32) : ∃ it', mcC (TT D m t it 1 (nI c) ct lt) x1 h l k = some (TT D m t it' 1 (nI (c + 1)) ct lt) := by
  unfold mcC
  rw [perhaps_w, o2_v, item_v hc, o1_v]
  exact ⟨_, rfl⟩
theorem mcB_w {D : Nat → Int32} {m t c : Nat} (hc : c < 120) (it : Nat → Int32) (ct lt x1 h l : Int32) : ∃ it', mcB (TT D m t it 1 (nI c) ct lt) x1 h l = some (TT D m t it' 1 (nI (c + 1)) ct lt) := by
  unfold mcB
  rw [perhaps_w, o2_v]
  exact mcC_w hc it ct lt _ _ _ _
theorem mcA_w {D : Nat → Int32} {m t c : Nat} (hc : c < 120) (it : Nat → Int32) (ct lt x1 h : Int32) : ∃ it', mcA (TT D m t it 1 (nI c) ct lt) x1 h = some (TT D m t it' 1 (nI (c + 1)) ct lt) := by
  unfold mcA
  rw [perhaps_w, o2_v]
  exact mcB_w hc it ct lt _ _ _
theorem setT_v (R : Rf) {n w : Nat} (hn : n < 8) (hw : w < 11) (a v : Int32) : fX4_setTaken (a, v) R (nI n) (nI w) = some (1, (upd R.1 (11 * n + w) v, R.2)) := by
  show o1 (fX1_set R (nI n) (nI w) v) (fun R101 => some ((1 : Int32), R101)) = _
  rw [set_v R v hn hw, o1_v]
/-- both sides go on well, or both don't -/
def Jn (D : Nat → Int32) (m t c : Nat) (X : Option (Int32 × Tr × Rf)) (Y : Option Mt) (R : Rf) (ok : Nat → Int32 → Rf → (Nat → Int32) → Prop) (im ct lt : Int32) : Prop := (∃ t' x' R' it', X = some (1, (nI t', x'), R') ∧ Y = some (TT D m t' it' 0 im ct lt) ∧ t ≤ t' ∧ t' ≤ 120 ∧ ok t' x' R' it') ∨ ∃ t' x' R' it' ct' lt', X = some (0, (nI t', x'), R') ∧ Y = some (TT D m t' it' 1 im ct' lt') ∧ t' ≤ 120 ∧ R'.2.2.2.2.2.1 = R.2.2.2.2.2.1
theorem rcC_j {D : Nat → Int32} {m t c n : Nat} (hm : m ≤ 120) (hD : ∀ i, i < m → ∃ b, b < 256 ∧ D i = nI b) {s1 s2 s3 : Nat → Int32} {ln pl : Int32} (hC : Cut D m 121 s1 s2 s3) (ht : t ≤ 120) (hc : c < 120) (hn : n < 8) (x : Int32) (R : Rf) (it : Nat → Int32) (ct lt x1 h l k : Int32) : Jn D m t c (rcC (KT s1 s2 s3 ln pl) (nI t, x) R (nI n)) (mcC (TT D m t it 0 (nI c) ct lt) x1 h l k) R (fun _ _ R' it' => ∃ gt, R' = (upd R.1 (11 * n + 4) gt, R.2) ∧ it' = it6 it c x1 h l k gt 0) (nI (c + 1)) ct lt := by
  unfold rcC mcC
  rcases part_j (ln := ln) (pl := pl) (j := 10) hm hD hC ht (by omega) x 0 7 (-1) it (nI c) ct lt with ⟨t', v, e1, e2, e3, e4⟩ | ⟨t', x', v, e1, e2, e3⟩
  · rw [show fX4_takePart (nI t, x) (KT s1 s2 s3 ln pl) (10 : Int32) (0 : Int32) (7 : Int32) (-1 : Int32) = _ from e1, o2_v, if_neg (show ¬ (1 : Int32) = 0 by decide), show fX4_setTaken (nI t', v) R (nI n) (4 : Int32) = _ from setT_v R hn (w := 4) (by omega) _ v, o2_v, if_neg (show ¬ (1 : Int32) = 0 by decide), e2, o2_v, item_v hc, o1_v]
    exact Or.inl ⟨t', v, _, _, rfl, rfl, e3, e4, v, rfl, rfl⟩
  · rw [show fX4_takePart (nI t, x) (KT s1 s2 s3 ln pl) (10 : Int32) (0 : Int32) (7 : Int32) (-1 : Int32) = _ from e1, o2_v, if_pos rfl, e2, o2_v, item_v hc, o1_v]
    exact Or.inr ⟨t', x', R, _, _, _, rfl, rfl, e3, rfl⟩
theorem rcB_j {D : Nat → Int32} {m t c n : Nat} (hm : m ≤ 120) (hD : ∀ i, i < m → ∃ b, b < 256 ∧ D i = nI b) {s1 s2 s3 : Nat → Int32} {ln pl : Int32} (hC : Cut D m 121 s1 s2 s3) (ht : t ≤ 120) (hc : c < 120) (hn : n < 8) (x : Int32) (R : Rf) (it : Nat → Int32) (ct lt x1 h l : Int32) : Jn D m t c (rcB (KT s1 s2 s3 ln pl) (nI t, x) R (nI n)) (mcB (TT D m t it 0 (nI c) ct lt) x1 h l) R (fun _ _ R' it' => ∃ lk gt, R' = (upd (upd R.1 (11 * n + 3) lk) (11 * n + 4) gt, R.2) ∧ it' = it6 it c x1 h l lk gt 0) (nI (c + 1)) ct lt := by
  unfold rcB mcB
  rcases part_j (ln := ln) (pl := pl) (j := 9) hm hD hC ht (by omega) x 0 9 1 it (nI c) ct lt with ⟨t', v, e1, e2, e3, e4⟩ | ⟨t', x', v, e1, e2, e3⟩
  · rw [show fX4_takePart (nI t, x) (KT s1 s2 s3 ln pl) (9 : Int32) (0 : Int32) (9 : Int32) (1 : Int32) = _ from e1, o2_v, if_neg (show ¬ (1 : Int32) = 0 by decide), show fX4_setTaken (nI t', v) R (nI n) (3 : Int32) = _ from setT_v R hn (w := 3) (by omega) _ v, o2_v, if_neg (show ¬ (1 : Int32) = 0 by decide), e2, o2_v]
    rcases rcC_j (ln := ln) (pl := pl) hm hD hC e4 hc hn v (upd R.1 (11 * n + 3) v, R.2) it ct lt x1 h l v with ⟨t2, x2, R2, it2, f1, f2, f3, f4, gt, f5, f6⟩ | ⟨t2, x2, R2, it2, ct2, lt2, f1, f2, f3, f4⟩
    · exact Or.inl ⟨t2, x2, R2, it2, f1, f2, by omega, f4, v, gt, f5, f6⟩
    · exact Or.inr ⟨t2, x2, R2, it2, ct2, lt2, f1, f2, f3, f4⟩
  · obtain ⟨it2, f⟩ := mcC_w (D := D) (m := m) (t := t') hc it ct lt x1 h l v
    rw [show fX4_takePart (nI t, x) (KT s1 s2 s3 ln pl) (9 : Int32) (0 : Int32) (9 : Int32) (1 : Int32) = _ from e1, o2_v, if_pos rfl, e2, o2_v, f]
    exact Or.inr ⟨t', x', R, it2, _, _, rfl, rfl, e3, rfl⟩
theorem rcA_j {D : Nat → Int32} {m t c n : Nat} (hm : m ≤ 120) (hD : ∀ i, i < m → ∃ b, b < 256 ∧ D i = nI b) {s1 s2 s3 : Nat → Int32} {ln pl : Int32} (hC : Cut D m 121 s1 s2 s3) (ht : t ≤ 120) (hc : c < 120) (hn : n < 8) (x : Int32) (R : Rf) (it : Nat → Int32) (ct lt x1 h : Int32) : Jn D m t c (rcA (KT s1 s2 s3 ln pl) (nI t, x) R (nI n) h) (mcA (TT D m t it 0 (nI c) ct lt) x1 h) R (fun _ _ R' it' => ∃ lv lk gt, R' = (upd (upd (upd R.1 (11 * n + 2) lv) (11 * n + 3) lk) (11 * n + 4) gt, R.2) ∧ it' = it6 it c x1 h lv lk gt 0) (nI (c + 1)) ct lt := by
  unfold rcA mcA
  rcases part_j (ln := ln) (pl := pl) (j := 8) hm hD hC ht (by omega) x 0 h 0 it (nI c) ct lt with ⟨t', v, e1, e2, e3, e4⟩ | ⟨t', x', v, e1, e2, e3⟩
  · rw [show fX4_takePart (nI t, x) (KT s1 s2 s3 ln pl) (8 : Int32) (0 : Int32) h (0 : Int32) = _ from e1, o2_v, if_neg (show ¬ (1 : Int32) = 0 by decide), show fX4_setTaken (nI t', v) R (nI n) (2 : Int32) = _ from setT_v R hn (w := 2) (by omega) _ v, o2_v, if_neg (show ¬ (1 : Int32) = 0 by decide), e2, o2_v]
    rcases rcB_j (ln := ln) (pl := pl) hm hD hC e4 hc hn v (upd R.1 (11 * n + 2) v, R.2) it ct lt x1 h v with ⟨t2, x2, R2, it2, f1, f2, f3, f4, lk, gt, f5, f6⟩ | ⟨t2, x2, R2, it2, ct2, lt2, f1, f2, f3, f4⟩
    · exact Or.inl ⟨t2, x2, R2, it2, f1, f2, by omega, f4, v, lk, gt, f5, f6⟩
    · exact Or.inr ⟨t2, x2, R2, it2, ct2, lt2, f1, f2, f3, f4⟩
  · obtain ⟨it2, f⟩ := mcB_w (D := D) (m := m) (t := t') hc it ct lt x1 h v
    rw [show fX4_takePart (nI t, x) (KT s1 s2 s3 ln pl) (8 : Int32) (0 : Int32) h (0 : Int32) = _ from e1, o2_v, if_pos rfl, e2, o2_v, f]
    exact Or.inr ⟨t', x', R, it2, _, _, rfl, rfl, e3, rfl⟩
/-- a cistern's item, at its word -/
theorem rc_j {D : Nat → Int32} {m t c n kd : Nat} (hm : m ≤ 120) (hD : ∀ i, i < m → ∃ b, b < 256 ∧ D i = nI b) {s1 s2 s3 : Nat → Int32} {ln pl : Int32} (hC : Cut D m 121 s1 s2 s3) (ht : t < 120) (hc : c < 120) (hn : n < 9) (x : Int32) {R : Rf} (hR : R.2.2.2.1 = nI n) (it : Nat → Int32) (lt : Int32) : (∃ t' x' it' hi lv lk gt, fX4_readCistern (nI t, x) (KT s1 s2 s3 ln pl) R (nI kd) = some (1, (nI t', x'), (upd (upd (upd (addR R n (nI kd) hi 0 1 (-1)) (11 * n + 2) lv) (11 * n + 3) lk) (11 * n + 4) gt, R.2.1, R.2.2.1, nI (n + 1), R.2.2.2.2)) ∧ fX7_readCistern (TT D m t it 0 (nI c) (nI n) lt) (nI kd) = some (TT D m t' it' 0 (nI (c + 1)) (nI (n + 1)) lt) ∧ t < t' ∧ t' ≤ 120 ∧ n < 8 ∧ it' = it6 it c (nI kd) hi lv lk gt 0) ∨ ∃ t' x' R' it' ct' lt', fX4_readCistern (nI t, x) (KT s1 s2 s3 ln pl) R (nI kd) = some (0, (nI t', x'), R') ∧ fX7_readCistern (TT D m t it 0 (nI c) (nI n) lt) (nI kd) = some (TT D m t' it' 1 (nI (c + 1)) ct' lt') ∧ t' ≤ 120 ∧ R'.2.2.2.2.2.1 = R.2.2.2.2.2.1 := by
  have st6 : fX4_readCistern (nI t, x) (KT s1 s2 s3 ln pl) R (nI kd) = if R.2.2.2.1 < (8 : Int32) then (o2 (fX4_takePart (nI t + (1 : Int32), x) (KT s1 s2 s3 ln pl) (7 : Int32) (1 : Int32) (40 : Int32) (10 : Int32)) (fun x101 Q102 => if x101 = 0 then (some ((0 : Int32), Q102, R)) else (o2 (fX1_addCistern R (nI kd) Q102.2) (fun x103 R104 => rcA (KT s1 s2 s3 ln pl) Q102 R104 x103 Q102.2)))) else (some ((0 : Int32), (nI t, x), R)) := rfl
  have st7 : ∀ y0 : Int32, fX7_readCistern_J15 (TT D m t it 0 (nI c) (nI n) lt) (nI kd) y0 = o1 (fX7_must (TT D m t it 0 (nI c) (nI n) lt) y0) (fun T101 => o2 (fX7_perhaps (T101.1, T101.2.1, T101.2.2.1, T101.2.2.2.1, T101.2.2.2.2.1, T101.2.2.2.2.2.1, T101.2.2.2.2.2.2.1, T101.2.2.2.2.2.2.2.1, T101.2.2.2.2.2.2.2.2.1, (T101.2.2.2.2.2.2.2.2.2.1 + (1 : Int32)), T101.2.2.2.2.2.2.2.2.2.2) 7 (1 : Int32) (40 : Int32) (10 : Int32)) (fun x102 T103 => mcA T103 (nI kd) x102)) := fun _ => rfl
  have st8 : fX7_readCistern (TT D m t it 0 (nI c) (nI n) lt) (nI kd) = if (8 : Int32) ≤ nI n then (fX7_readCistern_J15 (TT D m t it 0 (nI c) (nI n) lt) (nI kd) (0 : Int32)) else (fX7_readCistern_J15 (TT D m t it 0 (nI c) (nI n) lt) (nI kd) (1 : Int32)) := rfl
  rw [st6, st8, hR]
  by_cases h8 : n = 8
  · rw [if_neg (show ¬ nI n < (8 : Int32) from nI_nlt (b := 8) (by omega) (by omega)), if_pos (show (8 : Int32) ≤ nI n from nI_le (a := 8) (by omega) (by omega)), st7, must_f, o1_v]
    obtain ⟨it2, f⟩ := mcA_w (D := D) (m := m) (t := t) hc it (nI n + 1) lt (nI kd) 10
    exact Or.inr ⟨t, x, R, it2, nI n + 1, lt, rfl, f, by omega, rfl⟩
  · rw [if_pos (show nI n < (8 : Int32) from nI_lt (b := 8) (by omega) (by omega)), if_neg (show ¬ (8 : Int32) ≤ nI n from nle (b := 8) (by omega) (by omega)), st7, must_t hm hD, o1_v, show nI t + (1 : Int32) = nI (t + 1) from nI_1 t]
    show (∃ t' x' it' hi lv lk gt, _ ∧ o2 (fX7_perhaps (TT D m (t + 1) it 0 (nI c) (nI n + (1 : Int32)) lt) 7 (1 : Int32) (40 : Int32) (10 : Int32)) (fun x102 T103 => mcA T103 (nI kd) x102) = _ ∧ _) ∨ ∃ t' x' R' it' ct' lt', _ ∧ o2 (fX7_perhaps (TT D m (t + 1) it 0 (nI c) (nI n + (1 : Int32)) lt) 7 (1 : Int32) (40 : Int32) (10 : Int32)) (fun x102 T103 => mcA T103 (nI kd) x102) = _ ∧ _
    rw [show nI n + (1 : Int32) = nI (n + 1) from nI_1 n]
    rcases part_j (ln := ln) (pl := pl) (j := 7) (t := t + 1) hm hD hC (by omega) (by omega) x 1 40 10 it (nI c) (nI (n + 1)) lt with ⟨t', v, e1, e2, e3, e4⟩ | ⟨t', x', v, e1, e2, e3⟩
    · rw [show fX4_takePart (nI (t + 1), x) (KT s1 s2 s3 ln pl) (7 : Int32) (1 : Int32) (40 : Int32) (10 : Int32) = _ from e1, o2_v, if_neg (show ¬ (1 : Int32) = 0 by decide), add_v hR (by omega), o2_v, e2, o2_v]
      rcases rcA_j (ln := ln) (pl := pl) (n := n) hm hD hC e4 hc (by omega) v (addR R n (nI kd) v 0 1 (-1), R.2.1, R.2.2.1, nI (n + 1), R.2.2.2.2) it (nI (n + 1)) lt (nI kd) v with ⟨t2, x2, R2, it2, f1, f2, f3, f4, lv, lk, gt, f5, f6⟩ | ⟨t2, x2, R2, it2, ct2, lt2, f1, f2, f3, f4⟩
      · refine Or.inl ⟨t2, x2, it2, v, lv, lk, gt, ?_, f2, by omega, f4, by omega, f6⟩
        rw [← f5]
        exact f1
      · exact Or.inr ⟨t2, x2, R2, it2, ct2, lt2, f1, f2, f3, f4⟩
    · obtain ⟨it2, f⟩ := mcA_w (D := D) (m := m) (t := t') hc it (nI (n + 1)) lt (nI kd) v
      rw [show fX4_takePart (nI (t + 1), x) (KT s1 s2 s3 ln pl) (7 : Int32) (1 : Int32) (40 : Int32) (10 : Int32) = _ from e1, o2_v, if_pos rfl, e2, o2_v, f]
      exact Or.inr ⟨t', x', R, it2, _, _, rfl, rfl, e3, rfl⟩
/-! catches -/
def kc4 (T : Mt) (c v1 v2 v3 : Int32) : Option Mt := o2 (fX7_number T (0 : Int32) (9 : Int32)) (fun x131 T132 => o1 (fX7_item T132 (10 : Int32) c v1 v2 v3 x131) (fun T133 => some T133))
def kc3 (T : Mt) (c v1 v2 : Int32) : Option Mt := o2 (fX7_number T (0 : Int32) (9 : Int32)) (fun x129 T130 => kc4 T130 c v1 v2 x129)
def kc2 (T : Mt) (c v1 : Int32) : Option Mt := o2 (fX7_number T (0 : Int32) (9 : Int32)) (fun x127 T128 => kc3 T128 c v1 x127)
def kc1 (T : Mt) (c : Int32) : Option Mt := o2 (fX7_number T (0 : Int32) (9 : Int32)) (fun x125 T126 => kc2 T126 c x125)
theorem kc4_w {D : Nat → Int32} {m t c : Nat} (hc : c < 120) (it : Nat → Int32) (ct lt a b d e : Int32) : ∃ it', kc4 (TT D m t it 1 (nI c) ct lt) a b d e = some (TT D m t it' 1 (nI (c + 1)) ct lt) := by
  unfold kc4
  rw [num_w, o2_v, item_v hc, o1_v]
  exact ⟨_, rfl⟩
theorem kc3_w {D : Nat → Int32} {m t c : Nat} (hc : c < 120) (it : Nat → Int32) (ct lt a b d : Int32) : ∃ it', kc3 (TT D m t it 1 (nI c) ct lt) a b d = some (TT D m t it' 1 (nI (c + 1)) ct lt) := by
  unfold kc3
  rw [num_w, o2_v]
  exact kc4_w hc it ct lt _ _ _ _
theorem kc2_w {D : Nat → Int32} {m t c : Nat} (hc : c < 120) (it : Nat → Int32) (ct lt a b : Int32) : ∃ it', kc2 (TT D m t it 1 (nI c) ct lt) a b = some (TT D m t it' 1 (nI (c + 1)) ct lt) := by
  unfold kc2
  rw [num_w, o2_v]
  exact kc3_w hc it ct lt _ _ _
theorem kc1_w {D : Nat → Int32} {m t c : Nat} (hc : c < 120) (it : Nat → Int32) (ct lt a : Int32) : ∃ it', kc1 (TT D m t it 1 (nI c) ct lt) a = some (TT D m t it' 1 (nI (c + 1)) ct lt) := by
  unfold kc1
  rw [num_w, o2_v]
  exact kc2_w hc it ct lt _ _
theorem cL_s (K : Tk) {a i : Nat} (ha : a < 8) (hi : i < 4) (f t : Nat) (x : Int32) (R : Rf) : fX4_readCatch_L36 K (nI a) (fun Q109 R110 => some ((1 : Int32), Q109, R110)) (f + 1) (nI t, x) R (nI i) = o2 (fX4_takeNumber (nI t, x) K (0 : Int32) (9 : Int32)) (fun x106 Q107 => if x106 = 0 then (some ((0 : Int32), Q107, R)) else (fX4_readCatch_L36 K (nI a) (fun Q109 R110 => some ((1 : Int32), Q109, R110)) f Q107 (upd R.1 (11 * a + 7 + i) Q107.2, R.2) (nI (i + 1)))) := by
  rw [fX4_readCatch_L36, if_neg (show ¬ (4 : Int32) ≤ nI i from nle (b := 4) (by omega) (by omega)), show nI i + (1 : Int32) = nI (i + 1) from nI_1 i]
  congr 1
  funext x106 Q107
  by_cases q : x106 = 0
  · rw [if_pos q, if_pos q]
  · rw [if_neg q, if_neg q, set_7 R _ ha hi, o1_v]
theorem kc4_j {D : Nat → Int32} {m t c a : Nat} (hm : m ≤ 120) (hD : ∀ i, i < m → ∃ b, b < 256 ∧ D i = nI b) {s1 s2 s3 : Nat → Int32} {ln pl : Int32} (hC : Cut D m 121 s1 s2 s3) (ht : t ≤ 120) (hc : c < 120) (ha : a < 8) (x : Int32) (R : Rf) (it : Nat → Int32) (ct lt v1 v2 v3 : Int32) {f : Nat} (hf : 10 < f) : Jn D m t c (fX4_readCatch_L36 (KT s1 s2 s3 ln pl) (nI a) (fun Q109 R110 => some ((1 : Int32), Q109, R110)) f (nI t, x) R (nI 3)) (kc4 (TT D m t it 0 (nI c) ct lt) (nI a) v1 v2 v3) R (fun _ _ R' it' => ∃ v4, R' = (upd R.1 (11 * a + 7 + 3) v4, R.2) ∧ it' = it6 it c 10 (nI a) v1 v2 v3 v4) (nI (c + 1)) ct lt := by
  obtain ⟨f, rfl⟩ : ∃ z, f = z + 2 := ⟨f - 2, by omega⟩
  unfold kc4
  rw [cL_s _ ha (by omega)]
  rcases num_j (ln := ln) (pl := pl) hm hD hC ht x 0 9 it (nI c) ct lt with ⟨v, e1, e2, e3, e4, e5⟩ | ⟨e1, v, e2⟩
  · rw [e1, o2_v, if_neg (show ¬ (1 : Int32) = 0 by decide), fX4_readCatch_L36, if_pos (show (4 : Int32) ≤ nI (3 + 1) by decide), e2, o2_v, item_v hc, o1_v]
    exact Or.inl ⟨t + 1, v, _, _, rfl, rfl, by omega, by omega, v, rfl, rfl⟩
  · rw [e1, o2_v, if_pos rfl, e2, o2_v, item_v hc, o1_v]
    exact Or.inr ⟨t, x, R, _, _, _, rfl, rfl, ht, rfl⟩
theorem kc3_j {D : Nat → Int32} {m t c a : Nat} (hm : m ≤ 120) (hD : ∀ i, i < m → ∃ b, b < 256 ∧ D i = nI b) {s1 s2 s3 : Nat → Int32} {ln pl : Int32} (hC : Cut D m 121 s1 s2 s3) (ht : t ≤ 120) (hc : c < 120) (ha : a < 8) (x : Int32) (R : Rf) (it : Nat → Int32) (ct lt v1 v2 : Int32) {f : Nat} (hf : 11 < f) : Jn D m t c (fX4_readCatch_L36 (KT s1 s2 s3 ln pl) (nI a) (fun Q109 R110 => some ((1 : Int32), Q109, R110)) f (nI t, x) R (nI 2)) (kc3 (TT D m t it 0 (nI c) ct lt) (nI a) v1 v2) R (fun _ _ R' it' => ∃ v3 v4, R' = (upd (upd R.1 (11 * a + 7 + 2) v3) (11 * a + 7 + 3) v4, R.2) ∧ it' = it6 it c 10 (nI a) v1 v2 v3 v4) (nI (c + 1)) ct lt := by
  obtain ⟨f, rfl⟩ : ∃ z, f = z + 1 := ⟨f - 1, by omega⟩
  unfold kc3
  rw [cL_s _ ha (by omega)]
  rcases num_j (ln := ln) (pl := pl) hm hD hC ht x 0 9 it (nI c) ct lt with ⟨v, e1, e2, e3, e4, e5⟩ | ⟨e1, v, e2⟩
  · rw [e1, o2_v, if_neg (show ¬ (1 : Int32) = 0 by decide), e2, o2_v]
    rcases kc4_j (ln := ln) (pl := pl) (t := t + 1) hm hD hC (by omega) hc ha v (upd R.1 (11 * a + 7 + 2) v, R.2) it ct lt v1 v2 v (f := f) (by omega) with ⟨t2, x2, R2, it2, f1, f2, f3, f4, v4, f5, f6⟩ | ⟨t2, x2, R2, it2, ct2, lt2, f1, f2, f3, f4⟩
    · exact Or.inl ⟨t2, x2, R2, it2, f1, f2, by omega, f4, v, v4, f5, f6⟩
    · exact Or.inr ⟨t2, x2, R2, it2, ct2, lt2, f1, f2, f3, f4⟩
  · obtain ⟨it2, g⟩ := kc4_w (D := D) (m := m) (t := t) hc it ct lt (nI a) v1 v2 v
    rw [e1, o2_v, if_pos rfl, e2, o2_v, g]
    exact Or.inr ⟨t, x, R, it2, _, _, rfl, rfl, ht, rfl⟩
theorem kc2_j {D : Nat → Int32} {m t c a : Nat} (hm : m ≤ 120) (hD : ∀ i, i < m → ∃ b, b < 256 ∧ D i = nI b) {s1 s2 s3 : Nat → Int32} {ln pl : Int32} (hC : Cut D m 121 s1 s2 s3) (ht : t ≤ 120) (hc : c < 120) (ha : a < 8) (x : Int32) (R : Rf) (it : Nat → Int32) (ct lt v1 : Int32) {f : Nat} (hf : 12 < f) : Jn D m t c (fX4_readCatch_L36 (KT s1 s2 s3 ln pl) (nI a) (fun Q109 R110 => some ((1 : Int32), Q109, R110)) f (nI t, x) R (nI 1)) (kc2 (TT D m t it 0 (nI c) ct lt) (nI a) v1) R (fun _ _ R' it' => ∃ v2 v3 v4, R' = (upd (upd (upd R.1 (11 * a + 7 + 1) v2) (11 * a + 7 + 2) v3) (11 * a + 7 + 3) v4, R.2) ∧ it' = it6 it c 10 (nI a) v1 v2 v3 v4) (nI (c + 1)) ct lt := by
  obtain ⟨f, rfl⟩ : ∃ z, f = z + 1 := ⟨f - 1, by omega⟩
  unfold kc2
  rw [cL_s _ ha (by omega)]
  rcases num_j (ln := ln) (pl := pl) hm hD hC ht x 0 9 it (nI c) ct lt with ⟨v, e1, e2, e3, e4, e5⟩ | ⟨e1, v, e2⟩
  · rw [e1, o2_v, if_neg (show ¬ (1 : Int32) = 0 by decide), e2, o2_v]
    rcases kc3_j (ln := ln) (pl := pl) (t := t + 1) hm hD hC (by omega) hc ha v (upd R.1 (11 * a + 7 + 1) v, R.2) it ct lt v1 v (f := f) (by omega) with ⟨t2, x2, R2, it2, f1, f2, f3, f4, v3, v4, f5, f6⟩ | ⟨t2, x2, R2, it2, ct2, lt2, f1, f2, f3, f4⟩
    · exact Or.inl ⟨t2, x2, R2, it2, f1, f2, by omega, f4, v, v3, v4, f5, f6⟩
    · exact Or.inr ⟨t2, x2, R2, it2, ct2, lt2, f1, f2, f3, f4⟩
  · obtain ⟨it2, g⟩ := kc3_w (D := D) (m := m) (t := t) hc it ct lt (nI a) v1 v
    rw [e1, o2_v, if_pos rfl, e2, o2_v, g]
    exact Or.inr ⟨t, x, R, it2, _, _, rfl, rfl, ht, rfl⟩
theorem kc1_j {D : Nat → Int32} {m t c a : Nat} (hm : m ≤ 120) (hD : ∀ i, i < m → ∃ b, b < 256 ∧ D i = nI b) {s1 s2 s3 : Nat → Int32} {ln pl : Int32} (hC : Cut D m 121 s1 s2 s3) (ht : t ≤ 120) (hc : c < 120) (ha : a < 8) (x : Int32) (R : Rf) (it : Nat → Int32) (ct lt : Int32) {f : Nat} (hf : 13 < f) : Jn D m t c (fX4_readCatch_L36 (KT s1 s2 s3 ln pl) (nI a) (fun Q109 R110 => some ((1 : Int32), Q109, R110)) f (nI t, x) R (nI 0)) (kc1 (TT D m t it 0 (nI c) ct lt) (nI a)) R (fun _ _ R' it' => ∃ v1 v2 v3 v4, R' = (upd (upd (upd (upd R.1 (11 * a + 7 + 0) v1) (11 * a + 7 + 1) v2) (11 * a + 7 + 2) v3) (11 * a + 7 + 3) v4, R.2) ∧ it' = it6 it c 10 (nI a) v1 v2 v3 v4) (nI (c + 1)) ct lt := by
  obtain ⟨f, rfl⟩ : ∃ z, f = z + 1 := ⟨f - 1, by omega⟩
  unfold kc1
  rw [cL_s _ ha (by omega)]
  rcases num_j (ln := ln) (pl := pl) hm hD hC ht x 0 9 it (nI c) ct lt with ⟨v, e1, e2, e3, e4, e5⟩ | ⟨e1, v, e2⟩
  · rw [e1, o2_v, if_neg (show ¬ (1 : Int32) = 0 by decide), e2, o2_v]
    rcases kc2_j (ln := ln) (pl := pl) (t := t + 1) hm hD hC (by omega) hc ha v (upd R.1 (11 * a + 7 + 0) v, R.2) it ct lt v (f := f) (by omega) with ⟨t2, x2, R2, it2, f1, f2, f3, f4, v2, v3, v4, f5, f6⟩ | ⟨t2, x2, R2, it2, ct2, lt2, f1, f2, f3, f4⟩
    · exact Or.inl ⟨t2, x2, R2, it2, f1, f2, by omega, f4, v, v2, v3, v4, f5, f6⟩
    · exact Or.inr ⟨t2, x2, R2, it2, ct2, lt2, f1, f2, f3, f4⟩
  · obtain ⟨it2, g⟩ := kc2_w (D := D) (m := m) (t := t) hc it ct lt (nI a) v
    rw [e1, o2_v, if_pos rfl, e2, o2_v, g]
    exact Or.inr ⟨t, x, R, it2, _, _, rfl, rfl, ht, rfl⟩
/-- a catch's item: the model's, behind its word -/
def kc0 (T : Mt) : Option Mt := o1 (fX7_must T (1 : Int32)) (fun T122 => o2 (fX7_number T122 (0 : Int32) (T122.2.2.2.2.2.2.2.2.2.1 - (1 : Int32))) (fun x123 T124 => kc1 T124 x123))
theorem kc_j {D : Nat → Int32} {m t c n : Nat} (hm : m ≤ 120) (hD : ∀ i, i < m → ∃ b, b < 256 ∧ D i = nI b) {s1 s2 s3 : Nat → Int32} {ln pl : Int32} (hC : Cut D m 121 s1 s2 s3) (ht : t < 120) (hc : c < 120) (hn : n < 9) (x : Int32) {R : Rf} (hR : R.2.2.2.1 = nI n) (it : Nat → Int32) (lt : Int32) : Jn D m (t + 1) c (fX4_readCatch (nI t, x) (KT s1 s2 s3 ln pl) R) (kc0 (TT D m t it 0 (nI c) (nI n) lt)) R (fun _ _ R' it' => ∃ a v1 v2 v3 v4, a < n ∧ R' = (upd (upd (upd (upd R.1 (11 * a + 7 + 0) v1) (11 * a + 7 + 1) v2) (11 * a + 7 + 2) v3) (11 * a + 7 + 3) v4, R.2) ∧ it' = it6 it c 10 (nI a) v1 v2 v3 v4) (nI (c + 1)) (nI n) lt := by
  have st6 : fX4_readCatch (nI t, x) (KT s1 s2 s3 ln pl) R = o2 (fX4_takeNumber (nI t + (1 : Int32), x) (KT s1 s2 s3 ln pl) (0 : Int32) (R.2.2.2.1 - (1 : Int32))) (fun x101 Q102 => if x101 = 0 then (some ((0 : Int32), Q102, R)) else (fX4_readCatch_L36 (KT s1 s2 s3 ln pl) Q102.2 (fun Q109 R110 => some ((1 : Int32), Q109, R110)) fu Q102 R (0 : Int32))) := rfl
  unfold kc0
  rw [st6, must_t hm hD, o1_v, hR, show nI t + (1 : Int32) = nI (t + 1) from nI_1 t]
  show Jn D m (t + 1) c _ (o2 (fX7_number (TT D m (t + 1) it 0 (nI c) (nI n) lt) (0 : Int32) (nI n - (1 : Int32))) (fun x123 T124 => kc1 T124 x123)) R _ _ _ _
  rcases num_j (ln := ln) (pl := pl) (t := t + 1) hm hD hC (by omega) x 0 (nI n - (1 : Int32)) it (nI c) (nI n) lt with ⟨v, e1, e2, e3, e4, e5⟩ | ⟨e1, v, e2⟩
  · obtain ⟨a, ha, rfl⟩ := inC (n := n) (by omega) ⟨e3, (nlt_pred (by omega) e3).mp e4⟩
    rw [e1, o2_v, if_neg (show ¬ (1 : Int32) = 0 by decide), e2, o2_v]
    rcases kc1_j (ln := ln) (pl := pl) (t := t + 1 + 1) (a := a) hm hD hC (by omega) hc (by omega) (nI a) R it (nI n) lt (f := fu) (fu_gt (by omega)) with ⟨t2, x2, R2, it2, f1, f2, f3, f4, v1, v2, v3, v4, f5, f6⟩ | ⟨t2, x2, R2, it2, ct2, lt2, f1, f2, f3, f4⟩
    · exact Or.inl ⟨t2, x2, R2, it2, f1, f2, by omega, f4, a, v1, v2, v3, v4, ha, f5, f6⟩
    · exact Or.inr ⟨t2, x2, R2, it2, ct2, lt2, f1, f2, f3, f4⟩
  · obtain ⟨it2, g⟩ := kc1_w (D := D) (m := m) (t := t + 1) hc it (nI n) lt v
    rw [e1, o2_v, if_pos rfl, e2, o2_v, g]
    exact Or.inr ⟨t + 1, x, R, it2, _, _, rfl, rfl, by omega, rfl⟩
/-! locks -/
def kl3 (T : Mt) (s a x118 : Int32) : Option Mt := o2 (fX7_number T (0 : Int32) x118) (fun x119 T120 => o1 (fX7_item T120 (11 : Int32) s a x119 (0 : Int32) (0 : Int32)) (fun T121 => some T121))
def kl2 (T : Mt) (s : Int32) : Option Mt := o2 (fX7_number T (0 : Int32) (7 : Int32)) (fun x116 T117 => o1 (fX7_mostOfB s) (fun x118 => kl3 T117 s x116 x118))
def kl1 (T : Mt) : Option Mt := o2 (fX7_number T (0 : Int32) (4 : Int32)) (fun x114 T115 => kl2 T115 x114)
theorem kl3_w {D : Nat → Int32} {m t c : Nat} (hc : c < 120) (it : Nat → Int32) (ct lt s a b : Int32) : ∃ it', kl3 (TT D m t it 1 (nI c) ct lt) s a b = some (TT D m t it' 1 (nI (c + 1)) ct lt) := by
  unfold kl3
  rw [num_w, o2_v, item_v hc, o1_v]
  exact ⟨_, rfl⟩
theorem kl2_w {D : Nat → Int32} {m t c : Nat} (hc : c < 120) (it : Nat → Int32) (ct lt s : Int32) : ∃ it', kl2 (TT D m t it 1 (nI c) ct lt) s = some (TT D m t it' 1 (nI (c + 1)) ct lt) := by
  unfold kl2
  rw [num_w, o2_v, (most_v s).2, o1_v]
  exact kl3_w hc it ct lt _ _ _
theorem kl1_w {D : Nat → Int32} {m t c : Nat} (hc : c < 120) (it : Nat → Int32) (ct lt : Int32) : ∃ it', kl1 (TT D m t it 1 (nI c) ct lt) = some (TT D m t it' 1 (nI (c + 1)) ct lt) := by
  unfold kl1
  rw [num_w, o2_v]
  exact kl2_w hc it ct lt _
/-- a lock's item, at its word: the model's -/
def kl0 (T : Mt) (y0 : Int32) : Option Mt := o1 (fX7_must T y0) (fun T113 => kl1 (T113.1, T113.2.1, T113.2.2.1, T113.2.2.2.1, T113.2.2.2.2.1, T113.2.2.2.2.2.1, T113.2.2.2.2.2.2.1, T113.2.2.2.2.2.2.2.1, T113.2.2.2.2.2.2.2.2.1, T113.2.2.2.2.2.2.2.2.2.1, (T113.2.2.2.2.2.2.2.2.2.2 + (1 : Int32))))
theorem kl_j {D : Nat → Int32} {m t c k : Nat} (hm : m ≤ 120) (hD : ∀ i, i < m → ∃ b, b < 256 ∧ D i = nI b) {s1 s2 s3 : Nat → Int32} {ln pl : Int32} (hC : Cut D m 121 s1 s2 s3) (ht : t < 120) (hc : c < 120) (hk : k < 9) (x : Int32) {R : Rf} (hR : R.2.2.2.2.1 = nI k) (it : Nat → Int32) (ct : Int32) : (k < 8 ∧ Jn D m (t + 1) c (fX4_readLock (nI t, x) (KT s1 s2 s3 ln pl) R) (kl0 (TT D m t it 0 (nI c) ct (nI k)) 1) R (fun _ _ R' it' => ∃ sd a b, sd < 5 ∧ a < 8 ∧ b < 41 ∧ R' = (R.1, upd (upd (upd R.2.1 (3 * k) (nI sd)) (3 * k + 1) (nI a)) (3 * k + 2) (nI b), R.2.2.1, R.2.2.2.1, nI (k + 1), R.2.2.2.2.2) ∧ it' = it6 it c 11 (nI sd) (nI a) (nI b) 0 0) (nI (c + 1)) ct (nI (k + 1))) ∨ (k = 8 ∧ fX4_readLock (nI t, x) (KT s1 s2 s3 ln pl) R = some (0, (nI t, x), R) ∧ ∃ it' lt', kl0 (TT D m t it 0 (nI c) ct (nI k)) 0 = some (TT D m t it' 1 (nI (c + 1)) ct lt')) := by
  have st6 : fX4_readLock (nI t, x) (KT s1 s2 s3 ln pl) R = if R.2.2.2.2.1 < (8 : Int32) then (o2 (fX4_takeNumber (nI t + (1 : Int32), x) (KT s1 s2 s3 ln pl) (0 : Int32) (4 : Int32)) (fun x101 Q102 => if x101 = 0 then (some ((0 : Int32), Q102, R)) else (o2 (fX4_takeNumber Q102 (KT s1 s2 s3 ln pl) (0 : Int32) (7 : Int32)) (fun x103 Q104 => if x103 = 0 then (some ((0 : Int32), Q104, R)) else (o1 (fX6_mostRight Q102.2) (fun x105 => o2 (fX4_takeNumber Q104 (KT s1 s2 s3 ln pl) (0 : Int32) x105) (fun x106 Q107 => if x106 = 0 then (some ((0 : Int32), Q107, R)) else (o2 (fX1_addCondition R Q102.2 Q104.2 Q107.2) (fun x108 R109 => some ((1 : Int32), Q107, R109)))))))))) else (some ((0 : Int32), (nI t, x), R)) := rfl
  rw [st6, hR]
  by_cases h8 : k = 8
  · refine Or.inr ⟨h8, by rw [if_neg (show ¬ nI k < (8 : Int32) from nI_nlt (b := 8) (by omega) (by omega))], ?_⟩
    obtain ⟨it2, f⟩ := kl1_w (D := D) (m := m) (t := t) hc it ct (nI k + 1)
    exact ⟨it2, _, f⟩
  · refine Or.inl ⟨by omega, ?_⟩
    unfold kl0
    rw [if_pos (show nI k < (8 : Int32) from nI_lt (b := 8) (by omega) (by omega)), must_t hm hD, o1_v, show nI t + (1 : Int32) = nI (t + 1) from nI_1 t]
    show Jn D m (t + 1) c _ (kl1 (TT D m (t + 1) it 0 (nI c) ct (nI k + (1 : Int32)))) R _ _ _ _
    rw [show nI k + (1 : Int32) = nI (k + 1) from nI_1 k]
    unfold kl1
    rcases num_j (ln := ln) (pl := pl) (t := t + 1) hm hD hC (by omega) x 0 4 it (nI c) ct (nI (k + 1)) with ⟨v, e1, e2, e3, e4, e5⟩ | ⟨e1, v, e2⟩
    · obtain ⟨sd, hsd, rfl⟩ := inW (m := 4) (by omega) ⟨e3, e4⟩
      rw [e1, o2_v, if_neg (show ¬ (1 : Int32) = 0 by decide), e2, o2_v]
      unfold kl2
      rcases num_j (ln := ln) (pl := pl) (t := t + 1 + 1) hm hD hC (by omega) (nI sd) 0 7 it (nI c) ct (nI (k + 1)) with ⟨u, a1, a2, a3, a4, a5⟩ | ⟨a1, u, a2⟩
      · obtain ⟨a, ha, rfl⟩ := inW (m := 7) (by omega) ⟨a3, a4⟩
        rw [a1, o2_v, if_neg (show ¬ (1 : Int32) = 0 by decide), a2, o2_v]
        rw [show fX6_mostRight ((nI (t + 1 + 1), nI sd) : Tr).2 = _ from (most_v (nI sd)).1, o1_v, (most_v (nI sd)).2, o1_v]
        unfold kl3
        rcases num_j (ln := ln) (pl := pl) (t := t + 1 + 1 + 1) hm hD hC (by omega) (nI a) 0 (if nI sd = 4 then 40 else 7) it (nI c) ct (nI (k + 1)) with ⟨w, b1, b2, b3, b4, b5⟩ | ⟨b1, w, b2⟩
        · obtain ⟨b, hb, rfl⟩ : ∃ b, b < 41 ∧ w = nI b := by
            by_cases q : nI sd = 4
            · rw [if_pos q] at b4
              exact inW (m := 40) (by omega) ⟨b3, b4⟩
            · rw [if_neg q] at b4
              obtain ⟨y, hy, e⟩ := inW (m := 7) (by omega) ⟨b3, b4⟩
              exact ⟨y, by omega, e⟩
          have eA : fX1_addCondition R (nI sd) (nI a) (nI b) = some (nI k, (R.1, upd (upd (upd R.2.1 (3 * k) (nI sd)) (3 * k + 1) (nI a)) (3 * k + 2) (nI b), R.2.2.1, R.2.2.2.1, nI (k + 1), R.2.2.2.2.2)) := by
            unfold fX1_addCondition
            rw [hR, setCond_v _ (by omega), o1_v, show nI k + (1 : Int32) = nI (k + 1) from nI_1 k]
          rw [b1, o2_v, if_neg (show ¬ (1 : Int32) = 0 by decide), show fX1_addCondition R ((nI (t + 1 + 1), nI sd) : Tr).2 ((nI (t + 1 + 1 + 1), nI a) : Tr).2 ((nI (t + 1 + 1 + 1 + 1), nI b) : Tr).2 = _ from eA, o2_v, b2, o2_v, item_v hc, o1_v]
          exact Or.inl ⟨_, _, _, _, rfl, rfl, by omega, by omega, sd, a, b, hsd, ha, hb, rfl, rfl⟩
        · rw [b1, o2_v, if_pos rfl, b2, o2_v, item_v hc, o1_v]
          exact Or.inr ⟨_, _, R, _, _, _, rfl, rfl, by omega, rfl⟩
      · obtain ⟨it2, g⟩ := kl3_w (D := D) (m := m) (t := t + 1 + 1) hc it ct (nI (k + 1)) (nI sd) u (if nI sd = 4 then 40 else 7)
        rw [a1, o2_v, if_pos rfl, a2, o2_v, (most_v (nI sd)).2, o1_v, g]
        exact Or.inr ⟨_, _, R, it2, _, _, rfl, rfl, by omega, rfl⟩
    · obtain ⟨it2, g⟩ := kl2_w (D := D) (m := m) (t := t + 1) hc it ct (nI (k + 1)) v
      rw [e1, o2_v, if_pos rfl, e2, o2_v, g]
      exact Or.inr ⟨_, _, R, it2, _, _, rfl, rfl, by omega, rfl⟩
