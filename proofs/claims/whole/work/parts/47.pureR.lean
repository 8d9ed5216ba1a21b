/-! ===== texts: what the items make so ===== -/
/-- items up to c make row now0 to nowI -/
def ItP (c : Nat) (it now0 nowI : Nat → Int32) : Prop := ∃ r : Nat → (Nat → Int32), r 0 = now0 ∧ r c = nowI ∧ ∀ T' : Mt, (∀ t, t < 6 * c → T'.2.1 t = it t) → ∀ i, i < c → fX7_isSo (r i) T' (nI (6 * i)) = some (r (i + 1))
theorem ItP.rf (it now0 : Nat → Int32) : ItP 0 it now0 now0 := ⟨fun _ => now0, rfl, rfl, fun _ _ i hi => absurd hi (Nat.not_lt_zero i)⟩
theorem ItP.up {c : Nat} {it it' now0 nowI nowJ : Nat → Int32} (h : ItP c it now0 nowI) (h1 : ∀ t, t < 6 * c → it' t = it t) (h2 : ∀ T' : Mt, (∀ q, q < 6 → T'.2.1 (6 * c + q) = it' (6 * c + q)) → fX7_isSo nowI T' (nI (6 * c)) = some nowJ) : ItP (c + 1) it' now0 nowJ := by
  obtain ⟨r, a1, a2, a3⟩ := h
  refine ⟨fun i => if i ≤ c then r i else nowJ, ?_, ?_, fun T' hT i hi => ?_⟩
  · show (if 0 ≤ c then r 0 else nowJ) = now0
    rw [if_pos (Nat.zero_le c), a1]
  · show (if c + 1 ≤ c then r (c + 1) else nowJ) = nowJ
    rw [if_neg (by omega)]
  · show fX7_isSo (if i ≤ c then r i else nowJ) T' (nI (6 * i)) = some (if i + 1 ≤ c then r (i + 1) else nowJ)
    rw [if_pos (by omega)]
    by_cases q : i < c
    · rw [if_pos (by omega)]
      exact a3 T' (fun t ht => (hT t (by omega)).trans (h1 t ht)) i q
    · have e : i = c := by omega
      subst e
      rw [if_neg (by omega), a2]
      exact h2 T' (fun q hq => hT _ (by omega))
theorem it6_0 (it : Nat → Int32) (c : Nat) (a0 a1 a2 a3 a4 a5 : Int32) : it6 it c a0 a1 a2 a3 a4 a5 (6 * c) = a0 := by
  unfold it6
  rw [up_n (by omega), up_n (by omega), up_n (by omega), up_n (by omega), up_n (by omega), up_s]
theorem it6_1 (it : Nat → Int32) (c : Nat) (a0 a1 a2 a3 a4 a5 : Int32) : it6 it c a0 a1 a2 a3 a4 a5 (6 * c + 1) = a1 := by
  unfold it6
  rw [up_n (by omega), up_n (by omega), up_n (by omega), up_n (by omega), up_s]
theorem it6_2 (it : Nat → Int32) (c : Nat) (a0 a1 a2 a3 a4 a5 : Int32) : it6 it c a0 a1 a2 a3 a4 a5 (6 * c + 2) = a2 := by
  unfold it6
  rw [up_n (by omega), up_n (by omega), up_n (by omega), up_s]
theorem it6_3 (it : Nat → Int32) (c : Nat) (a0 a1 a2 a3 a4 a5 : Int32) : it6 it c a0 a1 a2 a3 a4 a5 (6 * c + 3) = a3 := by
  unfold it6
  rw [up_n (by omega), up_n (by omega), up_s]
theorem it6_4 (it : Nat → Int32) (c : Nat) (a0 a1 a2 a3 a4 a5 : Int32) : it6 it c a0 a1 a2 a3 a4 a5 (6 * c + 4) = a4 := by
  unfold it6
  rw [up_n (by omega), up_s]
theorem it6_5 (it : Nat → Int32) (c : Nat) (a0 a1 a2 a3 a4 a5 : Int32) : it6 it c a0 a1 a2 a3 a4 a5 (6 * c + 5) = a5 := by
  unfold it6
  rw [up_s]
theorem it6_n (it : Nat → Int32) {c t : Nat} (h : t < 6 * c) (a0 a1 a2 a3 a4 a5 : Int32) : it6 it c a0 a1 a2 a3 a4 a5 t = it t := by
  unfold it6
  rw [up_n (by omega), up_n (by omega), up_n (by omega), up_n (by omega), up_n (by omega), up_n (by omega)]
/-- an item's first four numbers -/
theorem so_4 {T : Mt} {c : Nat} (hc : c < 120) (now : Nat → Int32) : fX7_isSo now T (nI (6 * c)) = (if T.2.1 (6 * c) = (10 : Int32) then (fX7_isSo_L63 T (nI (6 * c)) (T.2.1 (6 * c + 1)) (fun now111 => some now111) fu now (0 : Int32)) else (if T.2.1 (6 * c) = (11 : Int32) then (o2 (fX7_put now (T.2.1 (6 * c + 1)) (T.2.1 (6 * c + 2)) (T.2.1 (6 * c + 3))) (fun x112 now113 => some now113)) else (if T.2.1 (6 * c) = (12 : Int32) then (wr now 120 (1 : Int32) (T.2.1 (6 * c + 1)) (fun f114 => some f114)) else (o2 (fX7_built now (T.2.1 (6 * c)) (T.2.1 (6 * c + 1)) (T.2.1 (6 * c + 2)) (T.2.1 (6 * c + 3)) (T.2.1 (6 * c + 4))) (fun x117 now118 => some now118))))) := by
  unfold fX7_isSo
  rw [show nI (6 * c) + (1 : Int32) = nI (6 * c + 1) from nI_add _ 1, show nI (6 * c) + (2 : Int32) = nI (6 * c + 2) from nI_add _ 2, show nI (6 * c) + (3 : Int32) = nI (6 * c + 3) from nI_add _ 3, show nI (6 * c) + (4 : Int32) = nI (6 * c + 4) from nI_add _ 4, rd_v _ _ (by omega) (by omega), rd_v _ _ (by omega) (by omega), rd_v _ _ (by omega) (by omega), rd_v _ _ (by omega) (by omega), rd_v _ _ (by omega) (by omega), rd_v _ _ (by omega) (by omega)]
theorem so_c {T : Mt} {c n kd : Nat} (hc : c < 120) (hkd : kd < 7) {now : Nat → Int32} (h : now 2 = nI n) (hn : n < 8) (e0 : T.2.1 (6 * c) = nI kd) : fX7_isSo now T (nI (6 * c)) = some (addN now n (nI kd) (T.2.1 (6 * c + 1)) (T.2.1 (6 * c + 2)) (T.2.1 (6 * c + 3)) (T.2.1 (6 * c + 4))) := by
  rw [so_4 hc, e0, if_neg (show ¬ nI kd = (10 : Int32) from fun z => absurd ((nI_eq (b := 10) (by omega) (by omega)).mp z) (by omega)), if_neg (show ¬ nI kd = (11 : Int32) from fun z => absurd ((nI_eq (b := 11) (by omega) (by omega)).mp z) (by omega)), if_neg (show ¬ nI kd = (12 : Int32) from fun z => absurd ((nI_eq (b := 12) (by omega) (by omega)).mp z) (by omega)), built_v h hn, o2_v]
theorem so_kL {T : Mt} {c a : Nat} (hc : c < 120) (ha : a < 8) (kx : (Nat → Int32) → Option (Nat → Int32)) {i : Nat} (hi : i < 4) (f : Nat) (now : Nat → Int32) : fX7_isSo_L63 T (nI (6 * c)) (nI a) kx (f + 1) now (nI i) = fX7_isSo_L63 T (nI (6 * c)) (nI a) kx f (upd now (16 + 10 * a + 6 + i) (T.2.1 (6 * c + 2 + i))) (nI (i + 1)) := by
  rw [fX7_isSo_L63, if_neg (show ¬ (4 : Int32) ≤ nI i from nle (b := 4) (by omega) (by omega)), show (6 : Int32) + nI i = nI (6 + i) from nI_add 6 i, at7_v, o1_v, show nI (6 * c) + (2 : Int32) = nI (6 * c + 2) from nI_add _ 2, nI_add, rd_v _ _ (by omega) (by omega), ← Nat.add_assoc, wr_v _ _ _ (by omega) (by omega), show nI i + (1 : Int32) = nI (i + 1) from nI_1 i]
theorem so_k {T : Mt} {c a : Nat} (hc : c < 120) (ha : a < 8) (now : Nat → Int32) (e0 : T.2.1 (6 * c) = 10) (e1 : T.2.1 (6 * c + 1) = nI a) : fX7_isSo now T (nI (6 * c)) = some (upd (upd (upd (upd now (16 + 10 * a + 6 + 0) (T.2.1 (6 * c + 2))) (16 + 10 * a + 6 + 1) (T.2.1 (6 * c + 3))) (16 + 10 * a + 6 + 2) (T.2.1 (6 * c + 4))) (16 + 10 * a + 6 + 3) (T.2.1 (6 * c + 5))) := by
  obtain ⟨f, ef⟩ : ∃ f, fu = f + 5 := ⟨999995, rfl⟩
  rw [so_4 hc, if_pos e0, e1, ef, show fX7_isSo_L63 T (nI (6 * c)) (nI a) (fun now111 => some now111) (f + 5) now (0 : Int32) = _ from so_kL hc ha _ (i := 0) (by omega) (f + 4) now, so_kL hc ha _ (by omega), so_kL hc ha _ (by omega), so_kL hc ha _ (by omega), fX7_isSo_L63, if_pos (show (4 : Int32) ≤ nI (0 + 1 + 1 + 1 + 1) by decide)]
theorem put7_v {now : Nat → Int32} {k : Nat} (h : now 3 = nI k) (hk : k < 8) (a b c : Int32) : fX7_put now a b c = some (nI k, upd (upd (upd (upd now (96 + 3 * k) a) (96 + 3 * k + 1) b) (96 + 3 * k + 2) c) 3 (nI (k + 1))) := by
  unfold fX7_put
  rw [show rd now 120 (3 : Int32) _ = _ from rd_v now (i := 3) _ (by omega) (by omega), h, show (96 : Int32) + (3 : Int32) * nI k + (0 : Int32) = nI (96 + 3 * k) from i96 k 0, show (96 : Int32) + (3 : Int32) * nI k + (1 : Int32) = nI (96 + 3 * k + 1) from i96 k 1, show (96 : Int32) + (3 : Int32) * nI k + (2 : Int32) = nI (96 + 3 * k + 2) from i96 k 2, wr_v _ _ _ (by omega) (by omega), wr_v _ _ _ (by omega) (by omega), wr_v _ _ _ (by omega) (by omega), show rd (upd (upd (upd now _ _) _ _) _ _) 120 (3 : Int32) _ = _ from rd_v _ (i := 3) _ (by omega) (by omega), up_n (by omega), up_n (by omega), up_n (by omega), h, show nI k + (1 : Int32) = nI (k + 1) from nI_1 k, show wr (upd (upd (upd now _ _) _ _) _ _) 120 (3 : Int32) _ _ = _ from wr_v _ (i := 3) _ _ (by omega) (by omega)]
theorem so_l {T : Mt} {c k : Nat} (hc : c < 120) {now : Nat → Int32} (h : now 3 = nI k) (hk : k < 8) (e0 : T.2.1 (6 * c) = 11) : fX7_isSo now T (nI (6 * c)) = some (upd (upd (upd (upd now (96 + 3 * k) (T.2.1 (6 * c + 1))) (96 + 3 * k + 1) (T.2.1 (6 * c + 2))) (96 + 3 * k + 2) (T.2.1 (6 * c + 3))) 3 (nI (k + 1))) := by
  rw [so_4 hc, e0, if_neg (by decide), if_pos rfl, put7_v h hk, o2_v]
theorem so_d {T : Mt} {c : Nat} (hc : c < 120) (now : Nat → Int32) (e0 : T.2.1 (6 * c) = 12) : fX7_isSo now T (nI (6 * c)) = some (upd now 1 (T.2.1 (6 * c + 1))) := by
  rw [so_4 hc, e0, if_neg (by decide), if_neg (by decide), if_pos rfl, show wr now 120 (1 : Int32) _ _ = _ from wr_v now (i := 1) _ _ (by omega) (by omega)]
theorem fil_i : ∀ (j b : Nat) (f : Nat → Int32) (i : Nat), b ≤ i → i < b + j → fil f b j i = 1 := by
  intro j
  induction j with
  | zero => intro b f i h1 h2; exact absurd h1 (by omega)
  | succ j ih =>
    intro b f i h1 h2
    show fil (upd f b 1) (b + 1) j i = 1
    by_cases q : i = b
    · subst q
      rw [fil_n j _ _ i (by omega), up_s]
    · exact ih (b + 1) _ i (by omega) (by omega)
/-- a cistern that is told all at once -/
theorem addR_set (R : Rf) (n : Nat) (kd hi lv lk gt : Int32) : upd (upd (upd (addR R n kd hi 0 1 (-1)) (11 * n + 2) lv) (11 * n + 3) lk) (11 * n + 4) gt = addR R n kd hi lv lk gt := by
  funext t
  unfold addR
  by_cases q : 11 * n + 7 ≤ t ∧ t < 11 * n + 7 + 4
  · rw [up_n (by omega), up_n (by omega), up_n (by omega), fil_i 4 _ _ t q.1 q.2, fil_i 4 _ _ t q.1 q.2]
  · rw [fil_n 4 (11 * n + 7) (upd (upd (upd (upd (upd (upd R.1 (11 * n) kd) (11 * n + 1) hi) (11 * n + 2) lv) (11 * n + 3) lk) (11 * n + 4) gt) (11 * n + 5) 0) t (by omega)]
    by_cases q4 : t = 11 * n + 4
    · subst q4
      rw [up_s, up_n (by omega), up_s]
    · rw [up_n q4]
      by_cases q3 : t = 11 * n + 3
      · subst q3
        rw [up_s, up_n (by omega), up_n (by omega), up_s]
      · rw [up_n q3]
        by_cases q2 : t = 11 * n + 2
        · subst q2
          rw [up_s, up_n (by omega), up_n (by omega), up_n (by omega), up_s]
        · rw [up_n q2, fil_n 4 _ _ t (by omega)]
          by_cases q5 : t = 11 * n + 5
          · subst q5
            rw [up_s, up_s]
          · rw [up_n q5, up_n q5, up_n q4, up_n q4, up_n q3, up_n q3, up_n q2, up_n q2]
/-! an item, by both sides -/
theorem ri_j {D : Nat → Int32} {m t c n k : Nat} (hm : m ≤ 120) (hD : ∀ i, i < m → ∃ b, b < 256 ∧ D i = nI b) {s1 s2 s3 : Nat → Int32} {ln pl : Int32} (hC : Cut D m 121 s1 s2 s3) (ht : t ≤ 120) (hc : c < 120) (hn : n < 9) (x : Int32) {R : Rf} {now0 nowI : Nat → Int32} (h : SM n 0 0 R nowI) (hci : CI k nowI) {it : Nat → Int32} (hI : ItP c it now0 nowI) : (∃ t' x' R' it' n' k' nowJ, fX4_readItem (nI t, x) (KT s1 s2 s3 ln pl) R = some (1, (nI t', x'), R') ∧ fX7_readItem (TT D m t it 0 (nI c) (nI n) (nI k)) = some (TT D m t' it' 0 (nI (c + 1)) (nI n') (nI k')) ∧ t < t' ∧ t' ≤ 120 ∧ n' < 9 ∧ SM n' 0 0 R' nowJ ∧ CI k' nowJ ∧ ItP (c + 1) it' now0 nowJ ∧ ∀ i, 6 ≤ i → i < 16 → nowJ i = nowI i) ∨ ∃ t' x' R' it' ct' lt', fX4_readItem (nI t, x) (KT s1 s2 s3 ln pl) R = some (0, (nI t', x'), R') ∧ fX7_readItem (TT D m t it 0 (nI c) (nI n) (nI k)) = some (TT D m t' it' 1 (nI (c + 1)) ct' lt') ∧ t' ≤ 120 ∧ R'.2.2.2.2.2.1 = R.2.2.2.2.2.1 := by
  have hk : k < 9 := hci.2.1
  have hR : R.2.2.2.1 = nI n := h.n2
  have hRk : R.2.2.2.2.1 = nI k := by rw [h.cn, hci.1]
  obtain ⟨h19, -⟩ := cl_le D m (stN D m t)
  have tl : ∀ j, clF D m (stN D m t) = j → j ≠ 17 → t < 120 := fun j e h => t_lt hm (show clF D m (stN D m t) ≠ 17 by omega)
  have st6 : fX4_readItem (nI t, x) (KT s1 s2 s3 ln pl) R = o1 (fX4_sortNow (nI t, x) (KT s1 s2 s3 ln pl)) (fun x101 => if (6 : Int32) < x101 then (if x101 = (11 : Int32) then (o3 (fX4_readCatch (nI t, x) (KT s1 s2 s3 ln pl) R) (fun x102 Q103 R104 => nb x102 (some (x102, Q103, R104)))) else (if x101 = (12 : Int32) then (o3 (fX4_readLock (nI t, x) (KT s1 s2 s3 ln pl) R) (fun x105 Q106 R107 => nb x105 (some (x105, Q106, R107)))) else (if x101 = (13 : Int32) then (fX4_readItem_J58 (nI t, x) R x101) else (if x101 = (14 : Int32) then (fX4_readItem_J58 (nI t, x) R x101) else (some ((0 : Int32), (nI t, x), R)))))) else (o3 (fX4_readCistern (nI t, x) (KT s1 s2 s3 ln pl) R x101) (fun x108 Q109 R110 => nb x108 (some (x108, Q109, R110))))) := rfl
  have st7 : fX7_readItem (TT D m t it 0 (nI c) (nI n) (nI k)) = o1 (fX7_kindTold (TT D m t it 0 (nI c) (nI n) (nI k))) (fun x101 => if x101 < 0 then (o1 (fX7_isWord (TT D m t it 0 (nI c) (nI n) (nI k)) 11) (fun x102 => if x102 = 0 then (o1 (fX7_isWord (TT D m t it 0 (nI c) (nI n) (nI k)) 12) (fun x103 => if x103 = 0 then (o1 (fX7_isWord (TT D m t it 0 (nI c) (nI n) (nI k)) 13) (fun x104 => if x104 = 0 then (fX7_readItem_J182 (TT D m t it 0 (nI c) (nI n) (nI k)) (0 : Int32)) else (fX7_readItem_J182 (TT D m t it 0 (nI c) (nI n) (nI k)) (1 : Int32)))) else (if (8 : Int32) ≤ nI k then (kl0 (TT D m t it 0 (nI c) (nI n) (nI k)) (0 : Int32)) else (kl0 (TT D m t it 0 (nI c) (nI n) (nI k)) (1 : Int32))))) else (kc0 (TT D m t it 0 (nI c) (nI n) (nI k))))) else (o1 (fX7_readCistern (TT D m t it 0 (nI c) (nI n) (nI k)) x101) (fun T134 => some T134))) := rfl
  have st9 : ∀ y0 : Int32, fX7_readItem_J182 (TT D m t it 0 (nI c) (nI n) (nI k)) y0 = o1 (fX7_isWord (TT D m t it 0 (nI c) (nI n) (nI k)) 13) (fun x105 => if x105 = 0 then (o1 (fX7_isWord (TT D m t it 0 (nI c) (nI n) (nI k)) 14) (fun x108 => if x108 = 0 then (o1 (fX7_must (TT D m t it 0 (nI c) (nI n) (nI k)) (0 : Int32)) (fun T109 => o1 (fX7_item T109 (12 : Int32) y0 (0 : Int32) (0 : Int32) (0 : Int32) (0 : Int32)) (fun T110 => some T110))) else (o1 (fX7_must (TT D m t it 0 (nI c) (nI n) (nI k)) (1 : Int32)) (fun T111 => o1 (fX7_item T111 (12 : Int32) y0 (0 : Int32) (0 : Int32) (0 : Int32) (0 : Int32)) (fun T112 => some T112))))) else (o1 (fX7_must (TT D m t it 0 (nI c) (nI n) (nI k)) (1 : Int32)) (fun T106 => o1 (fX7_item T106 (12 : Int32) y0 (0 : Int32) (0 : Int32) (0 : Int32) (0 : Int32)) (fun T107 => some T107)))) := fun _ => rfl
  have hne : ∀ j, j < 19 → clF D m (stN D m t) ≠ j → ¬ nI (clF D m (stN D m t)) = nI j := fun j hj q z => q ((nI_eq (by omega) (by omega)).mp z)
  rw [st6, st7, now_v hC ht, o1_v, kind_v hm, o1_v]
  by_cases q7 : clF D m (stN D m t) < 7
  · have ht2 := tl _ rfl (by omega)
    rw [if_neg (show ¬ (6 : Int32) < nI (clF D m (stN D m t)) from nI_nlt (a := 6) (by omega) (by omega)), if_pos q7, if_neg (nI_pos (n := clF D m (stN D m t)) (by omega))]
    generalize clF D m (stN D m t) = kd at q7
    rcases rc_j (ln := ln) (pl := pl) (kd := kd) hm hD hC ht2 hc hn x hR it (nI k) with ⟨t', x', it', hi, lv, lk, gt, e1, e2, e3, e4, e5, e6⟩ | ⟨t', x', R', it', ct', lt', e1, e2, e3, e4⟩
    · rw [e1, o3_v, nb_1, e2, o1_v]
      refine Or.inl ⟨t', x', _, it', n + 1, k, addN nowI n (nI kd) hi lv lk gt, rfl, rfl, e3, e4, by omega, ?_, ⟨by rw [addN_n (by omega) (by omega)]; exact hci.1, hk, fun l hl => ?_⟩, ?_, fun i h1 h2 => addN_n (by omega) (by omega)⟩
      · rw [addR_set]
        exact h.add e5 q7 hi lv lk gt
      · rw [addN_n (by omega) (by omega), addN_n (by omega) (by omega), addN_n (by omega) (by omega)]
        exact hci.2.2 l hl
      · subst e6
        refine hI.up (fun t ht => it6_n it ht _ _ _ _ _ _) (fun T' hT => ?_)
        rw [so_c hc q7 h.n1 e5 ((hT 0 (by omega)).trans (it6_0 it c _ _ _ _ _ _)), hT 1 (by omega), hT 2 (by omega), hT 3 (by omega), hT 4 (by omega), it6_1, it6_2, it6_3, it6_4]
    · rw [e1, o3_v, nb_0, e2, o1_v]
      exact Or.inr ⟨t', x', R', it', ct', lt', rfl, rfl, e3, e4⟩
  · rw [if_pos (show (6 : Int32) < nI (clF D m (stN D m t)) from nI_lt (a := 6) (by omega) (by omega)), if_neg q7, if_pos (show (-1 : Int32) < 0 by decide), word_v hm (by omega), ob, word_v hm (by omega), ob, word_v hm (by omega), ob]
    by_cases q11 : clF D m (stN D m t) = 11
    · have ht2 := tl _ q11 (by omega)
      rw [if_pos (show nI (clF D m (stN D m t)) = (11 : Int32) by rw [q11]; rfl), if_pos q11]
      rcases kc_j (ln := ln) (pl := pl) hm hD hC ht2 hc hn x hR it (nI k) with ⟨t', x', R', it', e1, e2, e3, e4, a, v1, v2, v3, v4, ha, e5, e6⟩ | ⟨t', x', R', it', ct', lt', e1, e2, e3, e4⟩
      · rw [e1, o3_v, nb_1, e2]
        have ha8 : a < 8 := by omega
        subst e5
        subst e6
        refine Or.inl ⟨t', x', _, _, n, k, _, rfl, rfl, by omega, e4, hn, (((h.setc ha8 (w := 0) (by omega) v1).setc ha8 (w := 1) (by omega) v2).setc ha8 (w := 2) (by omega) v3).setc ha8 (w := 3) (by omega) v4, (((hci.up (by omega)).up (by omega)).up (by omega)).up (by omega), ?_, fun i h1 h2 => by rw [up_n (by omega), up_n (by omega), up_n (by omega), up_n (by omega)]⟩
        refine hI.up (fun t ht => it6_n it ht _ _ _ _ _ _) (fun T' hT => ?_)
        rw [so_k hc ha8 nowI ((hT 0 (by omega)).trans (it6_0 it c _ _ _ _ _ _)) ((hT 1 (by omega)).trans (it6_1 it c _ _ _ _ _ _)), hT 2 (by omega), hT 3 (by omega), hT 4 (by omega), hT 5 (by omega), it6_2, it6_3, it6_4, it6_5]
      · rw [e1, o3_v, nb_0, e2]
        exact Or.inr ⟨t', x', R', it', ct', lt', rfl, rfl, e3, e4⟩
    · rw [if_neg (show ¬ nI (clF D m (stN D m t)) = (11 : Int32) from hne 11 (by omega) q11), if_neg q11]
      by_cases q12 : clF D m (stN D m t) = 12
      · have ht2 := tl _ q12 (by omega)
        rw [if_pos (show nI (clF D m (stN D m t)) = (12 : Int32) by rw [q12]; rfl), if_pos q12]
        rcases kl_j (ln := ln) (pl := pl) hm hD hC ht2 hc hk x hRk it (nI n) with ⟨k8, ⟨t', x', R', it', e1, e2, e3, e4, sd, a, b, hsd, ha, hb, e5, e6⟩ | ⟨t', x', R', it', ct', lt', e1, e2, e3, e4⟩⟩ | ⟨k8, e1, it', lt', e2⟩
        · rw [if_neg (show ¬ (8 : Int32) ≤ nI k from nle (b := 8) (by omega) (by omega)), e1, o3_v, nb_1, e2]
          subst e5
          subst e6
          refine Or.inl ⟨t', x', _, _, n, k + 1, _, rfl, rfl, by omega, e4, hn, (h.cond (l := k) (by omega) (nI sd) (nI a) (nI b)).locks (nI (k + 1)), hci.cond (l := k) (by omega) hsd ha hb up_s (by omega) (fun i h1 h2 => up_n (by omega)), ?_, fun i h1 h2 => by rw [up_n (by omega), up_n (by omega), up_n (by omega), up_n (by omega)]⟩
          refine hI.up (fun t ht => it6_n it ht _ _ _ _ _ _) (fun T' hT => ?_)
          rw [so_l hc hci.1 k8 ((hT 0 (by omega)).trans (it6_0 it c _ _ _ _ _ _)), hT 1 (by omega), hT 2 (by omega), hT 3 (by omega), it6_1, it6_2, it6_3]
        · rw [if_neg (show ¬ (8 : Int32) ≤ nI k from nle (b := 8) (by omega) (by omega)), e1, o3_v, nb_0, e2]
          exact Or.inr ⟨t', x', R', it', ct', lt', rfl, rfl, e3, e4⟩
        · rw [if_pos (show (8 : Int32) ≤ nI k from nI_le (a := 8) (by omega) (by omega)), e1, o3_v, nb_0, e2]
          exact Or.inr ⟨t, x, R, it', nI n, lt', rfl, rfl, ht, rfl⟩
      · rw [if_neg (show ¬ nI (clF D m (stN D m t)) = (12 : Int32) from hne 12 (by omega) q12), if_neg q12, st9, st9, word_v hm (by omega), ob, ob, word_v hm (by omega), ob, ob]
        have hcold : ∀ v : Int32, v = 0 ∨ v = 1 → ∃ nowJ, SM n 0 0 (R.1, R.2.1, R.2.2.1, R.2.2.2.1, R.2.2.2.2.1, v, R.2.2.2.2.2.2) nowJ ∧ CI k nowJ ∧ ItP (c + 1) (it6 it c 12 v 0 0 0 0) now0 nowJ ∧ ∀ i, 6 ≤ i → i < 16 → nowJ i = nowI i := fun v hv => by
          refine ⟨upd nowI 1 v, h.cold hv, hci.up (by omega), ?_, fun i h1 h2 => up_n (by omega)⟩
          refine hI.up (fun t ht => it6_n it ht _ _ _ _ _ _) (fun T' hT => ?_)
          rw [so_d hc nowI ((hT 0 (by omega)).trans (it6_0 it c _ _ _ _ _ _)), hT 1 (by omega), it6_1]
        have st5 : ∀ y : Int32, fX4_readItem_J58 (nI t, x) R y = if y = (13 : Int32) then (some ((1 : Int32), ((nI t + (1 : Int32)), x), (R.1, R.2.1, R.2.2.1, R.2.2.2.1, R.2.2.2.2.1, (1 : Int32), R.2.2.2.2.2.2.1, R.2.2.2.2.2.2.2.1, R.2.2.2.2.2.2.2.2))) else (some ((1 : Int32), ((nI t + (1 : Int32)), x), (R.1, R.2.1, R.2.2.1, R.2.2.2.1, R.2.2.2.2.1, (0 : Int32), R.2.2.2.2.2.2.1, R.2.2.2.2.2.2.2.1, R.2.2.2.2.2.2.2.2))) := fun _ => rfl
        by_cases q13 : clF D m (stN D m t) = 13
        · have ht2 := tl _ q13 (by omega)
          obtain ⟨nowJ, j1, j2, j3, j4⟩ := hcold 1 (Or.inr rfl)
          rw [if_pos (show nI (clF D m (stN D m t)) = (13 : Int32) by rw [q13]; rfl), st5, if_pos (show nI (clF D m (stN D m t)) = (13 : Int32) by rw [q13]; rfl), if_pos q13, if_pos q13, must_t hm hD, o1_v, item_v hc, o1_v, show nI t + (1 : Int32) = nI (t + 1) from nI_1 t]
          exact Or.inl ⟨t + 1, x, _, _, n, k, nowJ, rfl, rfl, by omega, by omega, hn, j1, j2, j3, j4⟩
        · rw [if_neg (show ¬ nI (clF D m (stN D m t)) = (13 : Int32) from hne 13 (by omega) q13), if_neg q13, if_neg q13]
          by_cases q14 : clF D m (stN D m t) = 14
          · have ht2 := tl _ q14 (by omega)
            obtain ⟨nowJ, j1, j2, j3, j4⟩ := hcold 0 (Or.inl rfl)
            rw [if_pos (show nI (clF D m (stN D m t)) = (14 : Int32) by rw [q14]; rfl), st5, if_neg (show ¬ nI (clF D m (stN D m t)) = (13 : Int32) from hne 13 (by omega) q13), if_pos q14, must_t hm hD, o1_v, item_v hc, o1_v, show nI t + (1 : Int32) = nI (t + 1) from nI_1 t]
            exact Or.inl ⟨t + 1, x, _, _, n, k, nowJ, rfl, rfl, by omega, by omega, hn, j1, j2, j3, j4⟩
          · rw [if_neg (show ¬ nI (clF D m (stN D m t)) = (14 : Int32) from hne 14 (by omega) q14), if_neg q14, must_f, o1_v, item_v hc, o1_v]
            exact Or.inr ⟨t, x, R, _, _, _, rfl, rfl, ht, rfl⟩
/-! the text -/
theorem so_L {T : Mt} {c : Nat} (hc : c < 1000) (hT : T.2.2.2.2.2.2.2.2.1 = nI c) (r : Nat → (Nat → Int32)) (hr : ∀ i, i < c → fX7_isSo (r i) T (nI (6 * i)) = some (r (i + 1))) (kx : (Nat → Int32) → Option (Int32 × (Nat → Int32) × Mt)) : ∀ (j i f : Nat), i + j = c → j < f → fX7_text_L121 T kx f (r i) (nI i) = kx (r c) := by
  intro j
  induction j with
  | zero =>
    intro i f hi hf
    obtain ⟨f, rfl⟩ : ∃ z, f = z + 1 := ⟨f - 1, by omega⟩
    have e : i = c := by omega
    subst e
    rw [fX7_text_L121, hT, if_pos (nI_le (by omega) (by omega))]
  | succ j ih =>
    intro i f hi hf
    obtain ⟨f, rfl⟩ : ∃ z, f = z + 1 := ⟨f - 1, by omega⟩
    rw [fX7_text_L121, hT, if_neg (nle (by omega) (by omega)), show (6 : Int32) * nI i = nI (6 * i) from pk_mul 6 i, hr i (by omega), o1_v, show nI i + (1 : Int32) = nI (i + 1) from nI_1 i]
    exact ih (i + 1) f (by omega) (by omega)
/-- what both sides tell of a text -/
def TxP (D : Nat → Int32) (now0 : Nat → Int32) (K : Tk) (x : Option (Int32 × Tr × Tk × Rf)) (y : Option (Int32 × (Nat → Int32) × Mt)) : Prop := (∃ C Q' R' n' k' nowJ T', C < 1000 ∧ x = some (nI C, Q', K, R') ∧ y = some (nI C, nowJ, T') ∧ T'.2.2.1 = 0 ∧ n' < 9 ∧ SM n' 0 0 R' nowJ ∧ CI k' nowJ ∧ ∀ i, 6 ≤ i → i < 16 → nowJ i = now0 i) ∨ ∃ s Q' R' T', s ≤ 120 ∧ x = some ((-1 : Int32) - nI s, Q', K, R') ∧ y = some ((-1 : Int32) - nI s, now0, T') ∧ T'.2.2.1 = 0 ∧ (R'.2.2.2.2.2.1 = 0 ∨ R'.2.2.2.2.2.1 = 1)
theorem J84_w {D : Nat → Int32} {m t : Nat} (now0 it : Nat → Int32) (im ct lt : Int32) : ∃ T', fX7_text_J84 now0 (TT D m t it 1 im ct lt) = some ((-1 : Int32) - nI (stN D m t), now0, T') ∧ T'.2.2.1 = 0 := by
  unfold fX7_text_J84
  rw [must_w, must_w, o1_v, if_neg (show ¬ ((TT D m t it 1 im ct lt) : Mt).2.2.2.2.2.2.2.1 = 0 from fun z => absurd (show (1 : Int32) = 0 from z) (by decide)), ite_self]
  exact ⟨_, rfl, rfl⟩
theorem rd_L {D : Nat → Int32} {m : Nat} (hm : m ≤ 120) (hD : ∀ i, i < m → ∃ b, b < 256 ∧ D i = nI b) {s1 s2 s3 : Nat → Int32} {ln pl : Int32} (hC : Cut D m 121 s1 s2 s3) {now0 : Nat → Int32} : ∀ (j t c f f' n k : Nat) (x : Int32) (R : Rf) (it nowI : Nat → Int32), t ≤ 120 → 120 ≤ t + j → j < f → j < f' → 2 * c ≤ t → n < 9 → SM n 0 0 R nowI → CI k nowI → ItP c it now0 nowI → (∀ i, 6 ≤ i → i < 16 → nowI i = now0 i) → TxP D now0 (KT s1 s2 s3 ln pl) (fX4_read_L15 (KT s1 s2 s3 ln pl) (fun Q114 R115 => o1 (fX6_at 121 s2 Q114.1) (fun x116 => some (((-1 : Int32) - x116), Q114, KT s1 s2 s3 ln pl, R115))) f (nI t, x) R (nI (c + 1))) (o1 (fX7_readItem (TT D m t it 0 (nI c) (nI n) (nI k))) (fun T110 => fX7_text_L43 (fun T111 => fX7_text_J84 now0 T111) f' T110)) := by
  have st6 : ∀ f (Q : Tr) (R : Rf) (x2 : Int32), fX4_read_L15 (KT s1 s2 s3 ln pl) (fun Q114 R115 => o1 (fX6_at 121 s2 Q114.1) (fun x116 => some (((-1 : Int32) - x116), Q114, KT s1 s2 s3 ln pl, R115))) (f + 1) Q R x2 = if (120 : Int32) < x2 then (o1 (fX6_at 121 s2 Q.1) (fun x116 => some (((-1 : Int32) - x116), Q, KT s1 s2 s3 ln pl, R))) else (o3 (fX4_readItem Q (KT s1 s2 s3 ln pl) R) (fun x108 Q109 R110 => if x108 = 0 then (o1 (fX6_at 121 s2 Q109.1) (fun x116 => some (((-1 : Int32) - x116), Q109, KT s1 s2 s3 ln pl, R110))) else (o1 (fX4_sortNow Q109 (KT s1 s2 s3 ln pl)) (fun x111 => if x111 = (17 : Int32) then (some (x2, Q109, KT s1 s2 s3 ln pl, R110)) else (o1 (fX4_sortNow Q109 (KT s1 s2 s3 ln pl)) (fun x112 => if x112 = (16 : Int32) then (fX4_read_L15 (KT s1 s2 s3 ln pl) (fun Q114 R115 => o1 (fX6_at 121 s2 Q114.1) (fun x116 => some (((-1 : Int32) - x116), Q114, KT s1 s2 s3 ln pl, R115))) f ((Q109.1 + (1 : Int32)), Q109.2) R110 (x2 + (1 : Int32))) else (o1 (fX6_at 121 s2 Q109.1) (fun x113 => some (((-1 : Int32) - x113), Q109, KT s1 s2 s3 ln pl, R110))))))))) := fun _ _ _ _ => rfl
  have st7 : ∀ f t it wr im ct lt, fX7_text_L43 (fun T111 => fX7_text_J84 now0 T111) (f + 1) (TT D m t it wr im ct lt) = if wr = 0 then (if nI (msF D m (stN D m t)) = (3 : Int32) then (rd D 120 (nI (stN D m t)) (fun x108 => if x108 = (59 : Int32) then (o1 (fX7_must (TT D m t it wr im ct lt) (1 : Int32)) (fun T109 => o1 (fX7_readItem T109) (fun T110 => fX7_text_L43 (fun T111 => fX7_text_J84 now0 T111) f T110))) else (fX7_text_J84 now0 (TT D m t it wr im ct lt)))) else (fX7_text_J84 now0 (TT D m t it wr im ct lt))) else (fX7_text_J84 now0 (TT D m t it wr im ct lt)) := fun _ _ _ _ _ _ _ => rfl
  intro j
  induction j with
  | zero =>
    intro t c f f' n k x R it nowI ht0 hi hf hf' h2c hn h hci hI hsp
    obtain ⟨f, rfl⟩ : ∃ z, f = z + 1 := ⟨f - 1, by omega⟩
    obtain ⟨f', rfl⟩ : ∃ z, f' = z + 1 := ⟨f' - 1, by omega⟩
    rw [st6, if_neg (show ¬ (120 : Int32) < nI (c + 1) from nI_nlt (a := 120) (by omega) (by omega))]
    rcases ri_j (ln := ln) (pl := pl) hm hD hC (show t ≤ 120 by omega) (show c < 120 by omega) hn x h hci hI with ⟨t', x', R', it', n', k', nowJ, e1, e2, e3, e4, -⟩ | ⟨t', x', R', it', ct', lt', e1, e2, e3, e4⟩
    · exact absurd e3 (by omega)
    · obtain ⟨T', g1, g2⟩ := J84_w (D := D) (m := m) (t := t') now0 it' (nI (c + 1)) ct' lt'
      rw [e1, o3_v, if_pos rfl, e2, o1_v, st7, if_neg (show ¬ (1 : Int32) = 0 by decide), g1, show fX6_at 121 s2 ((nI t', x') : Tr).1 = _ from at_v s2 (i := t') (by omega) (by omega), o1_v, (hC t' (by omega)).2.1]
      exact Or.inr ⟨stN D m t', _, R', T', by have := (bfN_le D m t').2.1; omega, rfl, rfl, g2, by rw [e4]; exact h.c01⟩
  | succ j ih =>
    intro t c f f' n k x R it nowI ht0 hi hf hf' h2c hn h hci hI hsp
    obtain ⟨f, rfl⟩ : ∃ z, f = z + 1 := ⟨f - 1, by omega⟩
    obtain ⟨f', rfl⟩ : ∃ z, f' = z + 1 := ⟨f' - 1, by omega⟩
    rw [st6, if_neg (show ¬ (120 : Int32) < nI (c + 1) from nI_nlt (a := 120) (by omega) (by omega))]
    rcases ri_j (ln := ln) (pl := pl) hm hD hC (show t ≤ 120 by omega) (show c < 120 by omega) hn x h hci hI with ⟨t', x', R', it', n', k', nowJ, e1, e2, e3, e4, e5, e6, e7, e8, e9⟩ | ⟨t', x', R', it', ct', lt', e1, e2, e3, e4⟩
    · have h19 := (cl_le D m (stN D m t'))
      have hs := (bfN_le D m t').2.1
      rw [e1, o3_v, if_neg (show ¬ (1 : Int32) = 0 by decide), now_v hC e4, o1_v, o1_v, e2, o1_v, st7, if_pos rfl]
      by_cases q17 : clF D m (stN D m t') = 17
      · have hsm : ¬ stN D m t' < m := h19.2.mp q17
        have hms : msF D m (stN D m t') = 0 := by
          unfold msF
          rw [if_neg hsm]
        rw [if_pos (show nI (clF D m (stN D m t')) = (17 : Int32) by rw [q17]; rfl), if_neg (show ¬ nI (msF D m (stN D m t')) = (3 : Int32) by rw [hms]; decide)]
        obtain ⟨r, r1, r2, r3⟩ := e8
        have st8 : fX7_text_J84 now0 (TT D m t' it' 0 (nI (c + 1)) (nI n') (nI k')) = if nI (msF D m (stN D m t')) = 0 then (o1 (fX7_must (TT D m t' it' 0 (nI (c + 1)) (nI n') (nI k')) (1 : Int32)) (fun T116 => if T116.2.2.2.2.2.2.2.1 = 0 then (fX7_text_L121 (T116.1, T116.2.1, (0 : Int32), T116.2.2.2.1, T116.2.2.2.2.1, T116.2.2.2.2.2.1, T116.2.2.2.2.2.2.1, T116.2.2.2.2.2.2.2.1, T116.2.2.2.2.2.2.2.2.1, T116.2.2.2.2.2.2.2.2.2.1, T116.2.2.2.2.2.2.2.2.2.2) (fun now117 => some (T116.2.2.2.2.2.2.2.2.1, now117, (T116.1, T116.2.1, (0 : Int32), T116.2.2.2.1, T116.2.2.2.2.1, T116.2.2.2.2.2.1, T116.2.2.2.2.2.2.1, T116.2.2.2.2.2.2.2.1, T116.2.2.2.2.2.2.2.2.1, T116.2.2.2.2.2.2.2.2.2.1, T116.2.2.2.2.2.2.2.2.2.2))) fu now0 (0 : Int32)) else (some (((-1 : Int32) - T116.2.2.2.1), now0, (T116.1, T116.2.1, (0 : Int32), T116.2.2.2.1, T116.2.2.2.2.1, T116.2.2.2.2.2.1, T116.2.2.2.2.2.2.1, T116.2.2.2.2.2.2.2.1, T116.2.2.2.2.2.2.2.2.1, T116.2.2.2.2.2.2.2.2.2.1, T116.2.2.2.2.2.2.2.2.2.2))))) else (o1 (fX7_must (TT D m t' it' 0 (nI (c + 1)) (nI n') (nI k')) (0 : Int32)) (fun T112 => if T112.2.2.2.2.2.2.2.1 = 0 then (fX7_text_L121 (T112.1, T112.2.1, (0 : Int32), T112.2.2.2.1, T112.2.2.2.2.1, T112.2.2.2.2.2.1, T112.2.2.2.2.2.2.1, T112.2.2.2.2.2.2.2.1, T112.2.2.2.2.2.2.2.2.1, T112.2.2.2.2.2.2.2.2.2.1, T112.2.2.2.2.2.2.2.2.2.2) (fun now115 => some (T112.2.2.2.2.2.2.2.2.1, now115, (T112.1, T112.2.1, (0 : Int32), T112.2.2.2.1, T112.2.2.2.2.1, T112.2.2.2.2.2.1, T112.2.2.2.2.2.2.1, T112.2.2.2.2.2.2.2.1, T112.2.2.2.2.2.2.2.2.1, T112.2.2.2.2.2.2.2.2.2.1, T112.2.2.2.2.2.2.2.2.2.2))) fu now0 (0 : Int32)) else (some (((-1 : Int32) - T112.2.2.2.1), now0, (T112.1, T112.2.1, (0 : Int32), T112.2.2.2.1, T112.2.2.2.2.1, T112.2.2.2.2.2.1, T112.2.2.2.2.2.2.1, T112.2.2.2.2.2.2.2.1, T112.2.2.2.2.2.2.2.2.1, T112.2.2.2.2.2.2.2.2.2.1, T112.2.2.2.2.2.2.2.2.2.2))))) := rfl
        rw [st8, if_pos (show nI (msF D m (stN D m t')) = 0 by rw [hms]; rfl), must_t hm hD, o1_v, if_pos (show ((TT D m (t' + 1) it' 0 (nI (c + 1)) (nI n') (nI k')) : Mt).2.2.2.2.2.2.2.1 = 0 from rfl)]
        have hL := so_L (T := MT D it' (0 : Int32) (nI (stN D m (t' + 1))) (nI (bfN D m (t' + 1 + 1))) (nI (msF D m (stN D m (t' + 1)))) (vaF D m (stN D m (t' + 1))) 0 (nI (c + 1)) (nI n') (nI k')) (c := c + 1) (by omega) rfl r (r3 _ (fun _ _ => rfl)) (fun now117 => some (nI (c + 1), now117, MT D it' (0 : Int32) (nI (stN D m (t' + 1))) (nI (bfN D m (t' + 1 + 1))) (nI (msF D m (stN D m (t' + 1)))) (vaF D m (stN D m (t' + 1))) 0 (nI (c + 1)) (nI n') (nI k'))) (c + 1) 0 fu (by omega) (fu_gt (by omega))
        rw [r1, r2] at hL
        exact Or.inl ⟨c + 1, _, R', n', k', nowJ, _, by omega, rfl, hL, rfl, e5, e6, e7, fun i h1 h2 => (e9 i h1 h2).trans (hsp i h1 h2)⟩
      · have hsm : stN D m t' < m := Decidable.byContradiction (fun z => q17 (h19.2.mpr z))
        rw [if_neg (show ¬ nI (clF D m (stN D m t')) = (17 : Int32) from fun z => q17 ((nI_eq (b := 17) (by omega) (by omega)).mp z))]
        have hbad : clF D m (stN D m t') ≠ 16 → TxP D now0 (KT s1 s2 s3 ln pl) (o1 (fX6_at 121 s2 ((nI t', x') : Tr).1) (fun x113 => some (((-1 : Int32) - x113), (nI t', x'), KT s1 s2 s3 ln pl, R'))) (fX7_text_J84 now0 (TT D m t' it' 0 (nI (c + 1)) (nI n') (nI k'))) := fun q16 => by
          have hms : msF D m (stN D m t') ≠ 0 := by
            unfold msF
            rw [if_pos hsm]
            by_cases w : isL (D (stN D m t'))
            · rw [if_pos w]; omega
            · rw [if_neg w]
              by_cases z : isD (D (stN D m t'))
              · rw [if_pos z]; omega
              · rw [if_neg z]; omega
          have h4 := ms_le D m (stN D m t')
          obtain ⟨T', g1, g2⟩ := J84_w (D := D) (m := m) (t := t') now0 it' (nI (c + 1)) (nI n') (nI k')
          have g3 : fX7_text_J84 now0 (TT D m t' it' 0 (nI (c + 1)) (nI n') (nI k')) = some ((-1 : Int32) - nI (stN D m t'), now0, MT D it' (0 : Int32) (nI (stN D m t')) (nI (bfN D m (t' + 1))) (nI (msF D m (stN D m t'))) (vaF D m (stN D m t')) 1 (nI (c + 1)) (nI n') (nI k')) := by
            unfold fX7_text_J84
            rw [if_neg (show ¬ ((TT D m t' it' 0 (nI (c + 1)) (nI n') (nI k')) : Mt).2.2.2.2.2.1 = 0 from nI_ne0 (n := msF D m (stN D m t')) (by omega) (by omega)), must_f, o1_v, if_neg (show ¬ ((TT D m t' it' 1 (nI (c + 1)) (nI n') (nI k')) : Mt).2.2.2.2.2.2.2.1 = 0 from fun z => absurd (show (1 : Int32) = 0 from z) (by decide))]
          rw [g3, show fX6_at 121 s2 ((nI t', x') : Tr).1 = _ from at_v s2 (i := t') (by omega) (by omega), o1_v, (hC t' (by omega)).2.1]
          exact Or.inr ⟨stN D m t', _, R', _, by omega, rfl, rfl, rfl, e6.c01⟩
        by_cases q16 : clF D m (stN D m t') = 16
        · have hms : msF D m (stN D m t') = 3 ∧ D (stN D m t') = 59 := by
            unfold clF at q16
            unfold msF
            rw [if_pos hsm] at q16 ⊢
            by_cases w : isL (D (stN D m t'))
            · rw [if_pos w] at q16
              rcases wc_or D (stN D m t') (enF D m (stN D m t')) with y | y <;> omega
            · rw [if_neg w] at q16 ⊢
              by_cases z : isD (D (stN D m t'))
              · rw [if_pos z] at q16; omega
              · rw [if_neg z] at q16 ⊢
                by_cases y : D (stN D m t') = 59
                · exact ⟨rfl, y⟩
                · rw [if_neg y] at q16; omega
          have ht3 := t_lt hm (show clF D m (stN D m t') ≠ 17 by omega)
          rw [if_pos (show nI (clF D m (stN D m t')) = (16 : Int32) by rw [q16]; rfl), if_pos (show nI (msF D m (stN D m t')) = (3 : Int32) by rw [hms.1]; rfl), rd_v _ _ (by omega) (by omega), if_pos hms.2, must_t hm hD, o1_v]
          show TxP D now0 (KT s1 s2 s3 ln pl) (fX4_read_L15 (KT s1 s2 s3 ln pl) (fun Q114 R115 => o1 (fX6_at 121 s2 Q114.1) (fun x116 => some (((-1 : Int32) - x116), Q114, KT s1 s2 s3 ln pl, R115))) f (nI t' + (1 : Int32), x') R' (nI (c + 1) + (1 : Int32))) _
          rw [show nI t' + (1 : Int32) = nI (t' + 1) from nI_1 t', show nI (c + 1) + (1 : Int32) = nI (c + 1 + 1) from nI_1 (c + 1)]
          exact ih (t' + 1) (c + 1) f f' n' k' x' R' it' nowJ (by omega) (by omega) (by omega) (by omega) (by omega) e5 e6 e7 e8 (fun i h1 h2 => (e9 i h1 h2).trans (hsp i h1 h2))
        · rw [if_neg (show ¬ nI (clF D m (stN D m t')) = (16 : Int32) from fun z => q16 ((nI_eq (b := 16) (by omega) (by omega)).mp z))]
          by_cases w : nI (msF D m (stN D m t')) = (3 : Int32)
          · have hD59 : ¬ D (stN D m t') = 59 := fun z => q16 (by
              have w' : msF D m (stN D m t') = 3 := (nI_eq (b := 3) (by have := ms_le D m (stN D m t'); omega) (by omega)).mp w
              unfold msF at w'
              unfold clF
              rw [if_pos hsm] at w' ⊢
              by_cases y : isL (D (stN D m t'))
              · rw [if_pos y] at w'; omega
              · rw [if_neg y] at w' ⊢
                by_cases u : isD (D (stN D m t'))
                · rw [if_pos u] at w'; omega
                · rw [if_neg u, if_pos z])
            rw [if_pos w, rd_v _ _ (by omega) (by omega), if_neg hD59]
            exact hbad q16
          · rw [if_neg w]
            exact hbad q16
    · obtain ⟨T', g1, g2⟩ := J84_w (D := D) (m := m) (t := t') now0 it' (nI (c + 1)) ct' lt'
      rw [e1, o3_v, if_pos rfl, e2, o1_v, st7, if_neg (show ¬ (1 : Int32) = 0 by decide), g1, show fX6_at 121 s2 ((nI t', x') : Tr).1 = _ from at_v s2 (i := t') (by omega) (by omega), o1_v, (hC t' (by omega)).2.1]
      exact Or.inr ⟨stN D m t', _, R', T', by have := (bfN_le D m t').2.1; omega, rfl, rfl, g2, by rw [e4]; exact h.c01⟩
/-- the call: the roof, the trial roof and the reader may change -/
theorem op_text {R B : Rf} {P now : Nat → Int32} {Q : Tr} {K : Tk} {m : Nat} {T : Mt} (hR : Rl R now) (hm : m ≤ 120) (hT : Tpe m P T) : ∃ v R' B' Q' K' now' T', fX6_text R B P Q K (nI m) = some (v, R', B', Q', K', nI 0) ∧ fX7_text now T = some (v, now', T') ∧ Rl R' now' ∧ (B'.2.2.2.2.2.1 = 0 ∨ B'.2.2.2.2.2.1 = 1) ∧ Tpe 0 P T' := by
  have hR' := hR
  obtain ⟨n, k, hn, h, hci, hsp⟩ := hR
  have hP : ∀ i, i < m → P i = T.1 i := fun i hi => (hT.2 i hi).1
  have hD : ∀ i, i < m → ∃ b, b < 256 ∧ T.1 i = nI b := fun i hi => (hT.2 i hi).2
  obtain ⟨s1, s2, s3, pl, e1, hC⟩ := cut_ok (D := T.1) hm hP K
  have e2 : fX7_next (T.1, T.2.1, T.2.2.1, T.2.2.2.1, (0 : Int32), T.2.2.2.2.2.1, T.2.2.2.2.2.2.1, (0 : Int32), (0 : Int32), nI n, nI k) = some (TT T.1 m 0 T.2.1 0 (nI 0) (nI n) (nI k)) := by
    rw [hT.1]
    exact next7_v (p := 0) hm (Nat.zero_le m) hD T.2.2.2.1 T.2.2.2.2.2.1 T.2.2.2.2.2.2.1 0 0 (nI n) (nI k)
  have key := rd_L (ln := nI m) (pl := pl) hm hD hC (now0 := now) 120 0 0 fu fu n k Q.2 R T.2.1 now (by omega) (by omega) (fu_gt (by omega)) (fu_gt (by omega)) (by omega) hn h hci (ItP.rf _ _) (fun _ _ _ => rfl)
  have x6 : fX6_text R B P Q K (nI m) = o4 (fX4_read_L15 (KT s1 s2 s3 (nI m) pl) (fun Q114 R115 => o1 (fX6_at 121 s2 Q114.1) (fun x116 => some (((-1 : Int32) - x116), Q114, KT s1 s2 s3 (nI m) pl, R115))) fu (nI 0, Q.2) R (nI (0 + 1))) (fun x102 Q103 K104 R105 => if x102 < 0 then (some (x102, R, R105, Q103, K104, (0 : Int32))) else (o1 (fX1_become R R105) (fun R106 => some (x102, R106, R105, Q103, K104, (0 : Int32))))) := by
    unfold fX6_text fX4_read
    rw [become_v B h.c01, o1_v, e1, o1_v]
    rfl
  have x7 : fX7_text now T = o1 (fX7_readItem (TT T.1 m 0 T.2.1 0 (nI 0) (nI n) (nI k))) (fun T110 => fX7_text_L43 (fun T111 => fX7_text_J84 now T111) fu T110) := by
    unfold fX7_text
    rw [show rd now 120 (2 : Int32) _ = _ from rd_v now (i := 2) _ (by omega) (by omega), show rd now 120 (3 : Int32) _ = _ from rd_v now (i := 3) _ (by omega) (by omega), h.n1, hci.1, e2, o1_v]
  rw [x6, x7]
  have t0 : ∀ T' : Mt, T'.2.2.1 = 0 → Tpe 0 P T' := fun T' hz => ⟨hz, fun i hi => absurd hi (Nat.not_lt_zero i)⟩
  rcases key with ⟨C, Q', R', n', k', nowJ, T', c1, c2, c3, c4, c5, c6, c7, c8⟩ | ⟨s, Q', R', T', c1, c2, c3, c4, c5⟩
  · rw [c2, c3, o4_v, if_neg (nI_pos (n := C) (by omega)), become_v R c6.c01, o1_v]
    exact ⟨_, _, _, _, _, _, _, rfl, rfl, ⟨n', k', c5, c6, c7, fun i hi => by rw [c8 _ (by omega) (by omega)]; exact hsp i hi⟩, c6.c01, t0 T' c4⟩
  · have hneg : (-1 : Int32) - nI s < 0 := by
      have : ∀ s, s < 121 → (-1 : Int32) - nI s < 0 := by decide +kernel
      exact this s (by omega)
    rw [c2, c3, o4_v, if_pos hneg]
    exact ⟨_, _, _, _, _, _, _, rfl, rfl, hR', c5, t0 T' c4⟩
