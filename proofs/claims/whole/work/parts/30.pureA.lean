/-! ===== lock, pick, cistern ===== -/
theorem most_v (a : Int32) : fX6_mostRight a = some (if a = 4 then 40 else 7) ∧ fX7_mostOfB a = some (if a = 4 then 40 else 7) := by
  unfold fX6_mostRight fX7_mostOfB
  by_cases h : a = 4
  · rw [if_pos h, if_pos h]; exact ⟨rfl, rfl⟩
  · rw [if_neg h, if_neg h]; exact ⟨rfl, rfl⟩
/-- a condition is written -/
theorem setCond_v (R : Rf) {l : Nat} (hl : l < 8) (a b c : Int32) : fX1_setCondition R (nI l) a b c = some (R.1, upd (upd (upd R.2.1 (3 * l) a) (3 * l + 1) b) (3 * l + 2) c, R.2.2) := by
  unfold fX1_setCondition
  rw [show nI l * (3 : Int32) + (0 : Int32) = nI (3 * l) from i3 l 0, show nI l * (3 : Int32) + (1 : Int32) = nI (3 * l + 1) from i3 l 1, show nI l * (3 : Int32) + (2 : Int32) = nI (3 * l + 2) from i3 l 2, put_v _ _ (by omega) (by omega), o1_v, put_v _ _ (by omega) (by omega), o1_v, put_v _ _ (by omega) (by omega), o1_v]
theorem SM.cond {n : Nat} {d e : Int32} {R : Rf} {now : Nat → Int32} (h : SM n d e R now) {l : Nat} (hl : l < 8) (a b c : Int32) : SM n d e (R.1, upd (upd (upd R.2.1 (3 * l) a) (3 * l + 1) b) (3 * l + 2) c, R.2.2) (upd (upd (upd now (96 + 3 * l) a) (96 + 3 * l + 1) b) (96 + 3 * l + 2) c) :=
  ((h.lockf (j := 3 * l) (by omega) a).lockf (j := 3 * l + 1) (by omega) b).lockf (j := 3 * l + 2) (by omega) c
theorem CI.cond {k k' : Nat} {now now' : Nat → Int32} (h : CI k now) {l sd a b : Nat} (hl : l < 8) (hs : sd < 5) (ha : a < 8) (hb : b < 41) (h3 : now' 3 = nI k') (hk' : k' < 9) (hw : ∀ i, 96 ≤ i → i < 120 → now' i = upd (upd (upd now (96 + 3 * l) (nI sd)) (96 + 3 * l + 1) (nI a)) (96 + 3 * l + 2) (nI b) i) : CI k' now' := by
  refine ⟨h3, hk', fun t ht => ?_⟩
  rw [hw _ (by omega) (by omega), hw _ (by omega) (by omega), hw _ (by omega) (by omega)]
  by_cases q : t = l
  · subst q
    rw [up_n (by omega), up_n (by omega), up_s, up_n (by omega), up_s, up_s]
    exact ⟨⟨sd, hs, rfl⟩, ⟨a, ha, rfl⟩, ⟨b, hb, rfl⟩⟩
  · rw [up_n (by omega), up_n (by omega), up_n (by omega), up_n (by omega), up_n (by omega), up_n (by omega), up_n (by omega), up_n (by omega), up_n (by omega)]
    exact h.2.2 t ht
theorem op_lock {R : Rf} {now fd found : Nat → Int32} (hR : Rl R now) (hF : Fnd fd found) (a b c : Int32) : P2 (fX6_lock R fd a b c) (fX7_lock now found a b c) := by
  have hR' := hR
  obtain ⟨n, k, hn, h, hci, hsp⟩ := hR
  have hk : k < 9 := hci.2.1
  unfold fX6_lock fX7_lock
  rw [win_v, ob, win_v, ob, (most_v a).1, o1_v, win_v, ob, within_v, ob, within_v, ob, (most_v a).2, o1_v, within_v, ob, show rd now 120 (3 : Int32) _ = _ from rd_v now (i := 3) _ (by omega) (by omega), h.cn, hci.1]
  refine P2.ite (fun ha => P2.ite (fun hb => P2.ite (fun hc => ?_) (fun _ => P2.fnd hR' hF (by omega) cB)) (fun _ => P2.fnd hR' hF (by omega) cB)) (fun _ => P2.fnd hR' hF (by omega) cB)
  obtain ⟨sd, hsd, rfl⟩ := inW (m := 4) (by omega) ha
  obtain ⟨x, hx, rfl⟩ := inW (m := 7) (by omega) hb
  have hc' : ∃ y, y < 41 ∧ c = nI y := by
    by_cases q : nI sd = 4
    · rw [if_pos q] at hc
      exact inW (m := 40) (by omega) hc
    · rw [if_neg q] at hc
      obtain ⟨y, hy, e⟩ := inW (m := 7) (by omega) hc
      exact ⟨y, by omega, e⟩
  obtain ⟨y, hy, rfl⟩ := hc'
  by_cases h8 : k = 8
  · subst h8
    rw [if_neg (show ¬ nI 8 < (8 : Int32) by decide), if_pos (show nI 8 = (8 : Int32) from rfl)]
    exact P2.fnd hR' hF (by omega) cF
  · rw [if_pos (show nI k < (8 : Int32) from nI_lt (b := 8) (by omega) (by omega)), if_neg (show ¬ nI k = (8 : Int32) from fun z => h8 ((nI_eq (b := 8) (by omega) (by omega)).mp z))]
    unfold fX1_addCondition fX7_put
    rw [h.cn, hci.1, setCond_v _ (by omega), o1_v, o2_v, show rd now 120 (3 : Int32) _ = _ from rd_v now (i := 3) _ (by omega) (by omega), hci.1, show (96 : Int32) + (3 : Int32) * nI k + (0 : Int32) = nI (96 + 3 * k) from i96 k 0, show (96 : Int32) + (3 : Int32) * nI k + (1 : Int32) = nI (96 + 3 * k + 1) from i96 k 1, show (96 : Int32) + (3 : Int32) * nI k + (2 : Int32) = nI (96 + 3 * k + 2) from i96 k 2, wr_v _ _ _ (by omega) (by omega), wr_v _ _ _ (by omega) (by omega), wr_v _ _ _ (by omega) (by omega), show rd (upd (upd (upd now _ _) _ _) _ _) 120 (3 : Int32) _ = _ from rd_v _ (i := 3) _ (by omega) (by omega), up_n (by omega), up_n (by omega), up_n (by omega), hci.1, show nI k + (1 : Int32) = nI (k + 1) from nI_1 k, show wr (upd (upd (upd now _ _) _ _) _ _) 120 (3 : Int32) _ _ = _ from wr_v _ (i := 3) _ _ (by omega) (by omega), o2_v]
    have h2 := (h.cond (l := k) (by omega) (nI sd) (nI x) (nI y)).locks (nI (k + 1))
    refine ⟨_, _, _, _, _, rfl, rfl, ⟨n, k + 1, hn, h2, hci.cond (l := k) (by omega) hsd hx hy up_s (by omega) (fun i h1 h2 => up_n (by omega)), fun s hs => ?_⟩, hF⟩
    rw [up_n (by omega), up_n (by omega), up_n (by omega), up_n (by omega)]
    exact hsp s hs
/-- conditions behind one that goes move down -/
theorem pick_L {n k : Nat} (hn : n < 9) (kx : Rf → Option Rf) (kx' : (Nat → Int32) → Option (Nat → Int32)) : ∀ (j i f f' : Nat) (R : Rf) (now : Nat → Int32), i + j + 1 = k → j < f → 3 * j < f' → SM n 0 0 R now → CI k now → ∃ R' now', fX1_removeCondition_L12 kx f (R.1, R.2.1, R.2.2.1, R.2.2.2.1, nI (k - 1), R.2.2.2.2.2) (nI i) = kx (R'.1, R'.2.1, R'.2.2.1, R'.2.2.2.1, nI (k - 1), R'.2.2.2.2.2) ∧ fX7_takeOff_L7 kx' f' now (nI (96 + 3 * i)) = kx' now' ∧ SM n 0 0 R' now' ∧ CI k now' ∧ ∀ t, t < 96 → now' t = now t := by
  have e3 : ∀ i : Nat, (96 : Int32) + (3 : Int32) * nI i = nI (96 + 3 * i) := fun i => by
    show nI 96 + nI 3 * nI i = _
    rw [pk_mul, nI_add]
  intro j
  induction j with
  | zero =>
    intro i f f' R now hi hf hf' h hci
    have hk : k < 9 := hci.2.1
    obtain ⟨f, rfl⟩ : ∃ q, f = q + 1 := ⟨f - 1, by omega⟩
    obtain ⟨f', rfl⟩ : ∃ q, f' = q + 1 := ⟨f' - 1, by omega⟩
    refine ⟨R, now, ?_, ?_, h, hci, fun _ _ => rfl⟩
    · rw [fX1_removeCondition_L12, if_pos (show nI (k - 1) ≤ nI i from nI_le (by omega) (by omega))]
    · rw [fX7_takeOff_L7, show rd now 120 (3 : Int32) _ = _ from rd_v now (i := 3) _ (by omega) (by omega), hci.1, nI_sub1 (by omega), e3, if_pos (nI_le (by omega) (by omega))]
  | succ j ih =>
    intro i f f' R now hi hf hf' h hci
    have hk : k < 9 := hci.2.1
    obtain ⟨f, rfl⟩ : ∃ q, f = q + 1 := ⟨f - 1, by omega⟩
    obtain ⟨f', rfl⟩ : ∃ q, f' = q + 3 := ⟨f' - 3, by omega⟩
    obtain ⟨⟨sd, hsd, es⟩, ⟨a, ha, ea⟩, ⟨b, hb, eb⟩⟩ := hci.2.2 (i + 1) (by omega)
    have h2 := h.cond (l := i) (by omega) (nI sd) (nI a) (nI b)
    have c2 : CI k (upd (upd (upd now (96 + 3 * i) (nI sd)) (96 + 3 * i + 1) (nI a)) (96 + 3 * i + 2) (nI b)) := hci.cond (l := i) (by omega) hsd ha hb (by rw [up_n (by omega), up_n (by omega), up_n (by omega)]; exact hci.1) hk (fun _ _ _ => rfl)
    obtain ⟨R', now', g1, g2, g3, g4, g5⟩ := ih (i + 1) f f' _ _ (by omega) (by omega) (by omega) h2 c2
    refine ⟨R', now', ?_, ?_, g3, g4, fun t ht => ?_⟩
    · rw [← g1, fX1_removeCondition_L12, if_neg (show ¬ nI (k - 1) ≤ nI i from nle (by omega) (by omega)), show nI i + (1 : Int32) = nI (i + 1) from nI_1 i]
      have f0 : fX1_conditionFact (R.1, R.2.1, R.2.2.1, R.2.2.2.1, nI (k - 1), R.2.2.2.2.2) (nI (i + 1)) (0 : Int32) = some (nI sd) := by rw [← es]; exact cf_v h (w := 0) (by omega) (by omega)
      have f1 : fX1_conditionFact (R.1, R.2.1, R.2.2.1, R.2.2.2.1, nI (k - 1), R.2.2.2.2.2) (nI (i + 1)) (1 : Int32) = some (nI a) := by rw [← ea]; exact cf_v h (w := 1) (by omega) (by omega)
      have f2 : fX1_conditionFact (R.1, R.2.1, R.2.2.1, R.2.2.2.1, nI (k - 1), R.2.2.2.2.2) (nI (i + 1)) (2 : Int32) = some (nI b) := by rw [← eb]; exact cf_v h (w := 2) (by omega) (by omega)
      rw [f0, o1_v, f1, o1_v, f2, o1_v, setCond_v _ (by omega), o1_v]
    · have st : ∀ (g q : Nat) (nw : Nat → Int32) (x : Int32), nw 3 = nI k → 96 ≤ q → q < 96 + 3 * (k - 1) → nw (q + 3) = x → fX7_takeOff_L7 kx' (g + 1) nw (nI q) = fX7_takeOff_L7 kx' g (upd nw q x) (nI (q + 1)) := by
        intro g q nw x h3 hq1 hq2 hx
        rw [fX7_takeOff_L7, show rd nw 120 (3 : Int32) _ = _ from rd_v nw (i := 3) _ (by omega) (by omega), h3, nI_sub1 (by omega), e3, if_neg (nle (by omega) (by omega)), show nI q + (3 : Int32) = nI (q + 3) from nI_add q 3, rd_v nw _ (by omega) (by omega), wr_v nw _ _ (by omega) (by omega), hx]
        exact congrArg _ (nI_1 q)
      rw [← g2, st (f' + 2) _ now (nI sd) hci.1 (by omega) (by omega) (by rw [← es]; exact congrArg now (by omega)), st (f' + 1) _ _ (nI a) (by rw [up_n (by omega)]; exact hci.1) (by omega) (by omega) (by rw [up_n (by omega), ← ea]; exact congrArg now (by omega)), st f' _ _ (nI b) (by rw [up_n (by omega), up_n (by omega)]; exact hci.1) (by omega) (by omega) (by rw [up_n (by omega), up_n (by omega), ← eb]; exact congrArg now (by omega))]
      exact congrArg _ (congrArg nI (by omega))
    · rw [g5 t ht, up_n (by omega), up_n (by omega), up_n (by omega)]
theorem remove_v {n k : Nat} (hn : n < 9) {R : Rf} {now : Nat → Int32} (h : SM n 0 0 R now) (hci : CI k now) {l : Nat} (hl : l < k) : ∃ R' now', fX1_removeCondition R (nI l) = some R' ∧ fX7_takeOff now (nI l) = some now' ∧ SM n 0 0 R' now' ∧ CI (k - 1) now' ∧ (R'.2.2.2.2.1 = nI (k - 1)) ∧ ∀ t, t < 96 → t ≠ 3 → now' t = now t := by
  have hk : k < 9 := hci.2.1
  obtain ⟨R', now', g1, g2, g3, g4, g5⟩ := pick_L hn (fun R109 => some R109) (fun now107 => rd now107 120 (3 : Int32) (fun x108 => wr now107 120 (3 : Int32) (x108 - (1 : Int32)) (fun f109 => some f109))) (k - 1 - l) l fu fu R now (by omega) (fu_gt (by omega)) (fu_gt (by omega)) h hci
  refine ⟨(R'.1, R'.2.1, R'.2.2.1, R'.2.2.2.1, nI (k - 1), R'.2.2.2.2.2), upd now' 3 (nI (k - 1)), ?_, ?_, g3.locks _, ⟨up_s, by omega, fun t ht => ?_⟩, rfl, fun t ht h3 => by rw [up_n h3]; exact g5 t ht⟩
  · unfold fX1_removeCondition
    rw [h.cn, hci.1, nI_sub1 (by omega)]
    exact g1
  · unfold fX7_takeOff
    rw [show (96 : Int32) + (3 : Int32) * nI l = nI (96 + 3 * l) by show nI 96 + nI 3 * nI l = _; rw [pk_mul, nI_add], g2, show rd now' 120 (3 : Int32) _ = _ from rd_v now' (i := 3) _ (by omega) (by omega), show wr now' 120 (3 : Int32) _ _ = _ from wr_v now' (i := 3) _ _ (by omega) (by omega), g4.1, nI_sub1 (by omega)]
  · rw [up_n (by omega), up_n (by omega), up_n (by omega)]
    exact g4.2.2 t ht
theorem op_pick {R : Rf} {now fd found : Nat → Int32} (hR : Rl R now) (hF : Fnd fd found) (a : Int32) : P2 (fX6_pick R fd a) (fX7_pick now found a) := by
  have hR' := hR
  obtain ⟨n, k, hn, h, hci, hsp⟩ := hR
  have hk : k < 9 := hci.2.1
  unfold fX6_pick fX7_pick
  rw [show rd now 120 (3 : Int32) _ = _ from rd_v now (i := 3) _ (by omega) (by omega), h.cn, hci.1, win_v, ob, within_v, ob]
  refine P2.ite (fun hc => ?_) (fun _ => P2.fnd hR' hF (by omega) cB)
  obtain ⟨l, hl, rfl⟩ := inC (n := k) (by omega) ⟨hc.1, (nlt_pred (by omega) hc.1).mp hc.2⟩
  obtain ⟨R', now', e1, e2, g1, g2, g3, g4⟩ := remove_v hn h hci hl
  rw [e1, o1_v, e2, o1_v, show rd now' 120 (3 : Int32) _ = _ from rd_v now' (i := 3) _ (by omega) (by omega), g2.1, g3]
  exact ⟨_, _, _, _, _, rfl, rfl, ⟨n, k - 1, hn, g1, g2, fun s hs => by rw [g4 _ (by omega) (by omega)]; exact hsp s hs⟩, hF⟩
