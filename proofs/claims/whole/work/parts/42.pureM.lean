/-! ===== buckets: ways, the least first ===== -/
/-- ways of j buckets into cisterns from n - d on, by rising numbers, the least first -/
def wyS (n : Nat) (prev : Nat → List (List Nat)) : Nat → List (List Nat)
  | 0 => []
  | d + 1 => (prev (d + 1)).map (fun w => (n - (d + 1)) :: w) ++ wyS n prev d
def wyF (n : Nat) : Nat → Nat → List (List Nat)
  | 0 => fun _ => [[]]
  | j + 1 => wyS n (wyF n j)
/-- the way behind a way -/
def nxL (n : Nat) : List Nat → Option (List Nat)
  | [] => none
  | c :: w => match nxL n w with
    | some w' => some (c :: w')
    | none => if c + 1 < n then some (List.replicate (w.length + 1) (c + 1)) else none
def chK (n : Nat) : List (List Nat) → Bool
  | [] => true
  | w :: r => match r with
    | [] => decide (nxL n w = none)
    | w' :: _ => decide (nxL n w = some w') && chK n r
/-- the ways that are gone through -/
def wyC (n N : Nat) : List (List Nat) := if n = 0 ∧ 0 < N then [List.replicate N 0] else wyF n N n
theorem ch_ok : ∀ n, n < 9 → ∀ N, N < 5 → chK n (wyC n N) = true ∧ (wyC n N).head? = some (List.replicate N 0) ∧ (wyC n N).all (fun w => decide (w.length = N)) = true ∧ (wyC n N).length < 900 := by decide +kernel
theorem wy_00 : ∀ N, 0 < N → wyF 0 N 0 = [] := by
  intro N h
  obtain ⟨N, rfl⟩ : ∃ q, N = q + 1 := ⟨N - 1, by omega⟩
  rfl
/-- a bucket more -/
abbrev bkt (now : Nat → Int32) (c : Nat) : Nat → Int32 := upd now (16 + 10 * c + 2) (now (16 + 10 * c + 2) + 1)
/-- whether a way does -/
def gdB (n k : Nat) : (Nat → Int32) → List Nat → Bool
  | now, [] => opB now k
  | now, c :: w => decide (c < n ∧ now (16 + 10 * c + 2) < now (16 + 10 * c + 1)) && gdB n k (bkt now c) w
theorem up_id {f : Nat → Int32} {a : Nat} {x y : Int32} (h : y = f a) : upd (upd f a x) a y = f := by
  funext i
  by_cases q : i = a
  · subst q; rw [up_s, h]
  · rw [up_n q, up_n q]
/-- the model's search, by depth -/
def canD : Nat → (Nat → Int32) → (Nat → Int32) → Int32 → Int32 → Int32 → Option (Int32 × (Nat → Int32) × (Nat → Int32))
  | 0 => fX7_canCarry_D0
  | q + 1 => fX7_canCarry_B (canD q)
theorem canD_5 : fX7_canCarry_D5 = canD 5 := rfl
theorem find_c (n k c : Nat) (now : Nat → Int32) (l : List (List Nat)) (h : c < n ∧ now (16 + 10 * c + 2) < now (16 + 10 * c + 1)) : (l.map (fun w => c :: w)).find? (gdB n k now) = (l.find? (gdB n k (bkt now c))).map (fun w => c :: w) := by
  rw [List.find?_map]
  congr 2
  funext w
  show (decide (c < n ∧ now (16 + 10 * c + 2) < now (16 + 10 * c + 1)) && gdB n k (bkt now c) w) = gdB n k (bkt now c) w
  rw [decide_eq_true h, Bool.true_and]
theorem find_n (n k c : Nat) (now : Nat → Int32) (l : List (List Nat)) (h : ¬ (c < n ∧ now (16 + 10 * c + 2) < now (16 + 10 * c + 1))) : (l.map (fun w => c :: w)).find? (gdB n k now) = none := by
  rw [List.find?_eq_none]
  intro x hx
  obtain ⟨w, -, rfl⟩ := List.mem_map.mp hx
  show ¬ (decide (c < n ∧ now (16 + 10 * c + 2) < now (16 + 10 * c + 1)) && gdB n k (bkt now c) w) = true
  rw [decide_eq_false h, Bool.false_and]
  decide
/-- what the search answers -/
def CanP (n k j d many dn : Nat) (now carried : Nat → Int32) (x : Option (Int32 × (Nat → Int32) × (Nat → Int32))) : Prop := ∃ c', (∀ p, p < dn → c' p = carried p) ∧ (((wyF n j d).find? (gdB n k now) = none ∧ x = some (0, now, c')) ∨ ∃ w, (wyF n j d).find? (gdB n k now) = some w ∧ x = some (1, now, c') ∧ ∀ i, i < j → c' (dn + i) = nI (w.getD i 0))
theorem can_L {n k : Nat} (hn : n < 9) {j q many dn : Nat} (hmany : many < 5) (hdn : dn + (j + 1) = many) (ih : ∀ (d : Nat) (now carried : Nat → Int32) (R : Rf), d ≤ n → SM n 0 0 R now → CI k now → CanP n k j d many (dn + 1) now carried (canD q now carried (nI many) (nI (n - d)) (nI (dn + 1)))) (kx : (Nat → Int32) → (Nat → Int32) → Option (Int32 × (Nat → Int32) × (Nat → Int32))) : ∀ (d f : Nat) (now carried : Nat → Int32) (R : Rf), d ≤ n → d < f → SM n 0 0 R now → CI k now → ∃ c', (∀ p, p < dn → c' p = carried p) ∧ (((wyF n (j + 1) d).find? (gdB n k now) = none ∧ fX7_canCarry_B_L13 (canD q) (nI many) (nI dn) kx f now carried (nI (n - d)) = kx now c') ∨ ∃ w, (wyF n (j + 1) d).find? (gdB n k now) = some w ∧ fX7_canCarry_B_L13 (canD q) (nI many) (nI dn) kx f now carried (nI (n - d)) = some (1, now, c') ∧ ∀ i, i < j + 1 → c' (dn + i) = nI (w.getD i 0)) := by
  intro d
  induction d with
  | zero =>
    intro f now carried R hd hf h hci
    obtain ⟨f, rfl⟩ : ∃ q, f = q + 1 := ⟨f - 1, by omega⟩
    refine ⟨carried, fun _ _ => rfl, Or.inl ⟨rfl, ?_⟩⟩
    rw [fX7_canCarry_B_L13, show rd now 120 (2 : Int32) _ = _ from rd_v now (i := 2) _ (by omega) (by omega), h.n1, if_pos (nI_le (by omega) (by omega))]
  | succ d ihd =>
    intro f now carried R hd hf h hci
    obtain ⟨f, rfl⟩ : ∃ q, f = q + 1 := ⟨f - 1, by omega⟩
    have hc8 : n - (d + 1) < 8 := by omega
    have hcn : n - (d + 1) < n := by omega
    have e1 : nI (n - (d + 1)) + (1 : Int32) = nI (n - d) := by
      rw [show n - d = n - (d + 1) + 1 by omega]
      exact nI_1 _
    have eW : (wyF n (j + 1) (d + 1)).find? (gdB n k now) = (((wyF n j (d + 1)).map (fun w => (n - (d + 1)) :: w)).find? (gdB n k now)).or ((wyF n (j + 1) d).find? (gdB n k now)) := List.find?_append
    rw [fX7_canCarry_B_L13, show rd now 120 (2 : Int32) _ = _ from rd_v now (i := 2) _ (by omega) (by omega), h.n1, if_neg (nle (by omega) (by omega)), cis_2 now hc8, o1_v, cis_1 now hc8, o1_v, e1, eW]
    by_cases hfit : now (16 + 10 * (n - (d + 1)) + 1) ≤ now (16 + 10 * (n - (d + 1)) + 2)
    · rw [if_pos hfit, find_n n k _ now _ (fun z => Int32.not_lt.mpr hfit z.2), Option.none_or]
      exact ihd f now carried R (by omega) (by omega) h hci
    · have hlt : now (16 + 10 * (n - (d + 1)) + 2) < now (16 + 10 * (n - (d + 1)) + 1) := Int32.not_le.mp hfit
      rw [if_neg hfit, at2, o1_v, rd_v now _ (by omega) (by omega), wr_v now _ _ (by omega) (by omega), wr_v carried _ _ (by omega) (by omega), find_c n k _ now _ ⟨hcn, hlt⟩, show nI dn + (1 : Int32) = nI (dn + 1) from nI_1 dn]
      obtain ⟨c', z1, z2⟩ := ih (d + 1) (bkt now (n - (d + 1))) (upd carried dn (nI (n - (d + 1)))) _ hd (h.set hc8 (w := 2) (by omega) (by omega) _) (hci.up (i := 16 + 10 * (n - (d + 1)) + 2) (by omega))
      have hbk : upd (bkt now (n - (d + 1))) (16 + 10 * (n - (d + 1)) + 2) (bkt now (n - (d + 1)) (16 + 10 * (n - (d + 1)) + 2) - 1) = now := up_id (by
        show upd now (16 + 10 * (n - (d + 1)) + 2) (now (16 + 10 * (n - (d + 1)) + 2) + 1) (16 + 10 * (n - (d + 1)) + 2) - 1 = _
        rw [up_s, Int32.add_sub_cancel])
      rcases z2 with ⟨w1, w2⟩ | ⟨w, w1, w2, w3⟩
      · rw [w2, o3_v, o1_v, rd_v _ _ (by omega) (by omega), wr_v _ _ _ (by omega) (by omega), hbk, if_pos rfl, w1, Option.map_none, Option.none_or]
        obtain ⟨c2, y1, y2⟩ := ihd f now c' R (by omega) (by omega) h hci
        refine ⟨c2, fun p hp => ?_, y2⟩
        rw [y1 p hp, z1 p (by omega), up_n (by omega)]
      · rw [w2, o3_v, o1_v, rd_v _ _ (by omega) (by omega), wr_v _ _ _ (by omega) (by omega), hbk, if_neg (show ¬ (1 : Int32) = 0 by decide), w1, Option.map_some, Option.some_or]
        refine ⟨c', fun p hp => ?_, Or.inr ⟨_, rfl, rfl, fun i hi => ?_⟩⟩
        · rw [z1 p (by omega), up_n (by omega)]
        · match i, hi with
          | 0, _ =>
            rw [Nat.add_zero, z1 dn (by omega), up_s]
            rfl
          | i + 1, hi =>
            have := w3 i (by omega)
            rw [show dn + (i + 1) = dn + 1 + i by omega, this]
            rfl
theorem can_v {n k : Nat} (hn : n < 9) {many : Nat} (hmany : many < 5) : ∀ (j q dn d : Nat) (now carried : Nat → Int32) (R : Rf), j ≤ q → dn + j = many → d ≤ n → SM n 0 0 R now → CI k now → CanP n k j d many dn now carried (canD (q + 1) now carried (nI many) (nI (n - d)) (nI dn)) := by
  intro j
  induction j with
  | zero =>
    intro q dn d now carried R hq hdn hd h hci
    have e : dn = many := by omega
    subst e
    refine ⟨carried, fun _ _ => rfl, ?_⟩
    show ((wyF n 0 d).find? (gdB n k now) = none ∧ fX7_canCarry_B (canD q) now carried (nI dn) (nI (n - d)) (nI dn) = some (0, now, carried)) ∨ ∃ w, (wyF n 0 d).find? (gdB n k now) = some w ∧ fX7_canCarry_B (canD q) now carried (nI dn) (nI (n - d)) (nI dn) = some (1, now, carried) ∧ ∀ i, i < 0 → carried (dn + i) = nI (w.getD i 0)
    unfold fX7_canCarry_B
    rw [if_pos rfl, open7_v hn h hci, o1_v, nb_b]
    have eW : (wyF n 0 d).find? (gdB n k now) = if opB now k = true then some [] else none := by
      show ([[]] : List (List Nat)).find? (gdB n k now) = _
      by_cases w : opB now k = true
      · rw [if_pos w]
        exact List.find?_cons_of_pos (show gdB n k now [] = true from w)
      · rw [if_neg w, List.find?_cons_of_neg (show ¬ gdB n k now [] = true from w)]
        rfl
    rw [eW]
    by_cases w : opB now k = true
    · rw [if_pos w, if_pos w]
      exact Or.inr ⟨[], rfl, rfl, fun i hi => absurd hi (Nat.not_lt_zero i)⟩
    · rw [if_neg w, if_neg w]
      exact Or.inl ⟨rfl, rfl⟩
  | succ j ih =>
    intro q dn d now carried R hq hdn hd h hci
    obtain ⟨q, rfl⟩ : ∃ z, q = z + 1 := ⟨q - 1, by omega⟩
    obtain ⟨c', z1, z2⟩ := can_L hn (q := q + 1) hmany hdn (fun d now carried R hd h hci => ih q (dn + 1) d now carried R (by omega) (by omega) hd h hci) (fun now127 carried128 => some ((0 : Int32), now127, carried128)) d fu now carried R hd (fu_gt (by omega)) h hci
    refine ⟨c', z1, ?_⟩
    show ((wyF n (j + 1) d).find? (gdB n k now) = none ∧ fX7_canCarry_B (canD (q + 1)) now carried (nI many) (nI (n - d)) (nI dn) = some (0, now, c')) ∨ ∃ w, (wyF n (j + 1) d).find? (gdB n k now) = some w ∧ fX7_canCarry_B (canD (q + 1)) now carried (nI many) (nI (n - d)) (nI dn) = some (1, now, c') ∧ ∀ i, i < j + 1 → c' (dn + i) = nI (w.getD i 0)
    unfold fX7_canCarry_B
    rw [if_neg (fun z => absurd ((nI_eq (by omega) (by omega)).mp z) (show ¬ many = dn by omega))]
    exact z2
/-- the ways of N buckets that do: the first -/
abbrev fdW (n k : Nat) (now : Nat → Int32) (N : Nat) : Option (List Nat) := (wyF n N n).find? (gdB n k now)
/-- how many buckets are told, and which way -/
def BkP (n k : Nat) (now : Nat → Int32) (no : Int32) (x : Int32) (c : Nat → Int32) : Prop := (∃ N, N < 5 ∧ x = nI N ∧ (∀ N', N' < N → fdW n k now N' = none) ∧ ∃ w, fdW n k now N = some w ∧ ∀ i, i < N → c i = nI (w.getD i 0)) ∨ (x = no ∧ ∀ N, N < 5 → fdW n k now N = none)
theorem bn7_L {n k : Nat} (hn : n < 9) {R : Rf} {now : Nat → Int32} (h : SM n 0 0 R now) (hci : CI k now) : ∀ (j i f : Nat) (carried : Nat → Int32), i + j = 5 → j < f → (∀ N', N' < i → fdW n k now N' = none) → ∃ x c', fX7_bucketsNow_L2 (fun now107 carried108 x109 => some (x109, now107, carried108)) f now carried (nI i) = some (x, now, c') ∧ BkP n k now 5 x c' := by
  intro j
  induction j with
  | zero =>
    intro i f carried hi hf hN
    obtain ⟨f, rfl⟩ : ∃ q, f = q + 1 := ⟨f - 1, by omega⟩
    have e : i = 5 := by omega
    subst e
    exact ⟨nI 5, carried, by rw [fX7_bucketsNow_L2, if_pos (show (4 : Int32) < nI 5 by decide)], Or.inr ⟨rfl, hN⟩⟩
  | succ j ih =>
    intro i f carried hi hf hN
    obtain ⟨f, rfl⟩ : ∃ q, f = q + 1 := ⟨f - 1, by omega⟩
    obtain ⟨c', z1, z2⟩ := can_v hn (many := i) (by omega) i 4 0 n now carried R (by omega) (by omega) (Nat.le_refl n) h hci
    rw [Nat.sub_self] at z2
    rw [fX7_bucketsNow_L2, if_neg (show ¬ (4 : Int32) < nI i from nI_nlt (a := 4) (by omega) (by omega)), canD_5]
    rcases z2 with ⟨w1, w2⟩ | ⟨w, w1, w2, w3⟩
    · rw [show canD 5 now carried (nI i) (0 : Int32) (0 : Int32) = _ from w2, o3_v, if_pos rfl, show nI i + (1 : Int32) = nI (i + 1) from nI_1 i]
      exact ih (i + 1) f c' (by omega) (by omega) (fun N' hN' => by
        rcases Nat.lt_succ_iff_lt_or_eq.mp hN' with q | q
        · exact hN N' q
        · rw [q]; exact w1)
    · rw [show canD 5 now carried (nI i) (0 : Int32) (0 : Int32) = _ from w2, o3_v, if_neg (show ¬ (1 : Int32) = 0 by decide)]
      exact ⟨nI i, c', rfl, Or.inl ⟨i, by omega, rfl, hN, w, w1, fun p hp => by have := w3 p hp; rwa [Nat.zero_add] at this⟩⟩
theorem bn7_v {n k : Nat} (hn : n < 9) {R : Rf} {now : Nat → Int32} (h : SM n 0 0 R now) (hci : CI k now) (carried : Nat → Int32) : ∃ x c', fX7_bucketsNow now carried = some (x, now, c') ∧ BkP n k now 5 x c' := by
  unfold fX7_bucketsNow
  exact bn7_L hn h hci 5 0 fu carried (by omega) (fu_gt (by omega)) (fun N' h => absurd h (Nat.not_lt_zero N'))
/-! ===== the other side's ways ===== -/
theorem nxL_app (n : Nat) (b b' : List Nat) (h : nxL n b = some b') : ∀ a : List Nat, nxL n (a ++ b) = some (a ++ b') := by
  intro a
  induction a with
  | nil => exact h
  | cons c a ih =>
    show (match nxL n (a ++ b) with
      | some w' => some (c :: w')
      | none => if c + 1 < n then some (List.replicate ((a ++ b).length + 1) (c + 1)) else none) = some (c :: (a ++ b'))
    rw [ih]
theorem fill_L {N : Nat} (hN : N < 5) (x : Int32) (kx : Ca → Option (Int32 × Ca)) (c1 : Nat → Int32) : ∀ (j i f : Nat) (g : Nat → Int32), i + j = N → j < f → ∃ g', fX0_nextWay_L33 (nI N) x kx f (c1, g) (nI i) = kx (c1, g') ∧ (∀ p, i ≤ p → p < N → g' p = x) ∧ ∀ p, (p < i ∨ N ≤ p) → g' p = g p := by
  intro j
  induction j with
  | zero =>
    intro i f g hi hf
    obtain ⟨f, rfl⟩ : ∃ q, f = q + 1 := ⟨f - 1, by omega⟩
    exact ⟨g, by rw [fX0_nextWay_L33, if_pos (nI_le (by omega) (by omega))], fun p h1 h2 => absurd h1 (by omega), fun _ _ => rfl⟩
  | succ j ih =>
    intro i f g hi hf
    obtain ⟨f, rfl⟩ : ∃ q, f = q + 1 := ⟨f - 1, by omega⟩
    obtain ⟨g', e, h1, h2⟩ := ih (i + 1) f (upd g i x) (by omega) (by omega)
    refine ⟨g', by rw [← e, fX0_nextWay_L33, if_neg (nle (by omega) (by omega)), put_v _ _ (by omega) (by omega), o1_v, show nI i + (1 : Int32) = nI (i + 1) from nI_1 i], fun p p1 p2 => ?_, fun p hp => ?_⟩
    · by_cases q : p = i
      · subst q
        rw [h2 p (by omega), up_s]
      · exact h1 p (by omega) p2
    · rw [h2 p (by omega), up_n (by omega)]
theorem next_L {n N : Nat} (hn : n < 9) (hN : N < 5) {R : Rf} (hR : R.2.2.2.1 = nI n) {ws : List Nat} (hl : ws.length = N) (hb : ∀ c, c ∈ ws → c < 100) (c1 g : Nat → Int32) (hg : ∀ i, i < N → g i = nI (ws.getD i 0)) : ∀ (j f : Nat), j ≤ N → j < f → nxL n (ws.drop j) = none → (nxL n ws = none ∧ fX0_nextWay_L4 R (nI N) (fun C109 => some ((0 : Int32), C109)) f (c1, g) (nI j - 1) = some (0, (c1, g))) ∨ ∃ w' g', nxL n ws = some w' ∧ fX0_nextWay_L4 R (nI N) (fun C109 => some ((0 : Int32), C109)) f (c1, g) (nI j - 1) = some (1, (c1, g')) ∧ ∀ i, i < N → g' i = nI (w'.getD i 0) := by
  intro j
  induction j with
  | zero =>
    intro f hj hf hd
    obtain ⟨f, rfl⟩ : ∃ q, f = q + 1 := ⟨f - 1, by omega⟩
    exact Or.inl ⟨hd, by rw [fX0_nextWay_L4, if_pos (show (nI 0 - 1 : Int32) < 0 by decide)]⟩
  | succ j ih =>
    intro f hj hf hd
    obtain ⟨f, rfl⟩ : ∃ q, f = q + 1 := ⟨f - 1, by omega⟩
    have hjl : j < ws.length := by omega
    have eg : ws.getD j 0 = ws[j] := by rw [List.getD_eq_getElem?_getD, List.getElem?_eq_getElem hjl]; rfl
    have hcb : ws[j] < 100 := hb _ (List.getElem_mem hjl)
    have hm1 : nI j + (-1 : Int32) = nI j - 1 := (Int32.sub_eq_add_neg _ _).symm
    have ed : ws.drop j = ws[j] :: ws.drop (j + 1) := List.drop_eq_getElem_cons hjl
    have en : nxL n (ws.drop j) = if ws[j] + 1 < n then some (List.replicate ((ws.drop (j + 1)).length + 1) (ws[j] + 1)) else none := by
      rw [ed]
      show (match nxL n (ws.drop (j + 1)) with
        | some w' => some (ws[j] :: w')
        | none => if ws[j] + 1 < n then some (List.replicate ((ws.drop (j + 1)).length + 1) (ws[j] + 1)) else none) = _
      rw [hd]
    rw [nI_pred, fX0_nextWay_L4, if_neg (nI_pos (n := j) (by omega)), at_v _ (by omega) (by omega), o1_v, show ((c1, g) : Ca).2 j = nI (ws.getD j 0) from hg j (by omega), eg, show nI ws[j] + (1 : Int32) = nI (ws[j] + 1) from nI_1 _, hasC_v hR, ob, hm1]
    by_cases q : ws[j] + 1 < n
    · rw [if_pos (show ¬ nI (ws[j] + 1) < 0 ∧ ¬ nI n ≤ nI (ws[j] + 1) from ⟨nI_pos (by omega), nle q (by omega)⟩)]
      rw [if_pos q] at en
      obtain ⟨g', e, h1, h2⟩ := fill_L hN (nI (ws[j] + 1)) (fun C108 => some ((1 : Int32), C108)) c1 (N - j) j fu g (by omega) (fu_gt (by omega))
      have ew := nxL_app n _ _ en (ws.take j)
      rw [List.take_append_drop] at ew
      refine Or.inr ⟨_, g', ew, e, fun i hi => ?_⟩
      have elen : (ws.take j).length = j := by rw [List.length_take]; omega
      by_cases z : i < j
      · rw [h2 i (Or.inl z), hg i hi]
        congr 1
        rw [List.getD_eq_getElem?_getD, List.getD_eq_getElem?_getD, List.getElem?_append_left (by omega), List.getElem?_take_of_lt z]
      · rw [h1 i (by omega) hi]
        congr 1
        rw [List.getD_eq_getElem?_getD, List.getElem?_append_right (by omega), List.getElem?_replicate, if_pos (by rw [List.length_drop]; omega)]
        rfl
    · rw [if_neg (show ¬ (¬ nI (ws[j] + 1) < 0 ∧ ¬ nI n ≤ nI (ws[j] + 1)) from fun z => z.2 (nI_le (by omega) (by omega)))]
      rw [if_neg q] at en
      exact ih f (by omega) (by omega) en
/-- a way is carried on the trial roof -/
theorem carry_L {n k N : Nat} (hn : n < 9) (hN : N < 5) {C : Ca} {d e : Int32} : ∀ (ws : List Nat) (i f : Nat) (R : Rf) (now : Nat → Int32), i + ws.length = N → ws.length < f → (∀ p, p < ws.length → C.2 (i + p) = nI (ws.getD p 0)) → (∀ c, c ∈ ws → c < 100) → SM n d e R now → CI k now → ∃ R' nowX, SM n d e R' nowX ∧ CI k nowX ∧ Kp n now nowX ∧ ((fX0_carryOnTrial_L14 C (nI N) (fun R112 => some ((1 : Int32), R112)) f R (nI i) = some (1, R') ∧ opB nowX k = gdB n k now ws) ∨ (fX0_carryOnTrial_L14 C (nI N) (fun R112 => some ((1 : Int32), R112)) f R (nI i) = some (0, R') ∧ gdB n k now ws = false)) := by
  intro ws
  induction ws with
  | nil =>
    intro i f R now hi hf hC hb h hci
    obtain ⟨f, rfl⟩ : ∃ q, f = q + 1 := ⟨f - 1, by omega⟩
    have e2 : i = N := hi
    exact ⟨R, now, h, hci, Kp.rf _, Or.inl ⟨by rw [fX0_carryOnTrial_L14, if_pos (nI_le (by omega) (by omega))], rfl⟩⟩
  | cons c ws ih =>
    intro i f R now hi hf hC hb h hci
    obtain ⟨f, rfl⟩ : ∃ q, f = q + 1 := ⟨f - 1, by omega⟩
    rw [List.length_cons] at hi hf
    have hC0 : C.2 i = nI c := hC 0 (by rw [List.length_cons]; omega)
    have hc100 : c < 100 := hb c List.mem_cons_self
    rw [fX0_carryOnTrial_L14, if_neg (nle (by omega) (by omega)), at_v _ (by omega) (by omega), o1_v, hC0, hasC_v h.n2, ob]
    by_cases q : c < n
    · have hc8 : c < 8 := by omega
      rw [if_pos (show ¬ nI c < 0 ∧ ¬ nI n ≤ nI c from ⟨nI_pos (by omega), nle q (by omega)⟩), get_2 R hc8, o1_v, get_1 R hc8, o1_v, h.fl hc8 (f := 2) (by omega), h.fl hc8 (f := 1) (by omega)]
      by_cases w : now (16 + 10 * c + 2) < now (16 + 10 * c + 1)
      · have hset := h.set hc8 (w := 2) (by omega) (by omega) (now (16 + 10 * c + 2) + 1)
        rw [if_pos w, raise_v R _ hc8, o1_v, h.fl hc8 (f := 2) (by omega), show nI i + (1 : Int32) = nI (i + 1) from nI_1 i]
        obtain ⟨R', nowX, y1, y2, y3, y4⟩ := ih (i + 1) f _ _ (by omega) (by omega) (fun p hp => by
          have := hC (p + 1) (by rw [List.length_cons]; omega)
          rw [show i + 1 + p = i + (p + 1) by omega, this]
          rfl) (fun c hc => hb c (List.mem_cons_of_mem _ hc)) hset (hci.up (i := 16 + 10 * c + 2) (by omega))
        have eg : gdB n k now (c :: ws) = gdB n k (bkt now c) ws := by
          show (decide (c < n ∧ now (16 + 10 * c + 2) < now (16 + 10 * c + 1)) && gdB n k (bkt now c) ws) = _
          rw [decide_eq_true ⟨q, w⟩, Bool.true_and]
        rw [eg]
        exact ⟨R', nowX, y1, y2, (show Kp n now (bkt now c) from fun t _ _ _ ht => up_n (ht c q)).tr y3, y4⟩
      · rw [if_neg w]
        refine ⟨R, now, h, hci, Kp.rf _, Or.inr ⟨rfl, ?_⟩⟩
        show (decide (c < n ∧ now (16 + 10 * c + 2) < now (16 + 10 * c + 1)) && gdB n k (bkt now c) ws) = false
        rw [decide_eq_false (fun z => w z.2), Bool.false_and]
    · rw [if_neg (show ¬ (¬ nI c < 0 ∧ ¬ nI n ≤ nI c) from fun z => z.2 (nI_le (by omega) (by omega)))]
      refine ⟨R, now, h, hci, Kp.rf _, Or.inr ⟨rfl, ?_⟩⟩
      show (decide (c < n ∧ now (16 + 10 * c + 2) < now (16 + 10 * c + 1)) && gdB n k (bkt now c) ws) = false
      rw [decide_eq_false (fun z => q z.1), Bool.false_and]
theorem carry_v {n k N : Nat} (hn : n < 9) (hN : N < 5) {C : Ca} {R0 R : Rf} {now0 nowX : Nat → Int32} (h0 : SM n 0 0 R0 now0) (hci : CI k now0) (hC : ∀ c, c < n → C.1 c = now0 (16 + 10 * c + 2)) {d e : Int32} (hX : SM n d e R nowX) (kX : Kp n now0 nowX) {ws : List Nat} (hl : ws.length = N) (hw : ∀ i, i < N → C.2 i = nI (ws.getD i 0)) (hb : ∀ c, c ∈ ws → c < 100) : ∃ R' d' e' nowY, SM n d' e' R' nowY ∧ CI k nowY ∧ Kp n now0 nowY ∧ ((fX0_carryOnTrial C R (nI N) = some (1, R') ∧ opB nowY k = gdB n k now0 ws) ∨ (fX0_carryOnTrial C R (nI N) = some (0, R') ∧ gdB n k now0 ws = false)) := by
  obtain ⟨r', e2, z1, z2⟩ := take_v (N := 8) (b := 0) hn (by omega) (by omega) C.1 hX.n2
  obtain ⟨d1, e3, h1⟩ := hX.lv hn (kX.vs (Kp.rf now0)) (r := r') (fun c hc => by rw [z1 c hc, Nat.zero_add]; exact hC c hc) z2
  obtain ⟨R', nowY, y1, y2, y3, y4⟩ := carry_L (C := C) hn hN ws 0 fu (r', R.2) now0 (by omega) (fu_gt (by omega)) (fun p hp => by rw [Nat.zero_add]; exact hw p (by omega)) hb h1 hci
  refine ⟨R', d1, e3, nowY, y1, y2, y3, ?_⟩
  unfold fX0_carryOnTrial
  rw [show fX1_takeLevels R 8 C.1 (0 : Int32) = _ from e2, o1_v]
  exact y4
theorem next_v {n N : Nat} (hn : n < 9) (hN : N < 5) {R : Rf} (hR : R.2.2.2.1 = nI n) {C : Ca} {ws : List Nat} (hl : ws.length = N) (hb : ∀ c, c ∈ ws → c < 100) (hg : ∀ i, i < N → C.2 i = nI (ws.getD i 0)) : (nxL n ws = none ∧ fX0_nextWay C R (nI N) = some (0, C)) ∨ ∃ w' g', nxL n ws = some w' ∧ fX0_nextWay C R (nI N) = some (1, (C.1, g')) ∧ ∀ i, i < N → g' i = nI (w'.getD i 0) := by
  unfold fX0_nextWay
  exact next_L hn hN hR hl hb C.1 C.2 hg N fu (Nat.le_refl N) (fu_gt (by omega)) (by rw [List.drop_eq_nil_of_le (by omega)]; rfl)
/-- the ways of N buckets are gone through -/
theorem go_L {n k N : Nat} (hn : n < 9) (hN : N < 5) {R0 : Rf} {now0 : Nat → Int32} (h0 : SM n 0 0 R0 now0) (hci : CI k now0) (c1 : Nat → Int32) (hC : ∀ c, c < n → c1 c = now0 (16 + 10 * c + 2)) (kx : Ca → Rf → Option (Int32 × Ca × Rf)) : ∀ (l : List (List Nat)) (ws : List Nat) (t f : Nat) (g : Nat → Int32) (R : Rf) (d e : Int32) (nowX : Nat → Int32), t + l.length < 900 → l.length + 1 < f → chK n (ws :: l) = true → (∀ w, w ∈ ws :: l → w.length = N ∧ ∀ c, c ∈ w → c < 100) → (∀ i, i < N → g i = nI (ws.getD i 0)) → SM n d e R nowX → Kp n now0 nowX → ∃ g' R' d' e' nowY, SM n d' e' R' nowY ∧ Kp n now0 nowY ∧ (((ws :: l).find? (gdB n k now0) = none ∧ fX0_fewest_L27 (nI N) kx f (c1, g) R 1 (nI t) = kx (c1, g') R') ∨ ∃ w, (ws :: l).find? (gdB n k now0) = some w ∧ fX0_fewest_L27 (nI N) kx f (c1, g) R 1 (nI t) = some (nI N, (c1, g'), R') ∧ ∀ i, i < N → g' i = nI (w.getD i 0)) := by
  intro l
  induction l with
  | nil =>
    intro ws t f g R d e nowX ht hf hch hw hg hX kX
    obtain ⟨f, rfl⟩ : ∃ q, f = q + 2 := ⟨f - 2, by omega⟩
    have hw0 := hw ws List.mem_cons_self
    have hnx : nxL n ws = none := of_decide_eq_true hch
    rw [List.length_nil] at ht
    obtain ⟨R', d', e', nowY, y1, y2, y3, y4⟩ := carry_v (C := (c1, g)) hn hN h0 hci hC hX kX hw0.1 hg hw0.2
    have hnext : fX0_nextWay (c1, g) R' (nI N) = some (0, (c1, g)) := by
      rcases next_v (C := (c1, g)) hn hN y1.n2 hw0.1 hw0.2 hg with ⟨-, q⟩ | ⟨w', g', q, -⟩
      · exact q
      · rw [hnx] at q; cases q
    rw [fX0_fewest_L27, if_neg (show ¬ (1000 : Int32) ≤ nI t from nle (b := 1000) (by omega) (by omega)), if_neg (show ¬ (1 : Int32) = 0 by decide), show nI t + (1 : Int32) = nI (t + 1) from nI_1 t]
    have hend : fX0_fewest_L27 (nI N) kx (f + 1) (c1, g) R' 0 (nI (t + 1)) = kx (c1, g) R' := by
      rw [fX0_fewest_L27, if_neg (show ¬ (1000 : Int32) ≤ nI (t + 1) from nle (b := 1000) (by omega) (by omega)), if_pos rfl]
    rcases y4 with ⟨q1, q2⟩ | ⟨q1, q2⟩
    · rw [q1, o2_v, if_neg (show ¬ (1 : Int32) = 0 by decide), open1_v hn y1 y2, o1_v]
      by_cases z : opB nowY k = true
      · rw [if_neg (fun y => (bz _).mp y z)]
        refine ⟨g, R', d', e', nowY, y1, y3, Or.inr ⟨ws, List.find?_cons_of_pos (by rw [← q2]; exact z), rfl, hg⟩⟩
      · rw [if_pos ((bz _).mpr z), hnext, o2_v, hend]
        refine ⟨g, R', d', e', nowY, y1, y3, Or.inl ⟨?_, rfl⟩⟩
        rw [List.find?_cons_of_neg (by rw [← q2]; exact z)]
        rfl
    · rw [q1, o2_v, if_pos rfl, hnext, o2_v, hend]
      refine ⟨g, R', d', e', nowY, y1, y3, Or.inl ⟨?_, rfl⟩⟩
      rw [List.find?_cons_of_neg (by rw [q2]; decide)]
      rfl
  | cons ws2 l ih =>
    intro ws t f g R d e nowX ht hf hch hw hg hX kX
    obtain ⟨f, rfl⟩ : ∃ q, f = q + 1 := ⟨f - 1, by omega⟩
    have hw0 := hw ws List.mem_cons_self
    have hch2 : (decide (nxL n ws = some ws2) && chK n (ws2 :: l)) = true := hch
    rw [Bool.and_eq_true] at hch2
    have hnx : nxL n ws = some ws2 := of_decide_eq_true hch2.1
    rw [List.length_cons] at ht hf
    obtain ⟨R', d', e', nowY, y1, y2, y3, y4⟩ := carry_v (C := (c1, g)) hn hN h0 hci hC hX kX hw0.1 hg hw0.2
    obtain ⟨g2, hnext, hg2⟩ : ∃ g2, fX0_nextWay (c1, g) R' (nI N) = some (1, (c1, g2)) ∧ ∀ i, i < N → g2 i = nI (ws2.getD i 0) := by
      rcases next_v (C := (c1, g)) hn hN y1.n2 hw0.1 hw0.2 hg with ⟨q, -⟩ | ⟨w', g', q, q2, q3⟩
      · rw [hnx] at q; cases q
      · rw [hnx] at q
        cases q
        exact ⟨g', q2, q3⟩
    rw [fX0_fewest_L27, if_neg (show ¬ (1000 : Int32) ≤ nI t from nle (b := 1000) (by omega) (by omega)), if_neg (show ¬ (1 : Int32) = 0 by decide), show nI t + (1 : Int32) = nI (t + 1) from nI_1 t]
    have hgo := ih ws2 (t + 1) f g2 R' d' e' nowY (by omega) (by omega) hch2.2 (fun w hh => hw w (List.mem_cons_of_mem _ hh)) hg2 y1 y3
    rcases y4 with ⟨q1, q2⟩ | ⟨q1, q2⟩
    · rw [q1, o2_v, if_neg (show ¬ (1 : Int32) = 0 by decide), open1_v hn y1 y2, o1_v]
      by_cases z : opB nowY k = true
      · rw [if_neg (fun y => (bz _).mp y z)]
        exact ⟨g, R', d', e', nowY, y1, y3, Or.inr ⟨ws, List.find?_cons_of_pos (by rw [← q2]; exact z), rfl, hg⟩⟩
      · rw [if_pos ((bz _).mpr z), hnext, o2_v, List.find?_cons_of_neg (by rw [← q2]; exact z)]
        exact hgo
    · rw [q1, o2_v, if_pos rfl, hnext, o2_v, List.find?_cons_of_neg (by rw [q2]; decide)]
      exact hgo
theorem ways_L (c1 : Nat → Int32) (kx : Ca → Option Ca) : ∀ (j i f : Nat) (g : Nat → Int32), i + j = 4 → j < f → (∀ p, p < i → g p = 0) → ∃ g', fX0_beginWays_L2 kx f (c1, g) (nI i) = kx (c1, g') ∧ ∀ p, p < 4 → g' p = 0 := by
  intro j
  induction j with
  | zero =>
    intro i f g hi hf hg
    obtain ⟨f, rfl⟩ : ∃ q, f = q + 1 := ⟨f - 1, by omega⟩
    exact ⟨g, by rw [fX0_beginWays_L2, if_pos (show (4 : Int32) ≤ nI i from nI_le (a := 4) (by omega) (by omega))], fun p hp => hg p (by omega)⟩
  | succ j ih =>
    intro i f g hi hf hg
    obtain ⟨f, rfl⟩ : ∃ q, f = q + 1 := ⟨f - 1, by omega⟩
    obtain ⟨g', e, hz⟩ := ih (i + 1) f (upd g i 0) (by omega) (by omega) (fun p hp => by
      by_cases q : p = i
      · subst q; exact up_s
      · rw [up_n q]; exact hg p (by omega))
    exact ⟨g', by rw [← e, fX0_beginWays_L2, if_neg (show ¬ (4 : Int32) ≤ nI i from nle (b := 4) (by omega) (by omega)), wr_v _ _ _ (by omega) (by omega), show nI i + (1 : Int32) = nI (i + 1) from nI_1 i], hz⟩
theorem ways_v (C : Ca) : ∃ g', fX0_beginWays C = some (C.1, g') ∧ ∀ p, p < 4 → g' p = 0 := by
  unfold fX0_beginWays
  exact ways_L C.1 (fun C103 => some C103) 4 0 fu C.2 (by omega) (fu_gt (by omega)) (fun p hp => absurd hp (Nat.not_lt_zero p))
theorem wyS_lt {n : Nat} {prev : Nat → List (List Nat)} (hp : ∀ d w, d ≤ n → w ∈ prev d → ∀ c, c ∈ w → c < n) : ∀ d w, d ≤ n → w ∈ wyS n prev d → ∀ c, c ∈ w → c < n := by
  intro d
  induction d with
  | zero => intro w _ hw; cases hw
  | succ d ih =>
    intro w hd hw c hc
    rcases List.mem_append.mp hw with q | q
    · obtain ⟨v, hv, rfl⟩ := List.mem_map.mp q
      rcases List.mem_cons.mp hc with z | z
      · omega
      · exact hp (d + 1) v hd hv c z
    · exact ih w (by omega) q c hc
theorem wyF_lt (n : Nat) : ∀ j d w, d ≤ n → w ∈ wyF n j d → ∀ c, c ∈ w → c < n := by
  intro j
  induction j with
  | zero =>
    intro d w _ hw c hc
    rw [List.mem_singleton.mp (show w ∈ ([[]] : List (List Nat)) from hw)] at hc
    cases hc
  | succ j ih => exact wyS_lt ih
theorem wyC_b {n N : Nat} (hn : n < 9) {w : List Nat} (h : w ∈ wyC n N) : ∀ c, c ∈ w → c < 100 := by
  intro c hc
  unfold wyC at h
  by_cases q : n = 0 ∧ 0 < N
  · rw [if_pos q] at h
    rw [List.mem_singleton.mp h] at hc
    have := (List.mem_replicate.mp hc).2
    omega
  · rw [if_neg q] at h
    have := wyF_lt n N n w (Nat.le_refl n) h c hc
    omega
theorem wyC_f {n N : Nat} (k : Nat) (now : Nat → Int32) : (wyC n N).find? (gdB n k now) = fdW n k now N := by
  unfold wyC
  by_cases q : n = 0 ∧ 0 < N
  · obtain ⟨rfl, h⟩ := q
    rw [if_pos ⟨rfl, h⟩]
    have e : wyF 0 N 0 = [] := wy_00 N h
    show _ = (wyF 0 N 0).find? _
    rw [e]
    obtain ⟨N, rfl⟩ : ∃ z, N = z + 1 := ⟨N - 1, by omega⟩
    rw [List.replicate_succ, List.find?_cons_of_neg]
    show ¬ (decide (0 < 0 ∧ now (16 + 10 * 0 + 2) < now (16 + 10 * 0 + 1)) && gdB 0 k (bkt now 0) (List.replicate N 0)) = true
    rw [decide_eq_false (fun z => absurd z.1 (Nat.lt_irrefl 0)), Bool.false_and]
    decide
  · rw [if_neg q]
theorem few_L {n k : Nat} (hn : n < 9) {R0 : Rf} {now0 : Nat → Int32} (h0 : SM n 0 0 R0 now0) (hci : CI k now0) (c1 : Nat → Int32) (hC : ∀ c, c < n → c1 c = now0 (16 + 10 * c + 2)) : ∀ (j i f : Nat) (g : Nat → Int32) (R : Rf) (d e : Int32) (nowX : Nat → Int32), i + j = 5 → j < f → (∀ N', N' < i → fdW n k now0 N' = none) → SM n d e R nowX → Kp n now0 nowX → ∃ x C' R', fX0_fewest_L14 (fun C122 R123 => some ((-1 : Int32), C122, R123)) f (c1, g) R (nI i) = some (x, C', R') ∧ BkP n k now0 (-1) x C'.2 ∧ (R'.2.2.2.2.2.1 = 0 ∨ R'.2.2.2.2.2.1 = 1) := by
  intro j
  induction j with
  | zero =>
    intro i f g R d e nowX hi hf hN hX kX
    obtain ⟨f, rfl⟩ : ∃ q, f = q + 1 := ⟨f - 1, by omega⟩
    have e2 : i = 5 := by omega
    subst e2
    exact ⟨-1, (c1, g), R, by rw [fX0_fewest_L14, if_pos (show (4 : Int32) < nI 5 by decide)], Or.inr ⟨rfl, hN⟩, hX.c01⟩
  | succ j ih =>
    intro i f g R d e nowX hi hf hN hX kX
    obtain ⟨f, rfl⟩ : ∃ q, f = q + 1 := ⟨f - 1, by omega⟩
    obtain ⟨g0, e1, hz⟩ := ways_v (c1, g)
    obtain ⟨k1, k2, k3, k4⟩ := ch_ok n hn i (by omega)
    obtain ⟨l, hl⟩ : ∃ l, wyC n i = List.replicate i 0 :: l := by
      cases hq : wyC n i with
      | nil => rw [hq] at k2; cases k2
      | cons a l =>
        rw [hq] at k2
        have : a = List.replicate i 0 := Option.some.inj k2
        exact ⟨l, by rw [this]⟩
    have hwl : ∀ w, w ∈ List.replicate i 0 :: l → w.length = i ∧ ∀ c, c ∈ w → c < 100 := fun w hw => by
      rw [← hl] at hw
      exact ⟨of_decide_eq_true (List.all_eq_true.mp k3 w hw), wyC_b hn hw⟩
    rw [hl] at k1 k4
    rw [List.length_cons] at k4
    obtain ⟨g', R', d', e', nowY, y1, y2, y3⟩ := go_L (N := i) hn (by omega) h0 hci c1 hC (fun C120 R121 => fX0_fewest_L14 (fun C122 R123 => some ((-1 : Int32), C122, R123)) f C120 R121 (nI i + (1 : Int32))) l (List.replicate i 0) 0 fu g0 R d e nowX (by omega) (fu_gt (by omega)) k1 hwl (fun p hp => by
      rw [hz p (by omega), List.getD_eq_getElem?_getD, List.getElem?_replicate, if_pos hp]
      rfl) hX kX
    rw [← hl, wyC_f] at y3
    rw [fX0_fewest_L14, if_neg (show ¬ (4 : Int32) < nI i from nI_nlt (a := 4) (by omega) (by omega)), e1, o1_v]
    rcases y3 with ⟨q1, q2⟩ | ⟨w, q1, q2, q3⟩
    · rw [show fX0_fewest_L27 (nI i) _ fu ((c1, g).1, g0) R (1 : Int32) (0 : Int32) = _ from q2, show nI i + (1 : Int32) = nI (i + 1) from nI_1 i]
      exact ih (i + 1) f g' R' d' e' nowY (by omega) (by omega) (fun N' hN' => by
        rcases Nat.lt_succ_iff_lt_or_eq.mp hN' with q | q
        · exact hN N' q
        · rw [q]; exact q1) y1 y2
    · rw [show fX0_fewest_L27 (nI i) _ fu ((c1, g).1, g0) R (1 : Int32) (0 : Int32) = _ from q2]
      exact ⟨nI i, (c1, g'), R', rfl, Or.inl ⟨i, by omega, rfl, hN, w, q1, q3⟩, y1.c01⟩
theorem few_v {n k : Nat} (hn : n < 9) {R0 : Rf} {now0 : Nat → Int32} (h0 : SM n 0 0 R0 now0) (hci : CI k now0) (C : Ca) : ∃ x C' R', fX0_fewest C R0 = some (x, C', R') ∧ BkP n k now0 (-1) x C'.2 ∧ (R'.2.2.2.2.2.1 = 0 ∨ R'.2.2.2.2.2.1 = 1) := by
  obtain ⟨g', e, z1, z2⟩ := keep_v (N := 8) (b := 0) hn (by omega) (by omega) h0.n2 C.1
  unfold fX0_fewest
  rw [show fX1_keepLevels R0 8 C.1 (0 : Int32) = _ from e, o1_v]
  exact few_L hn h0 hci g' (fun c hc => by
    have := z1 c hc
    rw [Nat.zero_add] at this
    rw [this]
    exact h0.fl (by omega) (by omega)) 5 0 fu C.2 R0 0 0 now0 (by omega) (fu_gt (by omega)) (fun N' h => absurd h (Nat.not_lt_zero N')) h0 (Kp.rf _)
/-- both tell the same -/
theorem bk_same {n k : Nat} {now : Nat → Int32} {x y : Int32} {c c' : Nat → Int32} (h1 : BkP n k now (-1) x c) (h2 : BkP n k now 5 y c') : (∃ N, N < 5 ∧ x = nI N ∧ y = nI N ∧ ∀ i, i < N → c i = c' i) ∨ (x = -1 ∧ y = 5) := by
  rcases h1 with ⟨N, a1, a2, a3, w, a4, a5⟩ | ⟨a1, a2⟩
  · rcases h2 with ⟨M, b1, b2, b3, v, b4, b5⟩ | ⟨b1, b2⟩
    · have e : N = M := by
        rcases Nat.lt_trichotomy N M with z | z | z
        · rw [b3 N z] at a4; cases a4
        · exact z
        · rw [a3 M z] at b4; cases b4
      subst e
      rw [a4] at b4
      cases b4
      exact Or.inl ⟨N, a1, a2, b2, fun i hi => (a5 i hi).trans (b5 i hi).symm⟩
    · rw [b2 N a1] at a4; cases a4
  · rcases h2 with ⟨M, b1, b2, b3, v, b4, b5⟩ | ⟨b1, b2⟩
    · rw [a2 M b1] at b4; cases b4
    · exact Or.inr ⟨a1, b1⟩
/-! ===== buckets, carry, weak ===== -/
def P7 (now : Nat → Int32) (x : Option (Int32 × Rf × Ca × (Nat → Int32))) (y : Option (Int32 × (Nat → Int32) × (Nat → Int32) × (Nat → Int32))) : Prop := ∃ v B' C' fd' found' carried', x = some (v, B', C', fd') ∧ y = some (v, now, found', carried') ∧ (B'.2.2.2.2.2.1 = 0 ∨ B'.2.2.2.2.2.1 = 1) ∧ Fnd fd' found'
theorem P7.fnd {B : Rf} {C : Ca} {now carried fd found : Nat → Int32} (hB : B.2.2.2.2.2.1 = 0 ∨ B.2.2.2.2.2.1 = 1) (h : Fnd fd found) {i : Nat} (hi : i < 7) {c : Int32} (hc : (-1000001 : Int32) - c = nI i) : P7 now (o2 (fX6_finding fd c) (fun x f => some (x, B, C, f))) (o2 (fX7_finding found c) (fun x f => some (x, now, f, carried))) := by
  obtain ⟨fd', found', h1, h2, h3⟩ := Jvm.Pilot.CRainVaultLaw_law_r8479_c1ce3a.fnd h hi hc
  rw [h1, h2]
  exact ⟨_, _, _, _, _, _, rfl, rfl, hB, h3⟩
theorem op_buckets {R B : Rf} {C : Ca} {now fd found carried : Nat → Int32} (hR : Rl R now) (hF : Fnd fd found) : P7 now (fX6_buckets R B C fd) (fX7_buckets now found carried) := by
  obtain ⟨n, k, hn, h, hci, hsp⟩ := hR
  obtain ⟨x, C', R', e1, e2, e3⟩ := few_v hn h hci C
  obtain ⟨y, c', f1, f2⟩ := bn7_v hn h hci carried
  unfold fX6_buckets fX7_buckets
  rw [become_v B h.c01, o1_v, e1, o3_v, f1, o3_v]
  rcases bk_same e2 f2 with ⟨N, hN, rfl, rfl, -⟩ | ⟨rfl, rfl⟩
  · rw [if_pos (show (0 : Int32) ≤ nI N from nI_le (a := 0) (by omega) (by omega)), if_pos (show nI N ≤ (4 : Int32) from nI_le (b := 4) (by omega) (by omega))]
    exact ⟨_, _, _, _, _, _, rfl, rfl, e3, hF⟩
  · rw [if_neg (by decide), if_neg (by decide)]
    exact P7.fnd e3 hF (by omega) cN
theorem op_carry {R B : Rf} {C : Ca} {now fd found carried : Nat → Int32} (hR : Rl R now) (hB : B.2.2.2.2.2.1 = 0 ∨ B.2.2.2.2.2.1 = 1) (hF : Fnd fd found) (a : Int32) : P7 now (fX6_carry R B C fd a) (fX7_carry now found carried a) := by
  obtain ⟨n, k, hn, h, hci, hsp⟩ := hR
  obtain ⟨x, C', R', e1, e2, e3⟩ := few_v hn h hci C
  obtain ⟨y, c', f1, f2⟩ := bn7_v hn h hci carried
  unfold fX6_carry fX7_carry
  rw [win_v, ob, within_v, ob]
  by_cases ha : ¬ a < 0 ∧ ¬ (3 : Int32) < a
  · rw [if_pos ha, if_pos ha, become_v B h.c01, o1_v, e1, o3_v, f1, o3_v]
    obtain ⟨i, hi, rfl⟩ := inW (m := 3) (by omega) ha
    rcases bk_same e2 f2 with ⟨N, hN, rfl, rfl, hw⟩ | ⟨rfl, rfl⟩
    · rw [if_neg (show ¬ (4 : Int32) < nI N from nI_nlt (a := 4) (by omega) (by omega))]
      by_cases q : i < N
      · rw [if_pos (nI_lt q (by omega)), if_pos (nI_lt q (by omega)), at_v _ (by omega) (by omega), o1_v, rd_v _ _ (by omega) (by omega), hw i q]
        exact ⟨_, _, _, _, _, _, rfl, rfl, e3, hF⟩
      · rw [if_neg (nI_nlt (by omega) (by omega)), if_neg (nI_nlt (by omega) (by omega))]
        exact P7.fnd e3 hF (by omega) cN
    · rw [if_neg (show ¬ nI i < (-1 : Int32) from fun z => nI_pos (n := i) (by omega) (Int32.lt_trans z (by decide))), if_pos (by decide)]
      exact P7.fnd e3 hF (by omega) cN
  · rw [if_neg ha, if_neg ha]
    exact P7.fnd hB hF (by omega) cB
theorem bk_eq {x y u v : Int32} (h1 : (∃ N, N < 5 ∧ x = nI N ∧ y = nI N) ∨ (x = -1 ∧ y = 5)) (h2 : (∃ N, N < 5 ∧ u = nI N ∧ v = nI N) ∨ (u = -1 ∧ v = 5)) : x = u ↔ y = v := by
  rcases h1 with ⟨N, a1, rfl, rfl⟩ | ⟨rfl, rfl⟩
  · rcases h2 with ⟨M, b1, rfl, rfl⟩ | ⟨rfl, rfl⟩
    · exact Iff.rfl
    · refine ⟨fun z => absurd z ?_, fun z => absurd ((nI_eq (b := 5) (by omega) (by omega)).mp z) (by omega)⟩
      intro z
      exact nI_pos (n := N) (by omega) (by rw [z]; decide)
  · rcases h2 with ⟨M, b1, rfl, rfl⟩ | ⟨rfl, rfl⟩
    · refine ⟨fun z => absurd z.symm ?_, fun z => absurd ((nI_eq (a := 5) (by omega) (by omega)).mp z) (by omega)⟩
      intro z
      exact nI_pos (n := M) (by omega) (by rw [z]; decide)
    · exact ⟨fun _ => rfl, fun _ => rfl⟩
theorem bk_pair {n k : Nat} {now : Nat → Int32} {x y : Int32} {c c' : Nat → Int32} (h1 : BkP n k now (-1) x c) (h2 : BkP n k now 5 y c') : (∃ N, N < 5 ∧ x = nI N ∧ y = nI N) ∨ (x = -1 ∧ y = 5) := by
  rcases bk_same h1 h2 with ⟨N, a, b, c, -⟩ | q
  · exact Or.inl ⟨N, a, b, c⟩
  · exact Or.inr q
theorem weak_L {n k : Nat} (hn : n < 9) {R : Rf} {now : Nat → Int32} (h : SM n 0 0 R now) (hci : CI k now) {x y : Int32} (hxy : (∃ N, N < 5 ∧ x = nI N ∧ y = nI N) ∨ (x = -1 ∧ y = 5)) : ∀ (j i f f' : Nat) (B : Rf) (C : Ca) (carried : Nat → Int32) (s : Int32), i + j = k → j < f → j < f' → (B.2.2.2.2.2.1 = 0 ∨ B.2.2.2.2.2.1 = 1) → ∃ v B' C' carried', fX6_weak_L23 R x (fun B115 C116 x117 => some (x117, B115, C116)) f B C s (nI i) = some (v, B', C') ∧ fX7_weak_L20 now y (fun now119 carried120 x121 => some (x121, now119, now, carried120)) f' now carried s (nI i) = some (v, now, now, carried') ∧ (B'.2.2.2.2.2.1 = 0 ∨ B'.2.2.2.2.2.1 = 1) := by
  have hk : k < 9 := hci.2.1
  intro j
  induction j with
  | zero =>
    intro i f f' B C carried s hi hf hf' hB
    obtain ⟨f, rfl⟩ : ∃ q, f = q + 1 := ⟨f - 1, by omega⟩
    obtain ⟨f', rfl⟩ : ∃ q, f' = q + 1 := ⟨f' - 1, by omega⟩
    refine ⟨s, B, C, carried, ?_, ?_, hB⟩
    · rw [fX6_weak_L23, h.cn, hci.1, if_pos (nI_le (by omega) (by omega))]
    · rw [fX7_weak_L20, show rd now 120 (3 : Int32) _ = _ from rd_v now (i := 3) _ (by omega) (by omega), hci.1, if_pos (nI_le (by omega) (by omega))]
  | succ j ih =>
    intro i f f' B C carried s hi hf hf' hB
    obtain ⟨f, rfl⟩ : ∃ q, f = q + 1 := ⟨f - 1, by omega⟩
    obtain ⟨f', rfl⟩ : ∃ q, f' = q + 1 := ⟨f' - 1, by omega⟩
    obtain ⟨R2, now2, r1, r2, r3, r4, r5, r6⟩ := remove_v hn h hci (l := i) (by omega)
    obtain ⟨x2, C2, B2, e1, e2, e3⟩ := few_v hn r3 r4 C
    obtain ⟨y2, c2, f1, f2⟩ := bn7_v hn r3 r4 carried
    have hq := bk_eq (bk_pair e2 f2) hxy
    rw [fX6_weak_L23, h.cn, hci.1, if_neg (nle (by omega) (by omega)), become_v B h.c01, o1_v, r1, o1_v, e1, o3_v, fX7_weak_L20, show rd now 120 (3 : Int32) _ = _ from rd_v now (i := 3) _ (by omega) (by omega), hci.1, if_neg (nle (by omega) (by omega)), r2, o1_v, f1, o3_v, back_v, o2_v, show nI i + (1 : Int32) = nI (i + 1) from nI_1 i]
    by_cases q : x2 = x
    · rw [if_pos q, if_pos (hq.mp q), Int32.or_zero]
      exact ih (i + 1) f f' B2 C2 c2 s (by omega) (by omega) (by omega) e3
    · rw [if_neg q, if_neg (fun z => q (hq.mpr z))]
      exact ih (i + 1) f f' B2 C2 c2 _ (by omega) (by omega) (by omega) e3
theorem op_weak {R B : Rf} {C : Ca} {now aside carried : Nat → Int32} (hR : Rl R now) : ∃ v B' C' aside' carried', fX6_weak R B C = some (v, B', C') ∧ fX7_weak now aside carried = some (v, now, aside', carried') ∧ (B'.2.2.2.2.2.1 = 0 ∨ B'.2.2.2.2.2.1 = 1) := by
  obtain ⟨n, k, hn, h, hci, hsp⟩ := hR
  have hk : k < 9 := hci.2.1
  obtain ⟨x, C', R', e1, e2, e3⟩ := few_v hn h hci C
  obtain ⟨y, c', f1, f2⟩ := bn7_v hn h hci carried
  obtain ⟨v, B', C2, c2, g1, g2, g3⟩ := weak_L hn h hci (bk_pair e2 f2) k 0 fu fu R' C' c' 0 (by omega) (fu_gt (by omega)) (fu_gt (by omega)) e3
  refine ⟨v, B', C2, now, c2, ?_, ?_, g3⟩
  · unfold fX6_weak
    rw [become_v B h.c01, o1_v, e1, o3_v]
    exact g1
  · unfold fX7_weak
    rw [copy7_v, o1_v, f1, o3_v]
    exact g2
