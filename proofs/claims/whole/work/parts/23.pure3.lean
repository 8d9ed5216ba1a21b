/-! ===== the relation of the calls ===== -/
theorem win_v (a b c : Int32) : fX6_isWithin a b c = some (if ¬ a < b ∧ ¬ c < a then 1 else 0) := by
  unfold fX6_isWithin
  by_cases h : a < b
  · rw [if_pos h, if_neg (fun z => z.1 h)]
  · rw [if_neg h]
    by_cases h2 : c < a
    · rw [if_pos h2, if_neg (fun z => z.2 h2)]
    · rw [if_neg h2, if_pos ⟨h, h2⟩]
theorem ob {β : Type} {c : Prop} [Decidable c] {A B : Option β} : o1 (some (if c then (1 : Int32) else 0)) (fun x => if x = 0 then A else B) = if c then B else A := by
  by_cases h : c
  · rw [if_pos h, if_pos h, o1_v, if_neg (show ¬ (1 : Int32) = 0 by decide)]
  · rw [if_neg h, if_neg h, o1_v, if_pos rfl]
theorem hasC_v {R : Rf} {n : Nat} (h : R.2.2.2.1 = nI n) (x : Int32) : fX1_hasCistern R x = some (if ¬ x < 0 ∧ ¬ nI n ≤ x then 1 else 0) := by
  unfold fX1_hasCistern
  rw [h]
  by_cases h0 : x < 0
  · rw [if_pos h0, if_neg (fun z => z.1 h0)]
  · rw [if_neg h0]
    by_cases h1 : nI n ≤ x
    · rw [if_pos h1, if_neg (fun z => z.2 h1)]
    · rw [if_neg h1, if_pos ⟨h0, h1⟩]
theorem inC {n : Nat} {x : Int32} (hn : n < 2147483648) (h : ¬ x < 0 ∧ ¬ nI n ≤ x) : ∃ j, j < n ∧ x = nI j := by
  rcases pk_ix x (n := n) hn with q | q | q
  · exact absurd q h.1
  · exact absurd q h.2
  · exact q
/-- a value in a range -/
theorem inW {m : Nat} {x : Int32} (hm : m < 2147483647) (h : ¬ x < 0 ∧ ¬ nI m < x) : ∃ j, j < m + 1 ∧ x = nI j := by
  obtain ⟨j, hj, rfl⟩ := nI_of h.1
  exact ⟨j, Nat.lt_succ_of_le (Nat.not_lt.mp (fun q => h.2 (nI_lt q hj))), rfl⟩
abbrev raB (s am : Int32) : Prop := (¬ s < 0 ∧ ¬ (3 : Int32) < s) ∧ ¬ am < 0 ∧ ¬ (9 : Int32) < am
theorem rain6_v (s am : Int32) : fX6_isRain s am = some (if raB s am then 1 else 0) := by
  unfold fX6_isRain
  rw [win_v, ob, win_v, ob]
  by_cases h : ¬ s < 0 ∧ ¬ (3 : Int32) < s
  · rw [if_pos h]
    by_cases h2 : ¬ am < 0 ∧ ¬ (9 : Int32) < am
    · rw [if_pos h2, if_pos ⟨h, h2⟩]
    · rw [if_neg h2, if_neg (fun z => h2 z.2)]
  · rw [if_neg h, if_neg (fun z => h z.1)]
theorem rain7_v (s am : Int32) : fX7_isRain s am = some (if raB s am then 1 else 0) := by
  unfold fX7_isRain
  rw [within_v, ob, within_v, ob]
  by_cases h : ¬ s < 0 ∧ ¬ (3 : Int32) < s
  · rw [if_pos h]
    by_cases h2 : ¬ am < 0 ∧ ¬ (9 : Int32) < am
    · rw [if_pos h2, if_pos ⟨h, h2⟩]
    · rw [if_neg h2, if_neg (fun z => h2 z.2)]
  · rw [if_neg h, if_neg (fun z => h z.1)]
/-- the roof and the row of all that an image keeps -/
def Rl (R : Rf) (now : Nat → Int32) : Prop := ∃ n k, n < 9 ∧ SM n 0 0 R now ∧ CI k now ∧ ∀ s, s < 10 → now (6 + s) = -1 ∨ ∃ j, j < 8 ∧ now (6 + s) = nI j
/-- the findings -/
def Fnd (fd found : Nat → Int32) : Prop := (∀ i, i < 7 → fd i = found (i + 1)) ∧ found 0 = 0 + fd 0 + fd 1 + fd 2 + fd 3 + fd 4 + fd 5 + fd 6
theorem a1c (a x : Int32) : a + 1 + x = a + x + 1 := by rw [Int32.add_assoc, Int32.add_comm 1 x, ← Int32.add_assoc]
theorem a1d (a x : Int32) : a + (x + 1) = a + x + 1 := (Int32.add_assoc a x 1).symm
theorem Fnd.up {fd found : Nat → Int32} (h : Fnd fd found) {i : Nat} (hi : i < 7) : Fnd (upd fd i (fd i + 1)) (upd (upd found (i + 1) (found (i + 1) + 1)) 0 (found 0 + 1)) := by
  obtain ⟨h1, h2⟩ := h
  refine ⟨fun j hj => ?_, ?_⟩
  · by_cases q : j = i
    · subst q
      rw [up_s, up_n (k := 0) (by omega), up_s, h1 j hj]
    · rw [up_n q, up_n (k := 0) (by omega), up_n (by omega), h1 j hj]
  · rw [up_s, h2]
    match i, hi with
    | 0, _ => rw [up_s, up_n (by omega), up_n (by omega), up_n (by omega), up_n (by omega), up_n (by omega), up_n (by omega)]; simp only [a1c, a1d]
    | 1, _ => rw [up_s, up_n (by omega), up_n (by omega), up_n (by omega), up_n (by omega), up_n (by omega), up_n (by omega)]; simp only [a1c, a1d]
    | 2, _ => rw [up_s, up_n (by omega), up_n (by omega), up_n (by omega), up_n (by omega), up_n (by omega), up_n (by omega)]; simp only [a1c, a1d]
    | 3, _ => rw [up_s, up_n (by omega), up_n (by omega), up_n (by omega), up_n (by omega), up_n (by omega), up_n (by omega)]; simp only [a1c, a1d]
    | 4, _ => rw [up_s, up_n (by omega), up_n (by omega), up_n (by omega), up_n (by omega), up_n (by omega), up_n (by omega)]; simp only [a1c, a1d]
    | 5, _ => rw [up_s, up_n (by omega), up_n (by omega), up_n (by omega), up_n (by omega), up_n (by omega), up_n (by omega)]; simp only [a1c, a1d]
    | 6, _ => rw [up_s, up_n (by omega), up_n (by omega), up_n (by omega), up_n (by omega), up_n (by omega), up_n (by omega)]; simp only [a1c, a1d]
    | i + 7, q => exact absurd q (by omega)
theorem fnd {fd found : Nat → Int32} (h : Fnd fd found) {i : Nat} (hi : i < 7) {c : Int32} (hc : (-1000001 : Int32) - c = nI i) : ∃ fd' found', fX6_finding fd c = some (c, fd') ∧ fX7_finding found c = some (c, found') ∧ Fnd fd' found' := by
  refine ⟨_, _, ?_, ?_, h.up hi⟩
  · unfold fX6_finding
    rw [hc, at_v _ hi (by omega), o1_v, put_v _ _ hi (by omega), o1_v]
  · unfold fX7_finding
    rw [hc, show nI i + (1 : Int32) = nI (i + 1) from nI_1 i, rd_v _ _ (by omega) (by omega), wr_v _ _ _ (by omega) (by omega), show rd (upd found (i + 1) (found (i + 1) + 1)) 8 (0 : Int32) _ = _ from rd_v _ (i := 0) _ (by omega) (by omega), show wr (upd found (i + 1) (found (i + 1) + 1)) 8 (0 : Int32) _ _ = _ from wr_v _ (i := 0) _ _ (by omega) (by omega), up_n (by omega)]
/-- a call that only answers -/
def P0 (x y : Option Int32) : Prop := ∃ v, x = some v ∧ y = some v
/-- a call that answers and may find -/
def P1 (x : Option (Int32 × (Nat → Int32))) (y : Option (Int32 × (Nat → Int32))) : Prop := ∃ v fd' found', x = some (v, fd') ∧ y = some (v, found') ∧ Fnd fd' found'
/-- a call that may change the roof too -/
def P2 (x : Option (Int32 × Rf × (Nat → Int32))) (y : Option (Int32 × (Nat → Int32) × (Nat → Int32))) : Prop := ∃ v R' fd' now' found', x = some (v, R', fd') ∧ y = some (v, now', found') ∧ Rl R' now' ∧ Fnd fd' found'
theorem P1.ite {c : Prop} [Decidable c] {a b : Option (Int32 × (Nat → Int32))} {a' b' : Option (Int32 × (Nat → Int32))} (h1 : c → P1 a a') (h2 : ¬ c → P1 b b') : P1 (if c then a else b) (if c then a' else b') := by
  by_cases h : c
  · rw [if_pos h, if_pos h]; exact h1 h
  · rw [if_neg h, if_neg h]; exact h2 h
theorem P2.ite {c : Prop} [Decidable c] {a b : Option (Int32 × Rf × (Nat → Int32))} {a' b' : Option (Int32 × (Nat → Int32) × (Nat → Int32))} (h1 : c → P2 a a') (h2 : ¬ c → P2 b b') : P2 (if c then a else b) (if c then a' else b') := by
  by_cases h : c
  · rw [if_pos h, if_pos h]; exact h1 h
  · rw [if_neg h, if_neg h]; exact h2 h
theorem P1.fnd {fd found : Nat → Int32} (h : Fnd fd found) {i : Nat} (hi : i < 7) {c : Int32} (hc : (-1000001 : Int32) - c = nI i) : P1 (o2 (fX6_finding fd c) (fun x f => some (x, f))) (o2 (fX7_finding found c) (fun x f => some (x, f))) := by
  obtain ⟨fd', found', h1, h2, h3⟩ := Jvm.Pilot.CRainVaultLaw_law_r8479_c1ce3a.fnd h hi hc
  rw [h1, h2]
  exact ⟨_, _, _, rfl, rfl, h3⟩
theorem P2.fnd {R : Rf} {now fd found : Nat → Int32} (hR : Rl R now) (h : Fnd fd found) {i : Nat} (hi : i < 7) {c : Int32} (hc : (-1000001 : Int32) - c = nI i) : P2 (o2 (fX6_finding fd c) (fun x f => some (x, R, f))) (o2 (fX7_finding found c) (fun x f => some (x, now, f))) := by
  obtain ⟨fd', found', h1, h2, h3⟩ := Jvm.Pilot.CRainVaultLaw_law_r8479_c1ce3a.fnd h hi hc
  rw [h1, h2]
  exact ⟨_, _, _, _, _, rfl, rfl, hR, h3⟩
theorem cB : (-1000001 : Int32) - (-1000001) = nI 0 := by decide
theorem cF : (-1000001 : Int32) - (-1000002) = nI 1 := by decide
theorem cK : (-1000001 : Int32) - (-1000003) = nI 2 := by decide
theorem cN : (-1000001 : Int32) - (-1000004) = nI 3 := by decide
theorem cS' : (-1000001 : Int32) - (-1000005) = nI 4 := by decide
theorem cM : (-1000001 : Int32) - (-1000006) = nI 5 := by decide
theorem cZ' : (-1000001 : Int32) - (-1000007) = nI 6 := by decide
theorem nI_sub1 {j : Nat} (h : 1 ≤ j) : nI j - (1 : Int32) = nI (j - 1) := pk_sub (b := 1) h
/-- what is told of a cistern -/
theorem op_of {R : Rf} {now fd found : Nat → Int32} (hR : Rl R now) (hF : Fnd fd found) (a b : Int32) : P1 (fX6_of R fd a b) (fX7_of now found a b) := by
  obtain ⟨n, k, hn, h, hci, hsp⟩ := hR
  unfold fX6_of fX7_of
  rw [hasC_v h.n2, ob, isC_v _ h.n1 hn, ob, win_v, ob, within_v, ob]
  refine P1.ite (fun hc => P1.ite (fun hb => ?_) (fun _ => P1.fnd hF (by omega) cB)) (fun _ => P1.fnd hF (by omega) cB)
  obtain ⟨c, hcn, rfl⟩ := inC (by omega) hc
  have hc8 : c < 8 := by omega
  obtain ⟨w, hw, rfl⟩ := inW (m := 10) (by omega) hb
  by_cases h6 : w = 6
  · subst h6
    rw [if_pos (show nI 6 = (6 : Int32) from rfl), if_pos (show nI 6 = (6 : Int32) from rfl)]
    obtain ⟨v, e1, e2⟩ := sh_e h hc8
    rw [e1, e2]
    exact ⟨_, _, _, rfl, rfl, hF⟩
  · have h6' : ¬ nI w = (6 : Int32) := fun z => h6 ((nI_eq (b := 6) (by omega) (by omega)).mp z)
    rw [if_neg h6', if_neg h6', get_v R hc8 hw, o1_v]
    rcases Nat.lt_or_ge w 6 with q | q
    · rw [if_neg (show ¬ (6 : Int32) ≤ nI w from nle (b := 6) q (by omega)), cis_v now hc8 (by omega), o1_v, h.fl hc8 q]
      exact ⟨_, _, _, rfl, rfl, hF⟩
    · obtain ⟨f, rfl⟩ : ∃ f, w = 7 + f := ⟨w - 7, by omega⟩
      rw [if_pos (show (6 : Int32) ≤ nI (7 + f) from nI_le (a := 6) (by omega) (by omega)), nI_sub1 (by omega), show 7 + f - 1 = 6 + f by omega, cis_v now hc8 (by omega), o1_v, ← Nat.add_assoc, ← Nat.add_assoc, h.ca hc8 (by omega)]
      exact ⟨_, _, _, rfl, rfl, hF⟩
theorem op_catches {R : Rf} {now fd found : Nat → Int32} (hR : Rl R now) (hF : Fnd fd found) (a b c : Int32) : P1 (fX6_catches R fd a b c) (fX7_catches now found a b c) := by
  obtain ⟨n, k, hn, h, hci, hsp⟩ := hR
  unfold fX6_catches fX7_catches
  rw [hasC_v h.n2, ob, isC_v _ h.n1 hn, ob, rain6_v, ob, rain7_v, ob]
  refine P1.ite (fun hc => P1.ite (fun hb => ?_) (fun _ => P1.fnd hF (by omega) cB)) (fun _ => P1.fnd hF (by omega) cB)
  obtain ⟨c', hcn, rfl⟩ := inC (by omega) hc
  have hc8 : c' < 8 := by omega
  obtain ⟨f, hf, rfl⟩ := inW (m := 3) (by omega) hb.1
  obtain ⟨kd, hkd, e1, e2⟩ := h.kd hc8
  rw [caught_v hc8 hkd e2 hf h.c01, comes_v hc8 hkd e1 hf, o1_v, o1_v, h.fl hc8 (by omega), h.co, h.ca hc8 hf]
  exact ⟨_, _, _, rfl, rfl, hF⟩
theorem hold6_L {n k : Nat} {d e : Int32} {R : Rf} {now : Nat → Int32} (hn : n < 9) (h : SM n d e R now) (hci : CI k now) (kx : Int32 → Option Int32) : ∀ (j i f : Nat), i + j = k → j < f → fX6_holding_L4 R kx f (nI (hoM now i)) (nI i) = kx (nI (hoM now k)) := by
  have hk : k < 9 := hci.2.1
  intro j
  induction j with
  | zero =>
    intro i f hi hf
    obtain ⟨f, rfl⟩ : ∃ q, f = q + 1 := ⟨f - 1, by omega⟩
    have : i = k := by omega
    subst this
    rw [fX6_holding_L4, h.cn, hci.1, if_pos (nI_le (by omega) (by omega))]
  | succ j ih =>
    intro i f hi hf
    obtain ⟨f, rfl⟩ : ∃ q, f = q + 1 := ⟨f - 1, by omega⟩
    rw [fX6_holding_L4, h.cn, hci.1, if_neg (nle (by omega) (by omega)), (holds_v hn h hci (l := i) (by omega)).1, o1_v, ← ih (i + 1) f (by omega) (by omega), hoM]
    by_cases q : hoB now i = true
    · rw [if_neg (fun z => (bz _).mp z q), if_pos q, sh1 i (by omega), nI_or, or_pow (hoM_lt now i)]
      exact congrArg _ (nI_1 i)
    · rw [if_pos ((bz _).mpr q), if_neg q]
      exact congrArg _ (nI_1 i)
theorem op_holding {R : Rf} {now : Nat → Int32} (hR : Rl R now) : P0 (fX6_holding R) (fX7_holding now) := by
  obtain ⟨n, k, hn, h, hci, hsp⟩ := hR
  refine ⟨_, ?_, holding7_v hn h hci⟩
  unfold fX6_holding
  exact hold6_L hn h hci _ k 0 fu (by omega) (fu_gt (by have := hci.2.1; omega))
theorem op_open {R : Rf} {now : Nat → Int32} (hR : Rl R now) : P0 (fX6_open R) (fX7_open now) := by
  obtain ⟨n, k, hn, h, hci, hsp⟩ := hR
  refine ⟨_, ?_, op7_v hn h hci⟩
  unfold fX6_open
  rw [open1_v hn h hci, o1_v]
  by_cases q : opB now k = true
  · rw [if_neg (fun z => (bz _).mp z q), if_pos q]
  · rw [if_pos ((bz _).mpr q), if_neg q]
theorem op_lockOf {R : Rf} {now fd found : Nat → Int32} (hR : Rl R now) (hF : Fnd fd found) (a b : Int32) : P1 (fX6_lockOf R fd a b) (fX7_lockOf now found a b) := by
  obtain ⟨n, k, hn, h, hci, hsp⟩ := hR
  unfold fX6_lockOf fX7_lockOf
  have hk : k < 9 := hci.2.1
  rw [show rd now 120 (3 : Int32) _ = _ from rd_v now (i := 3) _ (by omega) (by omega), h.cn, hci.1, win_v, ob, within_v, ob, win_v, ob, within_v, ob]
  refine P1.ite (fun hc => P1.ite (fun hb => ?_) (fun _ => P1.fnd hF (by omega) cB)) (fun _ => P1.fnd hF (by omega) cB)
  obtain ⟨l, hl, rfl⟩ := inC (n := k) (by omega) ⟨hc.1, (nlt_pred (by omega) hc.1).mp hc.2⟩
  obtain ⟨w, hw, rfl⟩ := inW (m := 3) (by omega) hb
  by_cases h3 : w = 3
  · subst h3
    rw [if_pos (show nI 3 = (3 : Int32) from rfl), if_pos (show nI 3 = (3 : Int32) from rfl), (holds_v hn h hci (l := l) (by omega)).1, (holds_v hn h hci (l := l) (by omega)).2, o1_v, o1_v]
    by_cases q : hoB now l = true
    · rw [if_neg (fun z => (bz _).mp z q), if_neg (fun z => (bz _).mp z q)]
      exact ⟨_, _, _, rfl, rfl, hF⟩
    · rw [if_pos ((bz _).mpr q), if_pos ((bz _).mpr q)]
      exact ⟨_, _, _, rfl, rfl, hF⟩
  · have h3' : ¬ nI w = (3 : Int32) := fun z => h3 ((nI_eq (b := 3) (by omega) (by omega)).mp z)
    rw [if_neg h3', if_neg h3', cf_v h (by omega) (by omega), li_v now (by omega) (by omega)]
    exact ⟨_, _, _, rfl, rfl, hF⟩
