/-! ===== below ===== -/
/-- how many of eight bits -/
def pcn (M : Nat) : Nat := M % 2 + M / 2 % 2 + M / 4 % 2 + M / 8 % 2 + M / 16 % 2 + M / 32 % 2 + M / 64 % 2 + M / 128 % 2
theorem pcn_up : ∀ M, M < 256 → ∀ c, c < 8 → M.testBit c = false → pcn (M ||| 2 ^ c) = pcn M + 1 ∧ M ||| 2 ^ c < 256 := by decide +kernel
theorem pcn_8 : ∀ M, M < 256 → pcn M = 8 → ∀ c, c < 8 → M.testBit c = true := by decide +kernel
theorem pcn_le : ∀ M, M < 256 → pcn M ≤ 8 := by decide +kernel
theorem tb_or : ∀ M, M < 256 → ∀ c, c < 8 → M.testBit c = true → M ||| 2 ^ c = M := by decide +kernel
theorem tb_i : ∀ M, M < 256 → ∀ c, c < 8 → ((((nI M) >>> (nI c &&& 31)) &&& (1 : Int32)) = 0 ↔ M.testBit c = false) := by decide +kernel
theorem tb_up {M c j : Nat} (h : M.testBit j = true) : (M ||| 2 ^ c).testBit j = true := by rw [Nat.testBit_or, h, Bool.true_or]
theorem tb_me {M c : Nat} : (M ||| 2 ^ c).testBit c = true := by rw [Nat.testBit_or, Nat.testBit_two_pow_self, Bool.or_true]
theorem tb_cs {M c j : Nat} (h : (M ||| 2 ^ c).testBit j = true) : M.testBit j = true ∨ j = c := by
  rw [Nat.testBit_or, Nat.testBit_two_pow, Bool.or_eq_true] at h
  rcases h with h | h
  · exact Or.inl h
  · exact Or.inr (of_decide_eq_true h).symm
/-- where the water of one goes on to, by the row -/
abbrev gtN (n : Nat) (now : Nat → Int32) (c : Nat) : Int32 := gtS n c (now (16 + 10 * c + 4))
/-- every cistern of the set leads off the roof, into the set, or to x -/
def Cld (n : Nat) (now : Nat → Int32) (M : Nat) (x : Int32) : Prop := ∀ c, c < 8 → M.testBit c = true → gtN n now c = -1 ∨ gtN n now c = x ∨ ∃ j, j < n ∧ gtN n now c = nI j ∧ M.testBit j = true
theorem reach_2 {n : Nat} {d e : Int32} {R : Rf} {now : Nat → Int32} (hn : n < 9) (h : SM n d e R now) (kx : Int32 → Option Int32) {M : Nat} (hM : M < 256) : ∀ (j t f : Nat) (x : Int32), t + j = 8 → j < f → (x = -1 ∨ ∃ c, c < n ∧ x = nI c ∧ M.testBit c = true) → (∀ c, c < 8 → M.testBit c = true → gtN n now c = -1 ∨ ∃ j, j < n ∧ gtN n now c = nI j ∧ M.testBit j = true) → fX1_reachedFrom_L11 R kx f (nI M) x (nI t) = kx (nI M) := by
  intro j
  induction j with
  | zero =>
    intro t f x ht hf hx hC
    obtain ⟨f, rfl⟩ : ∃ q, f = q + 1 := ⟨f - 1, by omega⟩
    rw [fX1_reachedFrom_L11, if_pos (show (8 : Int32) ≤ nI t from nI_le (a := 8) (by omega) (by omega))]
  | succ j ih =>
    intro t f x ht hf hx hC
    obtain ⟨f, rfl⟩ : ∃ q, f = q + 1 := ⟨f - 1, by omega⟩
    rw [fX1_reachedFrom_L11, if_neg (show ¬ (8 : Int32) ≤ nI t from nle (b := 8) (by omega) (by omega))]
    rcases hx with rfl | ⟨c, hc, rfl, hb⟩
    · rw [if_pos (show (-1 : Int32) < 0 by decide)]
    · have hc8 : c < 8 := by omega
      have e3 : nI M ||| ((1 : Int32) <<< (nI c &&& 31)) = nI M := by rw [sh1 c (by omega), nI_or, tb_or M hM c hc8 hb]
      rw [if_neg (nI_pos (n := c) (by omega)), gutter_v hc8 hn h.n2, o1_v, h.fl hc8 (by omega), show nI t + (1 : Int32) = nI (t + 1) from nI_1 t, e3]
      exact ih (t + 1) f _ (by omega) (by omega) (hC c hc8 hb) hC
theorem reach_1 {n : Nat} {d e : Int32} {R : Rf} {now : Nat → Int32} (hn : n < 9) (h : SM n d e R now) (kx : Int32 → Option Int32) (kx' : Int32 → Option (Int32 × (Nat → Int32))) : ∀ (j t f f' : Nat) (M : Nat) (x : Int32), t + j = 8 → j < f → j < f' → M < 256 → pcn M = t → (x = -1 ∨ ∃ c, c < n ∧ x = nI c) → Cld n now M x → ∃ V, fX1_reachedFrom_L11 R kx f (nI M) x (nI t) = kx V ∧ fX7_below_L23 now kx' f' (nI M) x = kx' V := by
  intro j
  induction j with
  | zero =>
    intro t f f' M x ht hf hf' hM hp hx hC
    obtain ⟨f, rfl⟩ : ∃ q, f = q + 1 := ⟨f - 1, by omega⟩
    obtain ⟨f', rfl⟩ : ∃ q, f' = q + 1 := ⟨f' - 1, by omega⟩
    refine ⟨nI M, by rw [fX1_reachedFrom_L11, if_pos (show (8 : Int32) ≤ nI t from nI_le (a := 8) (by omega) (by omega))], ?_⟩
    rcases hx with rfl | ⟨c, hc, rfl⟩
    · rw [fX7_below_L23, if_pos (show (-1 : Int32) < 0 by decide)]
    · have hb := pcn_8 M hM (by omega) c (by omega)
      rw [fX7_below_L23, if_neg (nI_pos (n := c) (by omega)), if_neg (fun z => by rw [(tb_i M hM c (by omega)).mp z] at hb; exact Bool.noConfusion hb)]
  | succ j ih =>
    intro t f f' M x ht hf hf' hM hp hx hC
    rcases hx with rfl | ⟨c, hc, rfl⟩
    · obtain ⟨f, rfl⟩ : ∃ q, f = q + 1 := ⟨f - 1, by omega⟩
      obtain ⟨f', rfl⟩ : ∃ q, f' = q + 1 := ⟨f' - 1, by omega⟩
      exact ⟨nI M, by rw [fX1_reachedFrom_L11, if_neg (show ¬ (8 : Int32) ≤ nI t from nle (b := 8) (by omega) (by omega)), if_pos (show (-1 : Int32) < 0 by decide)], by rw [fX7_below_L23, if_pos (show (-1 : Int32) < 0 by decide)]⟩
    · have hc8 : c < 8 := by omega
      cases hb : M.testBit c with
      | true =>
        refine ⟨nI M, reach_2 hn h kx hM (j + 1) t f _ ht hf (Or.inr ⟨c, hc, rfl, hb⟩) (fun a ha hA => ?_), ?_⟩
        · rcases hC a ha hA with q | q | q
          · exact Or.inl q
          · exact Or.inr ⟨c, hc, q, hb⟩
          · exact Or.inr q
        · obtain ⟨f', rfl⟩ : ∃ q, f' = q + 1 := ⟨f' - 1, by omega⟩
          rw [fX7_below_L23, if_neg (nI_pos (n := c) (by omega)), if_neg (fun z => by rw [(tb_i M hM c hc8).mp z] at hb; exact Bool.noConfusion hb)]
      | false =>
        obtain ⟨f, rfl⟩ : ∃ q, f = q + 1 := ⟨f - 1, by omega⟩
        obtain ⟨f', rfl⟩ : ∃ q, f' = q + 1 := ⟨f' - 1, by omega⟩
        obtain ⟨hp2, hM2⟩ := pcn_up M hM c hc8 hb
        have e3 : nI M ||| ((1 : Int32) <<< (nI c &&& 31)) = nI (M ||| 2 ^ c) := by rw [sh1 c (by omega), nI_or]
        have hC2 : Cld n now (M ||| 2 ^ c) (gtN n now c) := fun a ha hA => by
          rcases tb_cs hA with q | q
          · rcases hC a ha q with r | r | ⟨i, r1, r2, r3⟩
            · exact Or.inl r
            · exact Or.inr (Or.inr ⟨c, hc, r, tb_me⟩)
            · exact Or.inr (Or.inr ⟨i, r1, r2, tb_up r3⟩)
          · subst q
            exact Or.inr (Or.inl rfl)
        obtain ⟨V, g1, g2⟩ := ih (t + 1) f f' (M ||| 2 ^ c) (gtN n now c) (by omega) (by omega) (by omega) hM2 (by omega) (gtS_or n c _ hn) hC2
        refine ⟨V, ?_, ?_⟩
        · rw [← g1, fX1_reachedFrom_L11, if_neg (show ¬ (8 : Int32) ≤ nI t from nle (b := 8) (by omega) (by omega)), if_neg (nI_pos (n := c) (by omega)), gutter_v hc8 hn h.n2, o1_v, h.fl hc8 (by omega), show nI t + (1 : Int32) = nI (t + 1) from nI_1 t, e3]
        · rw [← g2, fX7_below_L23, if_neg (nI_pos (n := c) (by omega)), if_pos ((tb_i M hM c hc8).mpr hb), leads_v hc8 hn h.n1, o1_v, e3]
theorem op_below {R : Rf} {now fd found : Nat → Int32} (hR : Rl R now) (hF : Fnd fd found) (a : Int32) : P1 (fX6_below R fd a) (fX7_below now found a) := by
  obtain ⟨n, k, hn, h, hci, hsp⟩ := hR
  unfold fX6_below fX7_below
  rw [hasC_v h.n2, ob, isC_v _ h.n1 hn, ob]
  refine P1.ite (fun hc => ?_) (fun _ => P1.fnd hF (by omega) cB)
  obtain ⟨c, hcn, rfl⟩ := inC (by omega) hc
  have hc8 : c < 8 := by omega
  unfold fX1_reachedFrom
  rw [gutter_v hc8 hn h.n2, o1_v, leads_v hc8 hn h.n1, o1_v, h.fl hc8 (by omega)]
  obtain ⟨V, g1, g2⟩ := reach_1 hn h (fun x104 => some x104) (fun x105 => some (x105, found)) 8 0 fu fu 0 (gtN n now c) (by omega) (fu_gt (by omega)) (fu_gt (by omega)) (by omega) (by decide) (gtS_or n c _ hn) (fun a _ hA => by rw [Nat.zero_testBit] at hA; exact Bool.noConfusion hA)
  rw [show fX1_reachedFrom_L11 R (fun x104 => some x104) fu (0 : Int32) (gtS n c (now (16 + 10 * c + 4))) (0 : Int32) = some V from g1, o1_v]
  exact ⟨V, fd, found, rfl, g2, hF⟩
/-! ===== the tape ===== -/
/-- m bytes stand on the tape -/
def Tpe (m : Nat) (P : Nat → Int32) (T : Mt) : Prop := T.2.2.1 = nI m ∧ ∀ i, i < m → P i = T.1 i ∧ ∃ b, b < 256 ∧ T.1 i = nI b
theorem fd_k (x s : Int32) (k : Nat) (h1 : ((s.toUInt32 &&& Int32.toUInt32 31).toBitVec % 32).toNat = k) (h2 : ((s &&& 31 : Int32).toBitVec.smod 32).toNat = k) (hk : k = 0 ∨ k = 8 ∨ k = 16 ∨ k = 24) : ((x.toUInt32 >>> (s.toUInt32 &&& Int32.toUInt32 31)).toInt32) &&& (255 : Int32) = (x >>> (s &&& 31)) &&& (255 : Int32) := by
  rw [pk_and _ 8 (by decide), pk_and _ 8 (by decide), pk_ushr x s k h1]
  refine congrArg nI ?_
  have e : (x >>> (s &&& 31)).toBitVec.toInt = x.toBitVec.toInt >>> k := pk_shr x (s &&& 31) k h2
  rw [BitVec.toInt_eq_toNat_cond, BitVec.toInt_eq_toNat_cond, Int.shiftRight_eq_div_pow] at e
  have a := x.toBitVec.isLt
  have b := (x >>> (s &&& 31)).toBitVec.isLt
  generalize x.toBitVec.toNat = X at *
  generalize (x >>> (s &&& 31)).toBitVec.toNat = Y at *
  rcases hk with rfl | rfl | rfl | rfl
  · rw [show ((2 ^ 0 : Nat) : Int) = 1 from rfl] at e
    split at e <;> split at e <;> omega
  · rw [show ((2 ^ 8 : Nat) : Int) = 256 from rfl] at e
    split at e <;> split at e <;> omega
  · rw [show ((2 ^ 16 : Nat) : Int) = 65536 from rfl] at e
    split at e <;> split at e <;> omega
  · rw [show ((2 ^ 24 : Nat) : Int) = 16777216 from rfl] at e
    split at e <;> split at e <;> omega
theorem fd_v (x : Int32) {s : Nat} (hs : s < 4) : ∃ b, b < 256 ∧ ((x.toUInt32 >>> (((8 : Int32) * nI s).toUInt32 &&& Int32.toUInt32 31)).toInt32) &&& (255 : Int32) = nI b ∧ (x >>> (((8 : Int32) * nI s) &&& 31)) &&& (255 : Int32) = nI b := by
  obtain ⟨b, hb, e⟩ := pk_andE (x >>> (((8 : Int32) * nI s) &&& 31)) (m := 255) 8 (by decide)
  refine ⟨b, hb, ?_, e⟩
  rw [← e]
  match s, hs with
  | 0, _ => exact fd_k x _ 0 (by decide) (by decide) (Or.inl rfl)
  | 1, _ => exact fd_k x _ 8 (by decide) (by decide) (Or.inr (Or.inl rfl))
  | 2, _ => exact fd_k x _ 16 (by decide) (by decide) (Or.inr (Or.inr (Or.inl rfl)))
  | 3, _ => exact fd_k x _ 24 (by decide) (by decide) (Or.inr (Or.inr (Or.inr rfl)))
  | s + 4, q => exact absurd q (by omega)
theorem feed_L (x : Int32) (kx : (Nat → Int32) → Int32 → Option (Int32 × (Nat → Int32) × (Nat → Int32) × Int32)) (kx' : Mt → Option (Int32 × (Nat → Int32) × Mt)) : ∀ (j f f' m : Nat) (P : Nat → Int32) (T : Mt), j ≤ 4 → j < f → j < f' → m + j ≤ 120 → Tpe m P T → ∃ P' T', fX6_feed_L38 x kx f P (nI m) (nI j - 1) = kx P' (nI (m + j)) ∧ fX7_feed_L38 x kx' f' T (nI j - 1) = kx' T' ∧ Tpe (m + j) P' T' := by
  intro j
  induction j with
  | zero =>
    intro f f' m P T hj hf hf' hm hT
    obtain ⟨f, rfl⟩ : ∃ q, f = q + 1 := ⟨f - 1, by omega⟩
    obtain ⟨f', rfl⟩ : ∃ q, f' = q + 1 := ⟨f' - 1, by omega⟩
    have hz : (nI 0 - 1 : Int32) < 0 := by decide
    exact ⟨P, T, by rw [fX6_feed_L38, if_pos hz]; rfl, by rw [fX7_feed_L38, if_pos hz], hT⟩
  | succ j ih =>
    intro f f' m P T hj hf hf' hm hT
    obtain ⟨f, rfl⟩ : ∃ q, f = q + 1 := ⟨f - 1, by omega⟩
    obtain ⟨f', rfl⟩ : ∃ q, f' = q + 1 := ⟨f' - 1, by omega⟩
    obtain ⟨b, hb, e1, e2⟩ := fd_v x (s := j) (by omega)
    have hT2 : Tpe (m + 1) (upd P m (nI b)) (upd T.1 m (nI b), T.2.1, (nI (m + 1)), T.2.2.2.1, T.2.2.2.2.1, T.2.2.2.2.2.1, T.2.2.2.2.2.2.1, T.2.2.2.2.2.2.2.1, T.2.2.2.2.2.2.2.2.1, T.2.2.2.2.2.2.2.2.2.1, T.2.2.2.2.2.2.2.2.2.2) := by
      refine ⟨rfl, fun i hi => ?_⟩
      show upd P m (nI b) i = upd T.1 m (nI b) i ∧ ∃ b', b' < 256 ∧ upd T.1 m (nI b) i = nI b'
      by_cases q : i = m
      · subst q
        rw [up_s, up_s]
        exact ⟨rfl, b, hb, rfl⟩
      · rw [up_n q, up_n q]
        exact hT.2 i (by omega)
    obtain ⟨P', T', g1, g2, g3⟩ := ih f f' (m + 1) _ _ (by omega) (by omega) (by omega) (by omega) hT2
    have hm1 : nI j + (-1 : Int32) = nI j - 1 := (Int32.sub_eq_add_neg _ _).symm
    rw [show m + 1 + j = m + (j + 1) by omega] at g1 g3
    refine ⟨P', T', ?_, ?_, g3⟩
    · rw [← g1, nI_pred, fX6_feed_L38, if_neg (nI_pos (n := j) (by omega)), e1, put_v _ _ (by omega) (by omega), o1_v, hm1, show nI m + (1 : Int32) = nI (m + 1) from nI_1 m]
    · rw [← g2, nI_pred, fX7_feed_L38, if_neg (nI_pos (n := j) (by omega)), e2, hT.1, wr_v _ _ _ (by omega) (by omega), hm1, show nI m + (1 : Int32) = nI (m + 1) from nI_1 m]
/-- a call of the tape -/
def P5 (x : Option (Int32 × (Nat → Int32) × (Nat → Int32) × Int32)) (y : Option (Int32 × (Nat → Int32) × Mt)) : Prop := ∃ v P' fd' m' found' T', x = some (v, P', fd', nI m') ∧ y = some (v, found', T') ∧ m' ≤ 120 ∧ Tpe m' P' T' ∧ Fnd fd' found'
theorem P5.fnd {m : Nat} {P fd found : Nat → Int32} {T : Mt} (hm : m ≤ 120) (hT : Tpe m P T) (h : Fnd fd found) {i : Nat} (hi : i < 7) {c : Int32} (hc : (-1000001 : Int32) - c = nI i) : P5 (o2 (fX6_finding fd c) (fun x f => some (x, P, f, nI m))) (o2 (fX7_finding found c) (fun x f => some (x, f, T))) := by
  obtain ⟨fd', found', h1, h2, h3⟩ := Jvm.Pilot.CRainVaultLaw_law_r8479_c1ce3a.fnd h hi hc
  rw [h1, h2]
  exact ⟨_, _, _, _, _, _, rfl, rfl, hm, hT, h3⟩
theorem op_feed {m : Nat} {P fd found : Nat → Int32} {T : Mt} (hm : m ≤ 120) (hT : Tpe m P T) (hF : Fnd fd found) (a b : Int32) : P5 (fX6_feed P fd (nI m) a b) (fX7_feed found T a b) := by
  unfold fX6_feed fX7_feed
  rw [win_v, ob, within_v, ob, hT.1]
  by_cases hb : ¬ b < (1 : Int32) ∧ ¬ (4 : Int32) < b
  · rw [if_pos hb, if_pos hb]
    obtain ⟨q, hq1, hq, rfl⟩ := inW1 (m := 4) (by omega) hb
    rw [show nI m + nI q = nI (m + q) from nI_add m q]
    by_cases hs : m + q ≤ 120
    · have hle : nI (m + q) ≤ (120 : Int32) := nI_le (b := 120) hs (by omega)
      rw [if_pos hle, if_pos hle]
      obtain ⟨P', T', g1, g2, g3⟩ := feed_L a (fun P104 tl105 => some (tl105, P104, fd, tl105)) (fun T104 => some (T104.2.2.1, found, T104)) q fu fu m P T (by omega) (fu_gt (by omega)) (fu_gt (by omega)) hs hT
      rw [g1, g2, g3.1]
      exact ⟨_, _, _, _, _, _, rfl, rfl, hs, g3, hF⟩
    · have hle : ¬ nI (m + q) ≤ (120 : Int32) := nle (a := 120) (by omega) (by omega)
      rw [if_neg hle, if_neg hle]
      exact P5.fnd hm hT hF (by omega) cF
  · rw [if_neg hb, if_neg hb]
    exact P5.fnd hm hT hF (by omega) cB
theorem op_wipe {m : Nat} {P : Nat → Int32} {T : Mt} (hT : Tpe m P T) : ∃ v T', fX6_wipe (nI m) = some (v, nI 0) ∧ fX7_wipe T = some (v, T') ∧ Tpe 0 P T' :=
  ⟨nI m, _, rfl, by unfold fX7_wipe; rw [hT.1], rfl, fun i hi => absurd hi (Nat.not_lt_zero i)⟩
theorem op_tear (ik : Int32) : ∃ v, fX6_tear ik = some (v, 0) ∧ fX7_tear ik = some (v, 0) := by
  unfold fX6_tear fX7_tear
  by_cases h : ik = 0
  · rw [if_pos h]; exact ⟨_, rfl, rfl⟩
  · rw [if_neg h]; exact ⟨_, rfl, rfl⟩
