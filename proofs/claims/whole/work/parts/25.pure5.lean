/-! ===== calls that write the roof ===== -/
theorem isKind_v (a : Int32) : fX7_isKind a = some (if ¬ a < 0 ∧ ¬ (6 : Int32) < a then 1 else 0) := by
  unfold fX7_isKind
  rw [within_v, o1_v, nb_i]
theorem may_b (P : Prop) [Decidable P] : ∃ b : Bool, (if (if P then (1 : Int32) else 0) = 0 then some (0 : Int32) else some 1) = some (if b then 1 else 0) ∧ some (if P then (1 : Int32) else 0) = some (if b then 1 else 0) ∧ (b = true → P) := by
  by_cases h : P
  · exact ⟨true, by rw [if_pos h, if_neg (by decide)]; rfl, by rw [if_pos h]; rfl, fun _ => h⟩
  · exact ⟨false, by rw [if_neg h, if_pos rfl]; rfl, by rw [if_neg h]; rfl, fun z => Bool.noConfusion z⟩
theorem may_v {n : Nat} {d e : Int32} {R : Rf} {now : Nat → Int32} (h : SM n d e R now) {c w : Nat} (hc : c < 8) (hw : w < 11) (v : Int32) : ∃ b : Bool, fX1_mayBecome R (nI c) (nI w) v = some (if b then 1 else 0) ∧ fX7_may now (nI c) (nI w) v = some (if b then 1 else 0) ∧ (w = 6 → b = false) ∧ (w = 0 → b = true → ∃ k, k < 7 ∧ v = nI k) := by
  unfold fX1_mayBecome fX1_mayBecome_J25 fX7_may
  match w, hw with
  | 0, _ =>
    have e1 : ∀ A B : Option Int32, (if nI 0 = (1 : Int32) then A else B) = B := fun A B => if_neg (by decide)
    have e2 : ∀ A B : Option Int32, (if nI 0 = (2 : Int32) then A else B) = B := fun A B => if_neg (by decide)
    have e6 : ∀ A B : Option Int32, (if nI 0 = (6 : Int32) then A else B) = B := fun A B => if_neg (by decide)
    have e0 : ∀ A B : Option Int32, (if nI 0 = (0 : Int32) then A else B) = A := fun A B => if_pos rfl
    have e3 : ∀ A B : Option Int32, (if nI 0 = (3 : Int32) then A else B) = B := fun A B => if_neg (by decide)
    have e4 : ∀ A B : Option Int32, (if nI 0 = (4 : Int32) then A else B) = B := fun A B => if_neg (by decide)
    have e5 : ∀ A B : Option Int32, (if nI 0 = (5 : Int32) then A else B) = B := fun A B => if_neg (by decide)
    have k0 : fX6_at_K0 (nI 0) = some 0 := by decide +kernel
    have k1 : fX6_at_K1 (nI 0) = some 6 := by decide +kernel
    simp only [e0, e1, e2, e3, e4, e5, e6, k0, k1, o1_v, get_1 R hc, get_2 R hc, cis_1 now hc, cis_2 now hc, win_v, within_v, isKind_v, ob, nb_i, h.fl hc (f := 1) (by omega), h.fl hc (f := 2) (by omega)]
    obtain ⟨b, q1, q2, q3⟩ := may_b (¬ v < 0 ∧ ¬ (6 : Int32) < v)
    exact ⟨b, q1, q2, fun z => absurd z (by decide), fun _ z => inW (m := 6) (by omega) (q3 z)⟩
  | 1, _ =>
    have e1 : ∀ A B : Option Int32, (if nI 1 = (1 : Int32) then A else B) = A := fun A B => if_pos rfl
    have e2 : ∀ A B : Option Int32, (if nI 1 = (2 : Int32) then A else B) = B := fun A B => if_neg (by decide)
    have e6 : ∀ A B : Option Int32, (if nI 1 = (6 : Int32) then A else B) = B := fun A B => if_neg (by decide)
    have e0 : ∀ A B : Option Int32, (if nI 1 = (0 : Int32) then A else B) = B := fun A B => if_neg (by decide)
    have e3 : ∀ A B : Option Int32, (if nI 1 = (3 : Int32) then A else B) = B := fun A B => if_neg (by decide)
    have e4 : ∀ A B : Option Int32, (if nI 1 = (4 : Int32) then A else B) = B := fun A B => if_neg (by decide)
    have e5 : ∀ A B : Option Int32, (if nI 1 = (5 : Int32) then A else B) = B := fun A B => if_neg (by decide)
    have k0 : fX6_at_K0 (nI 1) = some 1 := by decide +kernel
    have k1 : fX6_at_K1 (nI 1) = some 40 := by decide +kernel
    simp only [e0, e1, e2, e3, e4, e5, e6, k0, k1, o1_v, get_1 R hc, get_2 R hc, cis_1 now hc, cis_2 now hc, win_v, within_v, isKind_v, ob, nb_i, h.fl hc (f := 1) (by omega), h.fl hc (f := 2) (by omega)]
    obtain ⟨b, q1, q2, q3⟩ := may_b (¬ v < (if (1 : Int32) < now (16 + 10 * c + 2) then now (16 + 10 * c + 2) else 1) ∧ ¬ (40 : Int32) < v)
    exact ⟨b, q1, q2, fun z => absurd z (by decide), fun z => absurd z (by decide)⟩
  | 2, _ =>
    have e1 : ∀ A B : Option Int32, (if nI 2 = (1 : Int32) then A else B) = B := fun A B => if_neg (by decide)
    have e2 : ∀ A B : Option Int32, (if nI 2 = (2 : Int32) then A else B) = A := fun A B => if_pos rfl
    have e6 : ∀ A B : Option Int32, (if nI 2 = (6 : Int32) then A else B) = B := fun A B => if_neg (by decide)
    have e0 : ∀ A B : Option Int32, (if nI 2 = (0 : Int32) then A else B) = B := fun A B => if_neg (by decide)
    have e3 : ∀ A B : Option Int32, (if nI 2 = (3 : Int32) then A else B) = B := fun A B => if_neg (by decide)
    have e4 : ∀ A B : Option Int32, (if nI 2 = (4 : Int32) then A else B) = B := fun A B => if_neg (by decide)
    have e5 : ∀ A B : Option Int32, (if nI 2 = (5 : Int32) then A else B) = B := fun A B => if_neg (by decide)
    have k0 : fX6_at_K0 (nI 2) = some 0 := by decide +kernel
    have k1 : fX6_at_K1 (nI 2) = some 40 := by decide +kernel
    simp only [e0, e1, e2, e3, e4, e5, e6, k0, k1, o1_v, get_1 R hc, get_2 R hc, cis_1 now hc, cis_2 now hc, win_v, within_v, isKind_v, ob, nb_i, h.fl hc (f := 1) (by omega), h.fl hc (f := 2) (by omega)]
    obtain ⟨b, q1, q2, q3⟩ := may_b (¬ v < 0 ∧ ¬ now (16 + 10 * c + 1) < v)
    exact ⟨b, q1, q2, fun z => absurd z (by decide), fun z => absurd z (by decide)⟩
  | 3, _ =>
    have e1 : ∀ A B : Option Int32, (if nI 3 = (1 : Int32) then A else B) = B := fun A B => if_neg (by decide)
    have e2 : ∀ A B : Option Int32, (if nI 3 = (2 : Int32) then A else B) = B := fun A B => if_neg (by decide)
    have e6 : ∀ A B : Option Int32, (if nI 3 = (6 : Int32) then A else B) = B := fun A B => if_neg (by decide)
    have e0 : ∀ A B : Option Int32, (if nI 3 = (0 : Int32) then A else B) = B := fun A B => if_neg (by decide)
    have e3 : ∀ A B : Option Int32, (if nI 3 = (3 : Int32) then A else B) = A := fun A B => if_pos rfl
    have e4 : ∀ A B : Option Int32, (if nI 3 = (4 : Int32) then A else B) = B := fun A B => if_neg (by decide)
    have e5 : ∀ A B : Option Int32, (if nI 3 = (5 : Int32) then A else B) = B := fun A B => if_neg (by decide)
    have k0 : fX6_at_K0 (nI 3) = some 0 := by decide +kernel
    have k1 : fX6_at_K1 (nI 3) = some 9 := by decide +kernel
    simp only [e0, e1, e2, e3, e4, e5, e6, k0, k1, o1_v, get_1 R hc, get_2 R hc, cis_1 now hc, cis_2 now hc, win_v, within_v, isKind_v, ob, nb_i, h.fl hc (f := 1) (by omega), h.fl hc (f := 2) (by omega)]
    obtain ⟨b, q1, q2, q3⟩ := may_b (¬ v < 0 ∧ ¬ (9 : Int32) < v)
    exact ⟨b, q1, q2, fun z => absurd z (by decide), fun z => absurd z (by decide)⟩
  | 4, _ =>
    have e1 : ∀ A B : Option Int32, (if nI 4 = (1 : Int32) then A else B) = B := fun A B => if_neg (by decide)
    have e2 : ∀ A B : Option Int32, (if nI 4 = (2 : Int32) then A else B) = B := fun A B => if_neg (by decide)
    have e6 : ∀ A B : Option Int32, (if nI 4 = (6 : Int32) then A else B) = B := fun A B => if_neg (by decide)
    have e0 : ∀ A B : Option Int32, (if nI 4 = (0 : Int32) then A else B) = B := fun A B => if_neg (by decide)
    have e3 : ∀ A B : Option Int32, (if nI 4 = (3 : Int32) then A else B) = B := fun A B => if_neg (by decide)
    have e4 : ∀ A B : Option Int32, (if nI 4 = (4 : Int32) then A else B) = A := fun A B => if_pos rfl
    have e5 : ∀ A B : Option Int32, (if nI 4 = (5 : Int32) then A else B) = B := fun A B => if_neg (by decide)
    have k0 : fX6_at_K0 (nI 4) = some (-1) := by decide +kernel
    have k1 : fX6_at_K1 (nI 4) = some 7 := by decide +kernel
    simp only [e0, e1, e2, e3, e4, e5, e6, k0, k1, o1_v, get_1 R hc, get_2 R hc, cis_1 now hc, cis_2 now hc, win_v, within_v, isKind_v, ob, nb_i, h.fl hc (f := 1) (by omega), h.fl hc (f := 2) (by omega)]
    obtain ⟨b, q1, q2, q3⟩ := may_b (¬ v < (-1) ∧ ¬ (7 : Int32) < v)
    exact ⟨b, q1, q2, fun z => absurd z (by decide), fun z => absurd z (by decide)⟩
  | 5, _ =>
    have e1 : ∀ A B : Option Int32, (if nI 5 = (1 : Int32) then A else B) = B := fun A B => if_neg (by decide)
    have e2 : ∀ A B : Option Int32, (if nI 5 = (2 : Int32) then A else B) = B := fun A B => if_neg (by decide)
    have e6 : ∀ A B : Option Int32, (if nI 5 = (6 : Int32) then A else B) = B := fun A B => if_neg (by decide)
    have e0 : ∀ A B : Option Int32, (if nI 5 = (0 : Int32) then A else B) = B := fun A B => if_neg (by decide)
    have e3 : ∀ A B : Option Int32, (if nI 5 = (3 : Int32) then A else B) = B := fun A B => if_neg (by decide)
    have e4 : ∀ A B : Option Int32, (if nI 5 = (4 : Int32) then A else B) = B := fun A B => if_neg (by decide)
    have e5 : ∀ A B : Option Int32, (if nI 5 = (5 : Int32) then A else B) = A := fun A B => if_pos rfl
    have k0 : fX6_at_K0 (nI 5) = some 0 := by decide +kernel
    have k1 : fX6_at_K1 (nI 5) = some 1 := by decide +kernel
    simp only [e0, e1, e2, e3, e4, e5, e6, k0, k1, o1_v, get_1 R hc, get_2 R hc, cis_1 now hc, cis_2 now hc, win_v, within_v, isKind_v, ob, nb_i, h.fl hc (f := 1) (by omega), h.fl hc (f := 2) (by omega)]
    obtain ⟨b, q1, q2, q3⟩ := may_b (¬ v < 0 ∧ ¬ (1 : Int32) < v)
    exact ⟨b, q1, q2, fun z => absurd z (by decide), fun z => absurd z (by decide)⟩
  | 6, _ =>
    have e1 : ∀ A B : Option Int32, (if nI 6 = (1 : Int32) then A else B) = B := fun A B => if_neg (by decide)
    have e2 : ∀ A B : Option Int32, (if nI 6 = (2 : Int32) then A else B) = B := fun A B => if_neg (by decide)
    have e6 : ∀ A B : Option Int32, (if nI 6 = (6 : Int32) then A else B) = A := fun A B => if_pos rfl
    have e0 : ∀ A B : Option Int32, (if nI 6 = (0 : Int32) then A else B) = B := fun A B => if_neg (by decide)
    have e3 : ∀ A B : Option Int32, (if nI 6 = (3 : Int32) then A else B) = B := fun A B => if_neg (by decide)
    have e4 : ∀ A B : Option Int32, (if nI 6 = (4 : Int32) then A else B) = B := fun A B => if_neg (by decide)
    have e5 : ∀ A B : Option Int32, (if nI 6 = (5 : Int32) then A else B) = B := fun A B => if_neg (by decide)
    have k0 : fX6_at_K0 (nI 6) = some 0 := by decide +kernel
    have k1 : fX6_at_K1 (nI 6) = some 40 := by decide +kernel
    simp only [e0, e1, e2, e3, e4, e5, e6, k0, k1, o1_v, get_1 R hc, get_2 R hc, cis_1 now hc, cis_2 now hc, win_v, within_v, isKind_v, ob, nb_i, h.fl hc (f := 1) (by omega), h.fl hc (f := 2) (by omega)]
    exact ⟨false, rfl, rfl, fun _ => rfl, fun z => absurd z (by decide)⟩
  | 7, _ =>
    have e1 : ∀ A B : Option Int32, (if nI 7 = (1 : Int32) then A else B) = B := fun A B => if_neg (by decide)
    have e2 : ∀ A B : Option Int32, (if nI 7 = (2 : Int32) then A else B) = B := fun A B => if_neg (by decide)
    have e6 : ∀ A B : Option Int32, (if nI 7 = (6 : Int32) then A else B) = B := fun A B => if_neg (by decide)
    have e0 : ∀ A B : Option Int32, (if nI 7 = (0 : Int32) then A else B) = B := fun A B => if_neg (by decide)
    have e3 : ∀ A B : Option Int32, (if nI 7 = (3 : Int32) then A else B) = B := fun A B => if_neg (by decide)
    have e4 : ∀ A B : Option Int32, (if nI 7 = (4 : Int32) then A else B) = B := fun A B => if_neg (by decide)
    have e5 : ∀ A B : Option Int32, (if nI 7 = (5 : Int32) then A else B) = B := fun A B => if_neg (by decide)
    have k0 : fX6_at_K0 (nI 7) = some 0 := by decide +kernel
    have k1 : fX6_at_K1 (nI 7) = some 9 := by decide +kernel
    simp only [e0, e1, e2, e3, e4, e5, e6, k0, k1, o1_v, get_1 R hc, get_2 R hc, cis_1 now hc, cis_2 now hc, win_v, within_v, isKind_v, ob, nb_i, h.fl hc (f := 1) (by omega), h.fl hc (f := 2) (by omega)]
    obtain ⟨b, q1, q2, q3⟩ := may_b (¬ v < 0 ∧ ¬ (9 : Int32) < v)
    exact ⟨b, q1, q2, fun z => absurd z (by decide), fun z => absurd z (by decide)⟩
  | 8, _ =>
    have e1 : ∀ A B : Option Int32, (if nI 8 = (1 : Int32) then A else B) = B := fun A B => if_neg (by decide)
    have e2 : ∀ A B : Option Int32, (if nI 8 = (2 : Int32) then A else B) = B := fun A B => if_neg (by decide)
    have e6 : ∀ A B : Option Int32, (if nI 8 = (6 : Int32) then A else B) = B := fun A B => if_neg (by decide)
    have e0 : ∀ A B : Option Int32, (if nI 8 = (0 : Int32) then A else B) = B := fun A B => if_neg (by decide)
    have e3 : ∀ A B : Option Int32, (if nI 8 = (3 : Int32) then A else B) = B := fun A B => if_neg (by decide)
    have e4 : ∀ A B : Option Int32, (if nI 8 = (4 : Int32) then A else B) = B := fun A B => if_neg (by decide)
    have e5 : ∀ A B : Option Int32, (if nI 8 = (5 : Int32) then A else B) = B := fun A B => if_neg (by decide)
    have k0 : fX6_at_K0 (nI 8) = some 0 := by decide +kernel
    have k1 : fX6_at_K1 (nI 8) = some 9 := by decide +kernel
    simp only [e0, e1, e2, e3, e4, e5, e6, k0, k1, o1_v, get_1 R hc, get_2 R hc, cis_1 now hc, cis_2 now hc, win_v, within_v, isKind_v, ob, nb_i, h.fl hc (f := 1) (by omega), h.fl hc (f := 2) (by omega)]
    obtain ⟨b, q1, q2, q3⟩ := may_b (¬ v < 0 ∧ ¬ (9 : Int32) < v)
    exact ⟨b, q1, q2, fun z => absurd z (by decide), fun z => absurd z (by decide)⟩
  | 9, _ =>
    have e1 : ∀ A B : Option Int32, (if nI 9 = (1 : Int32) then A else B) = B := fun A B => if_neg (by decide)
    have e2 : ∀ A B : Option Int32, (if nI 9 = (2 : Int32) then A else B) = B := fun A B => if_neg (by decide)
    have e6 : ∀ A B : Option Int32, (if nI 9 = (6 : Int32) then A else B) = B := fun A B => if_neg (by decide)
    have e0 : ∀ A B : Option Int32, (if nI 9 = (0 : Int32) then A else B) = B := fun A B => if_neg (by decide)
    have e3 : ∀ A B : Option Int32, (if nI 9 = (3 : Int32) then A else B) = B := fun A B => if_neg (by decide)
    have e4 : ∀ A B : Option Int32, (if nI 9 = (4 : Int32) then A else B) = B := fun A B => if_neg (by decide)
    have e5 : ∀ A B : Option Int32, (if nI 9 = (5 : Int32) then A else B) = B := fun A B => if_neg (by decide)
    have k0 : fX6_at_K0 (nI 9) = some 0 := by decide +kernel
    have k1 : fX6_at_K1 (nI 9) = some 9 := by decide +kernel
    simp only [e0, e1, e2, e3, e4, e5, e6, k0, k1, o1_v, get_1 R hc, get_2 R hc, cis_1 now hc, cis_2 now hc, win_v, within_v, isKind_v, ob, nb_i, h.fl hc (f := 1) (by omega), h.fl hc (f := 2) (by omega)]
    obtain ⟨b, q1, q2, q3⟩ := may_b (¬ v < 0 ∧ ¬ (9 : Int32) < v)
    exact ⟨b, q1, q2, fun z => absurd z (by decide), fun z => absurd z (by decide)⟩
  | 10, _ =>
    have e1 : ∀ A B : Option Int32, (if nI 10 = (1 : Int32) then A else B) = B := fun A B => if_neg (by decide)
    have e2 : ∀ A B : Option Int32, (if nI 10 = (2 : Int32) then A else B) = B := fun A B => if_neg (by decide)
    have e6 : ∀ A B : Option Int32, (if nI 10 = (6 : Int32) then A else B) = B := fun A B => if_neg (by decide)
    have e0 : ∀ A B : Option Int32, (if nI 10 = (0 : Int32) then A else B) = B := fun A B => if_neg (by decide)
    have e3 : ∀ A B : Option Int32, (if nI 10 = (3 : Int32) then A else B) = B := fun A B => if_neg (by decide)
    have e4 : ∀ A B : Option Int32, (if nI 10 = (4 : Int32) then A else B) = B := fun A B => if_neg (by decide)
    have e5 : ∀ A B : Option Int32, (if nI 10 = (5 : Int32) then A else B) = B := fun A B => if_neg (by decide)
    have k0 : fX6_at_K0 (nI 10) = some 0 := by decide +kernel
    have k1 : fX6_at_K1 (nI 10) = some 9 := by decide +kernel
    simp only [e0, e1, e2, e3, e4, e5, e6, k0, k1, o1_v, get_1 R hc, get_2 R hc, cis_1 now hc, cis_2 now hc, win_v, within_v, isKind_v, ob, nb_i, h.fl hc (f := 1) (by omega), h.fl hc (f := 2) (by omega)]
    obtain ⟨b, q1, q2, q3⟩ := may_b (¬ v < 0 ∧ ¬ (9 : Int32) < v)
    exact ⟨b, q1, q2, fun z => absurd z (by decide), fun z => absurd z (by decide)⟩
  | w + 11, q => exact absurd q (by omega)
theorem op_change {R : Rf} {now fd found : Nat → Int32} (hR : Rl R now) (hF : Fnd fd found) (a b v : Int32) : P2 (fX6_change R fd a b v) (fX7_change now found a b v) := by
  have hR' := hR
  obtain ⟨n, k, hn, h, hci, hsp⟩ := hR
  unfold fX6_change fX7_change
  rw [hasC_v h.n2, ob, isC_v _ h.n1 hn, ob, win_v, ob, within_v, ob]
  refine P2.ite (fun hc => P2.ite (fun hb => ?_) (fun _ => P2.fnd hR' hF (by omega) cB)) (fun _ => P2.fnd hR' hF (by omega) cB)
  obtain ⟨c, hcn, rfl⟩ := inC (by omega) hc
  have hc8 : c < 8 := by omega
  obtain ⟨w, hw, rfl⟩ := inW (m := 10) (by omega) hb
  obtain ⟨bb, m1, m2, m3, m4⟩ := may_v h hc8 hw v
  rw [m1, m2, ob, ob]
  refine P2.ite (fun hbb => ?_) (fun _ => P2.fnd hR' hF (by omega) cB)
  have h6 : w ≠ 6 := fun z => by rw [m3 z] at hbb; exact Bool.noConfusion hbb
  rw [get_v R hc8 hw, o1_v, set_v R v hc8 hw, o1_v]
  unfold fX7_become
  rcases Nat.lt_or_ge w 6 with q | q
  · rw [if_neg (show ¬ (6 : Int32) ≤ nI w from nle (b := 6) q (by omega)), at7_v, o1_v, rd_v now _ (by omega) (by omega), wr_v now _ _ (by omega) (by omega), o2_v, h.fl hc8 q]
    refine ⟨_, _, _, _, _, rfl, rfl, ?_, hF⟩
    by_cases h0 : w = 0
    · subst h0
      obtain ⟨kd, hkd, rfl⟩ := m4 rfl hbb
      exact Rl.cis hn (h.setk hc8 hkd) hci hsp (Or.inl (by omega))
    · exact Rl.cis hn (h.set hc8 (by omega) q v) hci hsp (Or.inl (by omega))
  · obtain ⟨f, rfl⟩ : ∃ f, w = 7 + f := ⟨w - 7, by omega⟩
    rw [if_pos (show (6 : Int32) ≤ nI (7 + f) from nI_le (a := 6) (by omega) (by omega)), nI_sub1 (by omega), show 7 + f - 1 = 6 + f by omega, at7_v, o1_v, ← Nat.add_assoc, ← Nat.add_assoc, rd_v now _ (by omega) (by omega), wr_v now _ _ (by omega) (by omega), o2_v, h.ca hc8 (by omega)]
    exact ⟨_, _, _, _, _, rfl, rfl, Rl.cis hn (h.setc hc8 (by omega) v) hci hsp (Or.inl (by omega)), hF⟩
theorem nb_h {β : Type} {x : Int32} (k : Option β) (h : x = 0 ∨ x = 1) : nb x k = k := by
  rcases h with rfl | rfl
  · exact nb_0 k
  · exact nb_1 k
/-- one roof becomes as another: it is that roof then -/
theorem become_v (B : Rf) {R : Rf} (h : R.2.2.2.2.2.1 = 0 ∨ R.2.2.2.2.2.1 = 1) : fX1_become B R = some R := by
  unfold fX1_become
  rw [show fX6_copyRow 88 R.1 = some R.1 from if_pos (by omega), o1_v, show fX6_copyRow 24 R.2.1 = some R.2.1 from if_pos (by omega), o1_v, show fX6_copyRow 10 R.2.2.1 = some R.2.2.1 from if_pos (by omega), o1_v, nb_h _ h]
theorem copy7_v (f : Nat → Int32) : fX7_copyRow 120 f = some f := if_pos rfl
theorem back_v (now aside : Nat → Int32) (v : Int32) : fX7_putBack now aside v = some (v, aside) := by
  unfold fX7_putBack
  rw [copy7_v, o1_v]
theorem Rl.c01 {R : Rf} {now : Nat → Int32} (h : Rl R now) : R.2.2.2.2.2.1 = 0 ∨ R.2.2.2.2.2.1 = 1 := by
  obtain ⟨n, k, hn, h, hci, hsp⟩ := h
  exact h.c01
theorem op_image {R : Rf} {now : Nat → Int32} (hR : Rl R now) (N : Rf) (kept : Nat → Int32) (ik : Int32) : fX6_image R N ik = some (1, R, 1) ∧ fX7_image now kept ik = some (1, now, 1) := by
  constructor
  · unfold fX6_image
    rw [become_v N hR.c01, o1_v]
  · unfold fX7_image
    rw [copy7_v, o1_v]
theorem op_undo {R N : Rf} {now kept fd found : Nat → Int32} {ik : Int32} (hR : Rl R now) (hN : ¬ ik = 0 → Rl N kept) (hF : Fnd fd found) : P2 (fX6_undo R N fd ik) (fX7_undo now kept ik found) := by
  unfold fX6_undo fX7_undo
  refine P2.ite (fun _ => P2.fnd hR hF (by omega) cN) (fun h => ?_)
  rw [become_v R (hN h).c01, o1_v, copy7_v, o1_v, show rd kept 120 (0 : Int32) _ = _ from rd_v kept (i := 0) _ (by omega) (by omega)]
  refine ⟨_, _, _, _, _, rfl, ?_, hN h, hF⟩
  obtain ⟨n, k, hn, h, hci, hsp⟩ := hN h
  rw [h.ho, Int32.add_zero]
theorem spots_L {n : Nat} {d e : Int32} {R : Rf} {now : Nat → Int32} (h : SM n d e R now) (kx : Int32 → Option Int32) (kx' : Int32 → Option (Int32 × (Nat → Int32))) : ∀ (j i f f' : Nat) (x : Int32), i + j = 10 → j < f → j < f' → ∃ v, fX1_spotsInUse_L4 R kx f x (nI i) = kx v ∧ fX7_count_L95 now kx' f' x (nI i) = kx' v := by
  intro j
  induction j with
  | zero =>
    intro i f f' x hi hf hf'
    obtain ⟨f, rfl⟩ : ∃ q, f = q + 1 := ⟨f - 1, by omega⟩
    obtain ⟨f', rfl⟩ : ∃ q, f' = q + 1 := ⟨f' - 1, by omega⟩
    have hle : (10 : Int32) ≤ nI i := nI_le (a := 10) (by omega) (by omega)
    exact ⟨x, by rw [fX1_spotsInUse_L4, if_pos hle], by rw [fX7_count_L95, if_pos hle]⟩
  | succ j ih =>
    intro i f f' x hi hf hf'
    obtain ⟨f, rfl⟩ : ∃ q, f = q + 1 := ⟨f - 1, by omega⟩
    obtain ⟨f', rfl⟩ : ∃ q, f' = q + 1 := ⟨f' - 1, by omega⟩
    have hle : ¬ (10 : Int32) ≤ nI i := nle (b := 10) (by omega) (by omega)
    rw [fX1_spotsInUse_L4, if_neg hle, rd_v _ _ (by omega) (by omega), h.sp (by omega), fX7_count_L95, if_neg hle, show (6 : Int32) + nI i = nI (6 + i) from nI_add 6 i, rd_v now _ (by omega) (by omega), show nI i + (1 : Int32) = nI (i + 1) from nI_1 i]
    by_cases q : now (6 + i) < 0
    · rw [if_pos q, if_neg (fun z => Int32.not_lt.mpr z q), Int32.add_zero]
      exact ih (i + 1) f f' x (by omega) (by omega) (by omega)
    · rw [if_neg q, if_pos (Int32.not_lt.mp q)]
      exact ih (i + 1) f f' (x + 1) (by omega) (by omega) (by omega)
theorem lev_L {n : Nat} {d e : Int32} {R : Rf} {now : Nat → Int32} (hn : n < 9) (h : SM n d e R now) (kx kx' : Int32 → Option Int32) : ∀ (j i f f' : Nat) (x : Int32), i + j = n → j < f → j < f' → ∃ v, fX1_levelsTogether_L4 R kx f x (nI i) = kx v ∧ fX7_levels_L4 now kx' f' x (nI i) = kx' v := by
  intro j
  induction j with
  | zero =>
    intro i f f' x hi hf hf'
    obtain ⟨f, rfl⟩ : ∃ q, f = q + 1 := ⟨f - 1, by omega⟩
    obtain ⟨f', rfl⟩ : ∃ q, f' = q + 1 := ⟨f' - 1, by omega⟩
    exact ⟨x, by rw [fX1_levelsTogether_L4, h.n2, if_pos (nI_le (by omega) (by omega))], by rw [fX7_levels_L4, show rd now 120 (2 : Int32) _ = _ from rd_v now (i := 2) _ (by omega) (by omega), h.n1, if_pos (nI_le (by omega) (by omega))]⟩
  | succ j ih =>
    intro i f f' x hi hf hf'
    obtain ⟨f, rfl⟩ : ∃ q, f = q + 1 := ⟨f - 1, by omega⟩
    obtain ⟨f', rfl⟩ : ∃ q, f' = q + 1 := ⟨f' - 1, by omega⟩
    obtain ⟨v, e1, e2⟩ := ih (i + 1) f f' (x + now (16 + 10 * i + 2)) (by omega) (by omega) (by omega)
    refine ⟨v, ?_, ?_⟩
    · rw [fX1_levelsTogether_L4, h.n2, if_neg (nle (by omega) (by omega)), get_2 R (by omega), o1_v, h.fl (by omega) (by omega), ← e1]
      exact congrArg _ (nI_1 i)
    · rw [fX7_levels_L4, show rd now 120 (2 : Int32) _ = _ from rd_v now (i := 2) _ (by omega) (by omega), h.n1, if_neg (nle (by omega) (by omega)), cis_2 now (by omega), o1_v, ← e2]
      exact congrArg _ (nI_1 i)
theorem lev_v {n : Nat} {d e : Int32} {R : Rf} {now : Nat → Int32} (hn : n < 9) (h : SM n d e R now) : ∃ v, fX1_levelsTogether R = some v ∧ fX7_levels now = some v := by
  unfold fX1_levelsTogether fX7_levels
  exact lev_L hn h _ _ n 0 fu fu 0 (by omega) (fu_gt (by omega)) (fu_gt (by omega))
theorem op_count {R : Rf} {now fd found : Nat → Int32} {tl : Int32} {T : Mt} (hR : Rl R now) (hF : Fnd fd found) (hT : T.2.2.1 = tl) (a : Int32) : P1 (fX6_count R fd tl a) (fX7_count now found T a) := by
  obtain ⟨n, k, hn, h, hci, hsp⟩ := hR
  unfold fX6_count fX7_count
  refine P1.ite (fun _ => ?_) (fun _ => P1.ite (fun _ => ?_) (fun _ => P1.ite (fun _ => ?_) (fun _ => P1.ite (fun _ => ?_) (fun _ => P1.ite (fun _ => ?_) (fun _ => P1.ite (fun _ => ?_) (fun _ => P1.ite (fun _ => ?_) (fun _ => P1.ite (fun _ => ?_) (fun _ => P1.fnd hF (by omega) cB))))))))
  · rw [show rd now 120 (0 : Int32) _ = _ from rd_v now (i := 0) _ (by omega) (by omega), h.ho, Int32.add_zero]
    exact ⟨_, _, _, rfl, rfl, hF⟩
  · rw [show rd now 120 (2 : Int32) _ = _ from rd_v now (i := 2) _ (by omega) (by omega), h.n1, h.n2]
    exact ⟨_, _, _, rfl, rfl, hF⟩
  · rw [show rd now 120 (3 : Int32) _ = _ from rd_v now (i := 3) _ (by omega) (by omega), h.cn]
    exact ⟨_, _, _, rfl, rfl, hF⟩
  · obtain ⟨v, e1, e2⟩ := lev_v hn h
    rw [e1, e2]
    exact ⟨_, _, _, rfl, rfl, hF⟩
  · rw [show rd now 120 (4 : Int32) _ = _ from rd_v now (i := 4) _ (by omega) (by omega), h.of, Int32.add_zero]
    exact ⟨_, _, _, rfl, rfl, hF⟩
  · rw [hT]
    exact ⟨_, _, _, rfl, rfl, hF⟩
  · rw [show rd now 120 (5 : Int32) _ = _ from rd_v now (i := 5) _ (by omega) (by omega), h.zz]
    exact ⟨_, _, _, rfl, rfl, hF⟩
  · unfold fX1_spotsInUse
    obtain ⟨v, e1, e2⟩ := spots_L h (fun x103 => some x103) (fun x109 => some (x109, found)) 10 0 fu fu 0 (by omega) (fu_gt (by omega)) (fu_gt (by omega))
    refine ⟨v, fd, found, ?_, e2, hF⟩
    rw [show fX1_spotsInUse_L4 R (fun x103 => some x103) fu 0 0 = _ from e1, o1_v]
