/-! ===== write ===== -/
/-- a call that may change the sheets -/
def P4 (x : Option (Int32 × F4 × (Nat → Int32))) (y : Option (Int32 × (Nat → Int32) × Ms)) : Prop := ∃ v X' fd' found' S', x = some (v, X', fd') ∧ y = some (v, found', S') ∧ Shr X' S' ∧ Fnd fd' found'
theorem P4.fnd {X : F4} {S : Ms} {fd found : Nat → Int32} (hX : Shr X S) (h : Fnd fd found) {i : Nat} (hi : i < 7) {c : Int32} (hc : (-1000001 : Int32) - c = nI i) : P4 (o2 (fX6_finding fd c) (fun x f => some (x, X, f))) (o2 (fX7_finding found c) (fun x f => some (x, f, S))) := by
  obtain ⟨fd', found', h1, h2, h3⟩ := Jvm.Pilot.CRainVaultLaw_law_r8479_c1ce3a.fnd h hi hc
  rw [h1, h2]
  exact ⟨_, _, _, _, _, rfl, rfl, hX, h3⟩
def ctS (v w : Int32) : Int32 := if w = 8 then v.toInt8.toInt32 else if w = 16 then v.toInt16.toInt32 else v
theorem cut_v (v w : Int32) : fX7_cutTo v w = some (ctS v w) := by
  unfold fX7_cutTo ctS
  by_cases h : w = 8
  · rw [if_pos h, if_pos h]
  · rw [if_neg h, if_neg h]
    by_cases h2 : w = 16
    · rw [if_pos h2, if_pos h2]
    · rw [if_neg h2, if_neg h2]
theorem low_v (E : Sh) {i : Nat} (hi : i < 40) (v : Int32) : fX2_putLowest E (nI i) v = some (upd E.1 i (ctS v E.2.1), E.2.1, E.2.2) := by
  unfold fX2_putLowest ctS
  by_cases h : E.2.1 = 8
  · rw [if_pos h, if_pos h, put_v _ _ hi (by omega), o1_v]
  · rw [if_neg h, if_neg h]
    by_cases h2 : E.2.1 = 16
    · rw [if_pos h2, if_pos h2, put_v _ _ hi (by omega), o1_v]
    · rw [if_neg h2, if_neg h2, put_v _ _ hi (by omega), o1_v]
theorem upS_s {X : F4} {k : Nat} {v : (Nat → Int32) × Int32 × Int32} : upS X k v k = v := by
  unfold upS
  rw [Nat.beq_refl]
  rfl
theorem upS_n {X : F4} {k j : Nat} {v : (Nat → Int32) × Int32 × Int32} (h : j ≠ k) : upS X k v j = X j := by
  unfold upS
  have e : Nat.beq j k = false := by
    cases q : Nat.beq j k with
    | false => rfl
    | true => exact absurd (Nat.eq_of_beq_eq_true q) h
  rw [e]
  rfl
theorem op_write {X : F4} {S : Ms} {fd found : Nat → Int32} (hX : Shr X S) (hF : Fnd fd found) (a b v : Int32) : P4 (fX6_write X fd a b v) (fX7_write found S a b v) := by
  unfold fX6_write fX7_write
  rw [isSheet_v, ob]
  by_cases ha : ¬ a < 0 ∧ ¬ (3 : Int32) < a
  · rw [if_pos ha]
    obtain ⟨s, hs, rfl⟩ := inW (m := 3) (by omega) ha
    obtain ⟨q1, ⟨m, hm, q2, q3⟩, q4⟩ := hX s hs
    rw [sh_in hs, miss_v, ob, rd_v _ _ hs (by omega), q1]
    by_cases h0 : S.1 s = 0
    · rw [if_pos h0, if_pos h0]
      exact P4.fnd hX hF (by omega) cM
    · rw [if_neg h0, if_neg h0, rd_v _ _ hs (by omega), win_v, ob, within_v, ob, q2, q3]
      by_cases hb : ¬ b < 0 ∧ ¬ (nI m - 1 : Int32) < b
      · rw [if_pos hb, if_pos hb]
        obtain ⟨i, hi, rfl⟩ := inC (n := m) (by omega) ⟨hb.1, (nlt_pred (by omega) hb.1).mp hb.2⟩
        rw [low_v _ (by omega), o1_v, rd_v _ _ hs (by omega), cut_v, o1_v, i40, wr_v _ _ _ (by omega) (by omega), q1]
        refine ⟨_, _, _, _, _, rfl, rfl, fun t ht => ?_, hF⟩
        by_cases e : t = s
        · subst e
          rw [upS_s]
          refine ⟨rfl, ⟨m, hm, q2, q3⟩, fun p hp => ?_⟩
          show upd (X t).1 i _ p = upd S.2.2.1 (40 * t + i) _ (40 * t + p)
          by_cases z : p = i
          · subst z
            rw [up_s, up_s]
          · rw [up_n z, up_n (by omega), q4 p hp]
        · rw [upS_n e]
          obtain ⟨r1, r2, r3⟩ := hX t ht
          refine ⟨r1, r2, fun p hp => ?_⟩
          show (X t).1 p = upd S.2.2.1 (40 * s + i) _ (40 * t + p)
          rw [up_n (by omega), r3 p hp]
      · rw [if_neg hb, if_neg hb]
        exact P4.fnd hX hF (by omega) cB
  · rw [if_neg ha, sh_out ha]
    exact P4.fnd hX hF (by omega) cB
