/-! ===== draws ===== -/
def zS (z : Int32) : Int32 := z * (1103515245 : Int32) + (12345 : Int32)
def dS (z : Int32) : Int32 := (z.toUInt32 >>> ((8 : Int32).toUInt32 &&& Int32.toUInt32 31)).toInt32
def rmS (a b : Int32) : Int32 := a - a / b * b
def dwS (R : Rf) : Rf := (R.1, R.2.1, R.2.2.1, R.2.2.2.1, R.2.2.2.2.1, R.2.2.2.2.2.1, R.2.2.2.2.2.2.1, R.2.2.2.2.2.2.2.1, zS R.2.2.2.2.2.2.2.2)
theorem draw_v (R : Rf) : fX1_draw R = some (dS (zS R.2.2.2.2.2.2.2.2), dwS R) := rfl
theorem drawn_v (now : Nat → Int32) (b : Int32) : fX7_drawn now b = nz b (some (rmS (dS (zS (now 5))) b, upd now 5 (zS (now 5)))) := by
  unfold fX7_drawn
  rw [show rd now 120 (5 : Int32) _ = _ from rd_v now (i := 5) _ (by omega) (by omega), show wr now 120 (5 : Int32) _ _ = _ from wr_v now (i := 5) _ _ (by omega) (by omega), show rd (upd now 5 _) 120 (5 : Int32) _ = _ from rd_v _ (i := 5) _ (by omega) (by omega), up_s]
  rfl
theorem dS_n (z : Int32) : ∃ q, q < 2147483648 ∧ dS z = nI q := by
  refine ⟨z.toBitVec.toNat / 2 ^ 8, ?_, ?_⟩
  · have := z.toBitVec.isLt
    omega
  · unfold dS
    have hz : z = nI z.toBitVec.toNat := by
      apply Int32.toBitVec_inj.1
      show z.toBitVec = BitVec.ofNat 32 z.toBitVec.toNat
      rw [BitVec.ofNat_toNat, BitVec.setWidth_eq]
    conv => lhs; rw [hz]
    exact pk_ushrN z.toBitVec.isLt 8 8 (by decide)
theorem rmS_n (z : Int32) {m : Nat} (h0 : 0 < m) (hm : m < 2147483648) : ∃ j, j < m ∧ rmS (dS z) (nI m) = nI j := by
  obtain ⟨q, hq, e⟩ := dS_n z
  refine ⟨q % m, Nat.mod_lt _ h0, ?_⟩
  unfold rmS
  rw [e]
  exact pk_rem hq h0 hm
theorem drawn_n (now : Nat → Int32) {m : Nat} (h0 : 0 < m) (hm : m < 2147483648) : fX7_drawn now (nI m) = some (rmS (dS (zS (now 5))) (nI m), upd now 5 (zS (now 5))) := by
  rw [drawn_v]
  exact if_neg (fun z => by
    have := (nI_eq (b := 0) hm (by omega)).mp z
    omega)
theorem SM.dw {n : Nat} {d e : Int32} {R : Rf} {now : Nat → Int32} (h : SM n d e R now) : SM n d e (dwS R) (upd now 5 (zS (now 5))) := by
  unfold dwS
  rw [h.zz]
  exact h.draw _
theorem CI.up {k i : Nat} {now : Nat → Int32} {x : Int32} (h : CI k now) (hi : i ≠ 3 ∧ (i < 96 ∨ 120 ≤ i)) : CI k (upd now i x) := by
  refine ⟨by rw [up_n (by omega)]; exact h.1, h.2.1, fun l hl => ?_⟩
  rw [up_n (by omega), up_n (by omega), up_n (by omega)]
  exact h.2.2 l hl
theorem op_cat {R : Rf} {now fd found : Nat → Int32} (hR : Rl R now) (hF : Fnd fd found) : P2 (fX6_cat R fd) (fX7_cat now found) := by
  have hR' := hR
  obtain ⟨n, k, hn, h, hci, hsp⟩ := hR
  unfold fX6_cat fX7_cat
  rw [show rd now 120 (2 : Int32) _ = _ from rd_v now (i := 2) _ (by omega) (by omega), h.n1, h.n2]
  by_cases h0 : n = 0
  · subst h0
    rw [if_neg (by decide), if_pos (show nI 0 = (0 : Int32) from rfl)]
    exact P2.fnd hR' hF (by omega) cS'
  · have hne : ¬ nI n = 0 := fun z => h0 ((nI_eq (b := 0) (by omega) (by omega)).mp z)
    rw [if_pos (show (0 : Int32) < nI n from nI_lt (a := 0) (by omega) (by omega)), if_neg hne, draw_v, o2_v, draw_v, o2_v, show ∀ k : Option (Int32 × Rf × (Nat → Int32)), nz (nI n) k = k from fun k => if_neg hne, show ∀ k : Option (Int32 × Rf × (Nat → Int32)), nz (nI n) k = k from fun k => if_neg hne, show rd now 120 (2 : Int32) _ = _ from rd_v now (i := 2) _ (by omega) (by omega), h.n1, drawn_n now (by omega) (by omega), o2_v]
    have hz2 : upd now 5 (zS (now 5)) 5 = zS (now 5) := up_s
    change P2 (o1 (fX1_set (dwS (dwS R)) (rmS (dS (zS R.2.2.2.2.2.2.2.2)) (nI n)) (4 : Int32) (rmS (dS (zS (zS R.2.2.2.2.2.2.2.2))) (nI n))) (fun R105 => some (rmS (dS (zS (zS R.2.2.2.2.2.2.2.2))) (nI n), R105, fd))) _
    obtain ⟨c, hc, ec⟩ := rmS_n (zS (now 5)) (m := n) (by omega) (by omega)
    obtain ⟨t, ht, et⟩ := rmS_n (zS (zS (now 5))) (m := n) (by omega) (by omega)
    have h2 := (h.dw).dw
    rw [hz2] at h2
    have h3 := h2.set (c := c) (w := 4) (by omega) (by omega) (by omega) (nI t)
    rw [h.zz, ec, show fX7_at (nI c) (4 : Int32) = some (nI (16 + 10 * c + 4)) from at7_v c 4, o1_v, show rd (upd now 5 (zS (now 5))) 120 (2 : Int32) _ = _ from rd_v _ (i := 2) _ (by omega) (by omega), up_n (by omega), h.n1, drawn_n (upd now 5 (zS (now 5))) (by omega) (by omega), o2_v, hz2, et, set_4 _ _ (by omega), o1_v, wr_v _ _ _ (by omega) (by omega), cis_4 _ (by omega), o1_v, up_s]
    exact ⟨_, _, _, _, _, rfl, rfl, ⟨n, k, hn, h3, ((hci.up (by omega)).up (by omega)).up (by omega), fun s hs => by rw [up_n (by omega), up_n (by omega), up_n (by omega)]; exact hsp s hs⟩, hF⟩
/-- a drawn hour -/
theorem side6_v (x : Int32) : fX6_sideOf x = some (if x ≤ 0 then 0 else x - 1) := by
  unfold fX6_sideOf
  by_cases h : x ≤ 0
  · rw [if_pos h, if_pos h]
  · rw [if_neg h, if_neg h]
/-- as Kp, but for the draws -/
def Kd (n : Nat) (now now' : Nat → Int32) : Prop := ∀ i, i < 120 → i ≠ 0 → i ≠ 4 → i ≠ 5 → (∀ c, c < n → i ≠ 16 + 10 * c + 2) → now' i = now i
theorem Kd.tr {n : Nat} {a b c : Nat → Int32} (h : Kd n a b) (h2 : Kd n b c) : Kd n a c := fun i h1 h3 h4 h5 h6 => (h2 i h1 h3 h4 h5 h6).trans (h i h1 h3 h4 h5 h6)
theorem Kd.rf {n : Nat} (now : Nat → Int32) : Kd n now now := fun _ _ _ _ _ _ => rfl
theorem Kd.dr {n : Nat} (now : Nat → Int32) (x : Int32) : Kd n now (upd now 5 x) := fun i _ _ _ h _ => up_n h
theorem Kp.d {n : Nat} {now now' : Nat → Int32} (h : Kp n now now') : Kd n now now' := fun i h1 h3 h4 _ h6 => h i h1 h3 h4 h6
theorem drawnHour_v {n k : Nat} (hn : n < 9) {d e : Int32} {R : Rf} {now : Nat → Int32} (h : SM n d e R now) (hci : CI k now) : ∃ R' now', fX1_passDrawnHour R = some R' ∧ (∀ (kx : Int32 → (Nat → Int32) → Option (Int32 × (Nat → Int32) × (Nat → Int32))), o2 (fX7_drawn now (5 : Int32)) (fun x110 now111 => if x110 = 0 then (o2 (fX7_hour now111 (0 : Int32) (0 : Int32)) kx) else (o2 (fX7_drawn now111 (10 : Int32)) (fun x112 now113 => o2 (fX7_hour now113 (x110 - (1 : Int32)) x112) kx))) = kx (if opB now' k then 1 else 0) now') ∧ SM n d e R' now' ∧ CI k now' ∧ Kd n now now' := by
  have h1 := h.dw
  have c1 : CI k (upd now 5 (zS (now 5))) := hci.up (by omega)
  obtain ⟨j, hj, ej⟩ := rmS_n (zS (now 5)) (m := 5) (by omega) (by omega)
  unfold fX1_passDrawnHour
  rw [draw_v, o2_v, h.zz, show (5 : Int32) = nI 5 from rfl, drawn_n now (by omega) (by omega)]
  change ∃ R' now', (if rmS (dS (zS (now 5))) (nI 5) = 0 then (o1 (fX6_sideOf (rmS (dS (zS (now 5))) (nI 5))) (fun x107 => o1 (fX1_passHour (dwS R) x107 (0 : Int32)) (fun R108 => some R108))) else (o2 (fX1_draw (dwS R)) (fun x103 R104 => o1 (fX6_sideOf (rmS (dS (zS (now 5))) (nI 5))) (fun x105 => o1 (fX1_passHour R104 x105 (x103 - x103 / (10 : Int32) * (10 : Int32))) (fun R106 => some R106))))) = some R' ∧ _
  rw [ej, side6_v, o1_v]
  by_cases q : j = 0
  · subst q
    obtain ⟨R', now', e1, e2, h2, k2, -⟩ := hour_v hn (s := 0) (by omega) (0 : Int32) d e h1
    have c2 := c1.kp hn k2
    refine ⟨R', now', ?_, fun kx => ?_, h2, c2, (Kd.dr _ _).tr k2.d⟩
    · rw [if_pos (show nI 0 = (0 : Int32) from rfl), if_pos (show nI 0 ≤ (0 : Int32) by decide), show fX1_passHour (dwS R) (0 : Int32) (0 : Int32) = _ from e1, o1_v]
    · rw [o2_v, if_pos (show nI 0 = (0 : Int32) from rfl), show fX7_hour _ (0 : Int32) (0 : Int32) = _ from e2, op7_v hn h2 c2, o1_v, o2_v]
  · have hne : ¬ nI j = (0 : Int32) := fun z => q ((nI_eq (b := 0) (by omega) (by omega)).mp z)
    have h2 := h1.dw
    have c2 : CI k (upd (upd now 5 (zS (now 5))) 5 (zS (upd now 5 (zS (now 5)) 5))) := c1.up (by omega)
    obtain ⟨R', now', e1, e2, h3, k3, -⟩ := hour_v hn (s := j - 1) (by omega) (rmS (dS (zS (upd now 5 (zS (now 5)) 5))) (nI 10)) d e h2
    have c3 := c2.kp hn k3
    refine ⟨R', now', ?_, fun kx => ?_, h3, c3, ((Kd.dr _ _).tr (Kd.dr _ _)).tr k3.d⟩
    · rw [if_neg hne, if_neg (show ¬ nI j ≤ (0 : Int32) from nle (b := j) (a := 0) (by omega) (by omega)), draw_v, o2_v, o1_v, nI_sub1 (by omega)]
      rw [up_s] at e1
      rw [← h.zz] at e1
      change o1 (fX1_passHour (dwS (dwS R)) (nI (j - 1)) (rmS (dS (zS (zS R.2.2.2.2.2.2.2.2))) (nI 10))) (fun R106 => some R106) = some R'
      rw [e1, o1_v]
    · rw [o2_v, if_neg hne, show (10 : Int32) = nI 10 from rfl, drawn_n _ (by omega) (by omega), o2_v, nI_sub1 (by omega), e2, op7_v hn h3 c3, o1_v, o2_v]
