def fX3_note_L34 (S : Sv) (kx : Int32 → Int32 → Option (Sv)) : Nat → Int32 → Int32 → Int32 → Option (Sv)
  | 0, _, _, _ => none
  | k + 1, x1, x2, x3 => if S.2.2.2.1 ≤ x3 then (kx x1 x2) else (o1 (fX6_at 5 S.1 x3) (fun x103 => if x103 ≤ 0 then (fX3_note_L34 S kx k x1 x2 (x3 + (1 : Int32))) else (o1 (fX6_sideOf x103) (fun x104 => fX3_note_L34 S kx k (x1 + (1 : Int32)) (x2 ||| ((1 : Int32) <<< (x104 &&& 31))) (x3 + (1 : Int32))))))
def fX3_note_J18 (S : Sv) : Option (Sv) := fX3_note_L34 (S.1, S.2.1, S.2.2.1, S.2.2.2.1, (S.2.2.2.2.1 + (1 : Int32)), S.2.2.2.2.2.1, S.2.2.2.2.2.2) (fun x105 x106 => some (S.1, S.2.1, S.2.2.1, S.2.2.2.1, (S.2.2.2.2.1 + (1 : Int32)), (if x105 < S.2.2.2.2.2.1 then x105 else S.2.2.2.2.2.1), (S.2.2.2.2.2.2 &&& x106))) fu (0 : Int32) (0 : Int32) (0 : Int32)
def fX3_note (S : Sv) : Option (Sv) := if S.2.2.2.2.1 = 0 then (o1 (fX6_copyRow 5 S.1) (fun f2107 => fX3_note_J18 (S.1, S.2.1, f2107, S.2.2.2.1, S.2.2.2.2.1, S.2.2.2.2.2.1, S.2.2.2.2.2.2))) else (fX3_note_J18 S)
theorem q_X3_note : yX3_note.cls = RX3 ∧ yX3_note.cls ≠ "java/lang/invoke/MethodHandle" ∧ yX3_note.cls ≠ "java/lang/invoke/VarHandle" ∧ (parseMethodDescriptor yX3_note.desc).map (fun d => d.parameters.length) = some 0 := by decide +kernel
theorem i_X3_note_X3 : ∀ w ∈ u_ws RX3 TX3 8, w ∈ wsX3_note := fun _ h => List.mem_cons_of_mem _ (List.mem_append_right _ (h))
set_option maxHeartbeats 4000000 in
set_option maxRecDepth 100000 in
theorem c_X3_note (l : Launch) (g : gG) (s0 s1 s2 s3 h0 h1 h2 h3 : Nat) (S : Sv) (R : Rf) {S' : Sv} (hf : fX3_note S = some S') : Ct l yX3_note wsX3_note (rmm 2 81) g (wSv g s0 s1 s2 s3 h0 h1 h2 h3 S R) (wSv g s0 s1 s2 s3 h0 h1 h2 h3 (S') R) [.ref s0] none := by
  refine Ct.mk (by decide) rfl (Nat.le_of_ble_eq_true rfl) ?_
  intro p e s m args below meth c A ls hx hb hr hml hts hown hlocks hA hE hP hD hS hl hAe
  obtain ⟨Qx, hQ⟩ : ∃ Qx : State → Prop, Qx = MQ below (QcG g (wSv g s0 s1 s2 s3 h0 h1 h2 h3 S R) (wSv g s0 s1 s2 s3 h0 h1 h2 h3 (S') R) none s.heap.size) args s 0 0 A := ⟨_, rfl⟩
  rw [← hQ]
  have hown : s.vm.findClass RX3 = some m.cls := hown
  have hl : lv_has ls 5 [(0, .ref s0)] := hl
  have w1 := hts (.fieldLink RX3 25 "RainVault$Survey" "opening" "I") (List.mem_of_getElem? (i := 1) rfl)
  have w2 := hts (.fieldLink RX3 21 "RainVault$Survey" "hours" "I") (List.mem_of_getElem? (i := 4) rfl)
  have w3 := hts (.fieldLink RX3 9 "RainVault$Survey" "signs" "[I") (List.mem_of_getElem? (i := 2) rfl)
  have w4 := hts (.initialized RX6) (List.mem_of_getElem? (i := 12) rfl)
  have w5 := hts (.static yX6_at) (List.mem_of_getElem? (i := 19) rfl)
  have w6 := hts (.static yX6_sideOf) (List.mem_of_getElem? (i := 21) rfl)
  have w7 := hts (.fieldLink RX3 28 "RainVault$Survey" "fewestWet" "I") (List.mem_of_getElem? (i := 5) rfl)
  have w8 := hts (.methodLink RX3 90 Lib.Math.min.name) (List.mem_of_getElem? (i := 6) rfl)
  have w9 := hts (.static Lib.Math.min.name) (List.mem_of_getElem? (i := 7) rfl)
  have w10 := hts (.initialized "java/lang/Math") (List.mem_of_getElem? (i := 8) rfl)
  have w11 := hts (.code Lib.Math.min.name Lib.Math.min.code 2 (some .int)) (List.mem_of_getElem? (i := 9) rfl)
  have w12 := hts (.fieldLink RX3 31 "RainVault$Survey" "commonSides" "I") (List.mem_of_getElem? (i := 10) rfl)
  have w13 := hts (.fieldLink RX3 18 "RainVault$Survey" "firstSigns" "[I") (List.mem_of_getElem? (i := 3) rfl)
  have w14 := hts (.static yX6_copyRow) (List.mem_of_getElem? (i := 11) rfl)
  have L34 : ∀ (S : Sv) (kx : Int32 → Int32 → Option (Sv)) (k : Nat) (x1 : Int32) (x2 : Int32) (x3 : Int32) (H : Heap) (locs : List Loc) (ls : Array Slot), fX3_note_L34 S kx k x1 x2 x3 = some S' → va_P g.1 vwK (wSv g s0 s1 s2 s3 h0 h1 h2 h3 S R) H → va_D A (wSv g s0 s1 s2 s3 h0 h1 h2 h3 S R) → va_S A s.heap H locs → lv_has ls 5 [(0, .ref s0), (1, .int x1), (2, .int x2), (3, .int x3)] → (∀ (x1 : Int32) (x2 : Int32) (H : Heap) (locs : List Loc) (ls : Array Slot), kx x1 x2 = some S' → va_P g.1 vwK (wSv g s0 s1 s2 s3 h0 h1 h2 h3 S R) H → va_D A (wSv g s0 s1 s2 s3 h0 h1 h2 h3 S R) → va_S A s.heap H locs → lv_has ls 5 [(0, .ref s0), (1, .int x1), (2, .int x2)] → W p l e (rmm 2 81) s m args below meth c H locs 0 0 Qx (F0 m 76 ls [])) → W p l e (rmm 2 81) s m args below meth c H locs 0 0 Qx (F0 m 34 ls []) := by
    intro S kx k
    induction k with
    | zero => intro x1 x2 x3 H locs ls hf; exact nomatch (show (none : Option (Sv)) = some _ from hf)
    | succ k ih =>
      intro x1 x2 x3 H locs ls hf hP hD hS hl hk
      rw [fX3_note_L34] at hf
      refine lv_iload_n hx hb dX3_note_34 rfl (lv_at hl 3 rfl) ?_
      refine lv_aload_n hx hb dX3_note_35 rfl (lv_at hl 0 rfl) ?_
      refine va_get (D := g.1) (ci := 3) (v := .int S.2.2.2.1) (C := RX3) (T := TX3) (N := 8) hx hb hts i_X3_note_X3 hown hE.1 hP 0 rfl rfl 4 (by decide) w2 (fun _ h9 => h9) rfl dX3_note_36 ?_
      refine lv_icmp_ge (tgt := 76) hx hb dX3_note_39 (by decide) (fun hc => ?_) (fun hc => ?_)
      · have hf := if_t hf hc
        exact hk _ _ _ _ _  hf hP hD hS (lv_sub hl [0, 1, 2] rfl)
      · have hf := if_f hf hc
        refine lv_aload_n hx hb dX3_note_42 rfl (lv_at hl 0 rfl) ?_
        refine va_get (D := g.1) (ci := 3) (v := .ref s1) (C := RX3) (T := TX3) (N := 8) hx hb hts i_X3_note_X3 hown hE.1 hP 0 rfl rfl 1 (by decide) w3 (fun _ h9 => h9) rfl dX3_note_43 ?_
        refine lv_iload_n hx hb dX3_note_46 rfl (lv_at hl 3 rfl) ?_
        obtain ⟨x103, hg, hf⟩ := o1_s hf
        refine Ct.callSN (ws' := wSv g s0 s1 s2 s3 h0 h1 h2 h3 S R) (As := [.ref s1, .int x3]) (rest := []) (st1 := [.int x103]) (c_X6_at l g s1 5 S.1 x3 hg) (⟨va_cnB 2 hts gX3_note_X6_at_n48 rfl rfl rfl (hE.2.1 _ (List.mem_of_getElem? (i := 31) rfl)) w4 q_X6_at.2 ⟨Nat.le_of_ble_eq_true rfl, Nat.le_of_ble_eq_true rfl⟩, w5, trivial⟩) ⟨hx, hb, hml, hown, hts⟩ hE hP hD hS hA [1] rfl rfl rfl rfl rfl hl.1 rfl rfl (Nat.le_of_ble_eq_true rfl) dX3_note_47 (fun H locs hP hD hS => ?_)
        refine lv_istore (lv' := [(4, .int x103), (0, .ref s0), (1, .int x1), (2, .int x2), (3, .int x3)]) hx hb dX3_note_50 hl (by decide) rfl (fun ls hl => ?_)
        refine lv_iload hx hb dX3_note_52 (lv_at hl 0 rfl) ?_
        refine lv_if_le (tgt := 70) hx hb dX3_note_54 (by decide) (fun hc => ?_) (fun hc => ?_)
        · have hf := if_t hf hc
          refine lv_iinc (v := (x3 + (1 : Int32))) (lv' := [(3, .int (x3 + (1 : Int32))), (4, .int x103), (0, .ref s0), (1, .int x1), (2, .int x2)]) hx hb dX3_note_70 hl (k := 4) rfl rfl (by decide) rfl (fun ls hl => ?_)
          refine lv_goto (tgt := 34) hx hb dX3_note_73 (by decide) ?_
          exact ih _ _ _ _ _ _  hf hP hD hS (lv_sub hl [2, 3, 4, 0] rfl) hk
        · have hf := if_f hf hc
          refine lv_iinc (v := (x1 + (1 : Int32))) (lv' := [(1, .int (x1 + (1 : Int32))), (4, .int x103), (0, .ref s0), (2, .int x2), (3, .int x3)]) hx hb dX3_note_57 hl (k := 2) rfl rfl (by decide) rfl (fun ls hl => ?_)
          refine lv_iload_n hx hb dX3_note_60 rfl (lv_at hl 3 rfl) ?_
          refine lv_iconst (v := (1 : Int32)) hx hb dX3_note_61 (by decide) ?_
          refine lv_iload hx hb dX3_note_62 (lv_at hl 1 rfl) ?_
          obtain ⟨x104, hg, hf⟩ := o1_s hf
          refine Ct.callSN (ws' := wSv g s0 s1 s2 s3 h0 h1 h2 h3 S R) (As := [.int x103]) (rest := [.int (1 : Int32), .int x2]) (st1 := [.int x104, .int (1 : Int32), .int x2]) (c_X6_sideOf l g x103 hg) (⟨va_cnB 1 hts gX3_note_X6_sideOf_n59 rfl rfl rfl (hE.2.1 _ (List.mem_of_getElem? (i := 33) rfl)) w4 q_X6_sideOf.2 ⟨Nat.le_of_ble_eq_true rfl, Nat.le_of_ble_eq_true rfl⟩, w6, trivial⟩) ⟨hx, hb, hml, hown, hts⟩ hE hP hD hS hA [] rfl rfl rfl rfl rfl hl.1 rfl rfl (Nat.le_of_ble_eq_true rfl) dX3_note_64 (fun H locs hP hD hS => ?_)
          refine lv_ishl hx hb dX3_note_67 ?_
          refine lv_ior hx hb dX3_note_68 ?_
          refine lv_istore_n (lv' := [(2, .int (x2 ||| ((1 : Int32) <<< (x104 &&& 31)))), (1, .int (x1 + (1 : Int32))), (4, .int x103), (0, .ref s0), (3, .int x3)]) hx hb dX3_note_69 rfl hl (by decide) rfl (fun ls hl => ?_)
          refine lv_iinc (v := (x3 + (1 : Int32))) (lv' := [(3, .int (x3 + (1 : Int32))), (2, .int (x2 ||| ((1 : Int32) <<< (x104 &&& 31)))), (1, .int (x1 + (1 : Int32))), (4, .int x103), (0, .ref s0)]) hx hb dX3_note_70 hl (k := 4) rfl rfl (by decide) rfl (fun ls hl => ?_)
          refine lv_goto (tgt := 34) hx hb dX3_note_73 (by decide) ?_
          exact ih _ _ _ _ _ _  hf hP hD hS (lv_sub hl [4, 2, 1, 0] rfl) hk
  have J18 : ∀ (S : Sv) (H : Heap) (locs : List Loc) (ls : Array Slot), fX3_note_J18 S = some S' → va_P g.1 vwK (wSv g s0 s1 s2 s3 h0 h1 h2 h3 S R) H → va_D A (wSv g s0 s1 s2 s3 h0 h1 h2 h3 S R) → va_S A s.heap H locs → lv_has ls 5 [(0, .ref s0)] → W p l e (rmm 2 81) s m args below meth c H locs 0 0 Qx (F0 m 18 ls []) := by
    intro S H locs ls hf hP hD hS hl
    unfold fX3_note_J18 at hf
    refine lv_aload_n hx hb dX3_note_18 rfl (lv_at hl 0 rfl) ?_
    refine lv_dup hx hb dX3_note_19 rfl ?_
    refine va_get (D := g.1) (ci := 3) (v := .int S.2.2.2.2.1) (C := RX3) (T := TX3) (N := 8) hx hb hts i_X3_note_X3 hown hE.1 hP 0 rfl rfl 5 (by decide) w1 (fun _ h9 => h9) rfl dX3_note_20 ?_
    refine lv_iconst (v := (1 : Int32)) hx hb dX3_note_23 (by decide) ?_
    refine lv_iadd hx hb dX3_note_24 ?_
    refine va_put (D := g.1) (ci := 3) (v := .int (S.2.2.2.2.1 + (1 : Int32))) (ty := .int) (C := RX3) (T := TX3) (N := 8) hx hb hts i_X3_note_X3 tyX3 tyX3_ok nmX3 hown hE.1 hP hD hS 0 rfl rfl 5 (by decide) w1 (fun _ h9 => h9) rfl (by decide +kernel) rfl rfl (Nat.le_of_ble_eq_true rfl) dX3_note_25 (fun H locs hP hD hS => ?_)
    have hP : va_P g.1 vwK (wSv g s0 s1 s2 s3 h0 h1 h2 h3 (S.1, S.2.1, S.2.2.1, S.2.2.2.1, (S.2.2.2.2.1 + (1 : Int32)), S.2.2.2.2.2.1, S.2.2.2.2.2.2) R) H := hP
    have hD : va_D A (wSv g s0 s1 s2 s3 h0 h1 h2 h3 (S.1, S.2.1, S.2.2.1, S.2.2.2.1, (S.2.2.2.2.1 + (1 : Int32)), S.2.2.2.2.2.1, S.2.2.2.2.2.2) R) := hD
    refine lv_iconst (v := (0 : Int32)) hx hb dX3_note_28 (by decide) ?_
    refine lv_istore_n (lv' := [(1, .int (0 : Int32)), (0, .ref s0)]) hx hb dX3_note_29 rfl hl (by decide) rfl (fun ls hl => ?_)
    refine lv_iconst (v := (0 : Int32)) hx hb dX3_note_30 (by decide) ?_
    refine lv_istore_n (lv' := [(2, .int (0 : Int32)), (1, .int (0 : Int32)), (0, .ref s0)]) hx hb dX3_note_31 rfl hl (by decide) rfl (fun ls hl => ?_)
    refine lv_iconst (v := (0 : Int32)) hx hb dX3_note_32 (by decide) ?_
    refine lv_istore_n (lv' := [(3, .int (0 : Int32)), (2, .int (0 : Int32)), (1, .int (0 : Int32)), (0, .ref s0)]) hx hb dX3_note_33 rfl hl (by decide) rfl (fun ls hl => ?_)
    refine L34 _ _ _ _ _ _ _ _ _  hf hP hD hS (lv_sub hl [3, 2, 1, 0] rfl) (fun x105 x106 H locs ls hf hP hD hS hl => ?_)
    refine lv_aload_n hx hb dX3_note_76 rfl (lv_at hl 0 rfl) ?_
    refine lv_aload_n hx hb dX3_note_77 rfl (lv_at hl 0 rfl) ?_
    refine va_get (D := g.1) (ci := 3) (v := .int S.2.2.2.2.2.1) (C := RX3) (T := TX3) (N := 8) hx hb hts i_X3_note_X3 hown hE.1 hP 0 rfl rfl 6 (by decide) w7 (fun _ h9 => h9) rfl dX3_note_78 ?_
    refine lv_iload_n hx hb dX3_note_81 rfl (lv_at hl 1 rfl) ?_
    refine va_mmin hx hb (hml.trans hl.1.symm) hown w8 w9 w10 w11 (Nat.le_of_ble_eq_true rfl) (Nat.le_of_ble_eq_true rfl) (Nat.zero_le _) (Nat.zero_le _) dX3_note_82 ?_
    refine va_put (D := g.1) (ci := 3) (v := .int (if x105 < S.2.2.2.2.2.1 then x105 else S.2.2.2.2.2.1)) (ty := .int) (C := RX3) (T := TX3) (N := 8) hx hb hts i_X3_note_X3 tyX3 tyX3_ok nmX3 hown hE.1 hP hD hS 0 rfl rfl 6 (by decide) w7 (fun _ h9 => h9) rfl (by decide +kernel) rfl rfl (Nat.le_of_ble_eq_true rfl) dX3_note_85 (fun H locs hP hD hS => ?_)
    have hP : va_P g.1 vwK (wSv g s0 s1 s2 s3 h0 h1 h2 h3 (S.1, S.2.1, S.2.2.1, S.2.2.2.1, (S.2.2.2.2.1 + (1 : Int32)), (if x105 < S.2.2.2.2.2.1 then x105 else S.2.2.2.2.2.1), S.2.2.2.2.2.2) R) H := hP
    have hD : va_D A (wSv g s0 s1 s2 s3 h0 h1 h2 h3 (S.1, S.2.1, S.2.2.1, S.2.2.2.1, (S.2.2.2.2.1 + (1 : Int32)), (if x105 < S.2.2.2.2.2.1 then x105 else S.2.2.2.2.2.1), S.2.2.2.2.2.2) R) := hD
    refine lv_aload_n hx hb dX3_note_88 rfl (lv_at hl 0 rfl) ?_
    refine lv_dup hx hb dX3_note_89 rfl ?_
    refine va_get (D := g.1) (ci := 3) (v := .int S.2.2.2.2.2.2) (C := RX3) (T := TX3) (N := 8) hx hb hts i_X3_note_X3 hown hE.1 hP 0 rfl rfl 7 (by decide) w12 (fun _ h9 => h9) rfl dX3_note_90 ?_
    refine lv_iload_n hx hb dX3_note_93 rfl (lv_at hl 2 rfl) ?_
    refine lv_iand hx hb dX3_note_94 ?_
    refine va_put (D := g.1) (ci := 3) (v := .int (S.2.2.2.2.2.2 &&& x106)) (ty := .int) (C := RX3) (T := TX3) (N := 8) hx hb hts i_X3_note_X3 tyX3 tyX3_ok nmX3 hown hE.1 hP hD hS 0 rfl rfl 7 (by decide) w12 (fun _ h9 => h9) rfl (by decide +kernel) rfl rfl (Nat.le_of_ble_eq_true rfl) dX3_note_95 (fun H locs hP hD hS => ?_)
    have hP : va_P g.1 vwK (wSv g s0 s1 s2 s3 h0 h1 h2 h3 (S.1, S.2.1, S.2.2.1, S.2.2.2.1, (S.2.2.2.2.1 + (1 : Int32)), (if x105 < S.2.2.2.2.2.1 then x105 else S.2.2.2.2.2.1), (S.2.2.2.2.2.2 &&& x106)) R) H := hP
    have hD : va_D A (wSv g s0 s1 s2 s3 h0 h1 h2 h3 (S.1, S.2.1, S.2.2.1, S.2.2.2.1, (S.2.2.2.2.1 + (1 : Int32)), (if x105 < S.2.2.2.2.2.1 then x105 else S.2.2.2.2.2.1), (S.2.2.2.2.2.2 &&& x106)) R) := hD
    obtain rfl := Option.some.inj hf
    rw [hQ]; exact Ct.vret hx hb hr hlocks hAe hP hD hS dX3_note_98
  unfold fX3_note at hf
  refine lv_aload_n hx hb dX3_note_0 rfl (lv_at hl 0 rfl) ?_
  refine va_get (D := g.1) (ci := 3) (v := .int S.2.2.2.2.1) (C := RX3) (T := TX3) (N := 8) hx hb hts i_X3_note_X3 hown hE.1 hP 0 rfl rfl 5 (by decide) w1 (fun _ h9 => h9) rfl dX3_note_1 ?_
  refine lv_if_ne (tgt := 18) hx hb dX3_note_4 (by decide) (fun hc => ?_) (fun hc => ?_)
  · have hf := if_f hf hc
    exact J18 _ _ _ _  hf hP hD hS (lv_sub hl [0] rfl)
  · have hf := if_t hf hc
    refine lv_aload_n hx hb dX3_note_7 rfl (lv_at hl 0 rfl) ?_
    refine va_get (D := g.1) (ci := 3) (v := .ref s1) (C := RX3) (T := TX3) (N := 8) hx hb hts i_X3_note_X3 hown hE.1 hP 0 rfl rfl 1 (by decide) w3 (fun _ h9 => h9) rfl dX3_note_8 ?_
    refine lv_aload_n hx hb dX3_note_11 rfl (lv_at hl 0 rfl) ?_
    refine va_get (D := g.1) (ci := 3) (v := .ref s3) (C := RX3) (T := TX3) (N := 8) hx hb hts i_X3_note_X3 hown hE.1 hP 0 rfl rfl 3 (by decide) w13 (fun _ h9 => h9) rfl dX3_note_12 ?_
    obtain ⟨f2107, hg, hf⟩ := o1_s hf
    refine Ct.callSN (ws' := wSv g s0 s1 s2 s3 h0 h1 h2 h3 (S.1, S.2.1, f2107, S.2.2.2.1, S.2.2.2.2.1, S.2.2.2.2.2.1, S.2.2.2.2.2.2) R) (As := [.ref s1, .ref s3]) (rest := []) (st1 := []) (c_X6_copyRow l g s1 s3 5 S.1 S.2.2.1 hg) (⟨va_cnB 2 hts gX3_note_X6_copyRow_n86 rfl rfl rfl (hE.2.1 _ (List.mem_of_getElem? (i := 34) rfl)) w4 q_X6_copyRow.2 ⟨Nat.le_of_ble_eq_true rfl, Nat.le_of_ble_eq_true rfl⟩, w14, trivial⟩) ⟨hx, hb, hml, hown, hts⟩ hE hP hD hS hA [1, 3] rfl rfl rfl rfl rfl hl.1 rfl rfl (Nat.le_of_ble_eq_true rfl) dX3_note_15 (fun H locs hP hD hS => ?_)
    exact J18 _ _ _ _  hf hP hD hS (lv_sub hl [0] rfl)
def fX3_lookThrough_L30 (x3 : Int32) (kx : Sv → Rf → Option (Sv × Rf)) : Nat → Sv → Rf → Int32 → Option (Sv × Rf)
  | 0, _, _, _ => none
  | k + 1, S, R, x4 => if x3 ≤ x4 then (kx S R) else (o2 (fX3_passRain S R x4) (fun S108 R109 => o1 (fX1_isOpen R109) (fun x110 => if x110 = 0 then (fX3_lookThrough_L30 x3 kx k S108 R109 (x4 + (1 : Int32))) else (o1 (fX3_note S108) (fun S111 => fX3_lookThrough_L30 x3 kx k S111 R109 (x4 + (1 : Int32)))))))
def fX3_lookThrough (S : Sv) (R : Rf) (N : Rf) (a1 : Int32) : Option (Sv × Rf) := o2 (fX3_begin S R N a1) (fun S101 R102 => o1 (fX3_howMany (S101.1, S101.2.1, S101.2.2.1, S101.2.2.2.1, (0 : Int32), a1, (15 : Int32))) (fun x103 => fX3_lookThrough_L30 x103 (fun S112 R113 => some (S112, R113)) fu (S101.1, S101.2.1, S101.2.2.1, S101.2.2.2.1, (0 : Int32), a1, (15 : Int32)) R102 (0 : Int32)))
theorem q_X3_lookThrough : yX3_lookThrough.cls = RX3 ∧ yX3_lookThrough.cls ≠ "java/lang/invoke/MethodHandle" ∧ yX3_lookThrough.cls ≠ "java/lang/invoke/VarHandle" ∧ (parseMethodDescriptor yX3_lookThrough.desc).map (fun d => d.parameters.length) = some 2 := by decide +kernel
theorem i_X3_lookThrough_X3 : ∀ w ∈ u_ws RX3 TX3 8, w ∈ wsX3_lookThrough := fun _ h => List.mem_cons_of_mem _ (List.mem_append_left _ (List.mem_append_right _ (h)))
set_option maxHeartbeats 4000000 in
set_option maxRecDepth 100000 in
theorem c_X3_lookThrough (l : Launch) (g : gG) (s0 s1 s2 s3 h0 h1 h2 h3 i0 i1 i2 i3 : Nat) (S : Sv) (R : Rf) (N : Rf) (a1 : Int32) {S' : Sv} {R' : Rf} (hf : fX3_lookThrough S R N a1 = some (S', R')) : Ct l yX3_lookThrough wsX3_lookThrough (rmm 5 124) g (wSv2 g s0 s1 s2 s3 h0 h1 h2 h3 i0 i1 i2 i3 S R N) (wSv2 g s0 s1 s2 s3 h0 h1 h2 h3 i0 i1 i2 i3 (S') (R') N) [.ref s0, .ref i0, .int a1] none := by
  refine Ct.mk (by decide) rfl (Nat.le_of_ble_eq_true rfl) ?_
  intro p e s m args below meth c A ls hx hb hr hml hts hown hlocks hA hE hP hD hS hl hAe
  obtain ⟨Qx, hQ⟩ : ∃ Qx : State → Prop, Qx = MQ below (QcG g (wSv2 g s0 s1 s2 s3 h0 h1 h2 h3 i0 i1 i2 i3 S R N) (wSv2 g s0 s1 s2 s3 h0 h1 h2 h3 i0 i1 i2 i3 (S') (R') N) none s.heap.size) args s 0 0 A := ⟨_, rfl⟩
  rw [← hQ]
  have hown : s.vm.findClass RX3 = some m.cls := hown
  have hl : lv_has ls 5 [(0, .ref s0), (1, .ref i0), (2, .int a1)] := hl
  have w1 := hts (.fieldLink RX3 25 "RainVault$Survey" "opening" "I") (List.mem_of_getElem? (i := 1) rfl)
  have w2 := hts (.fieldLink RX3 28 "RainVault$Survey" "fewestWet" "I") (List.mem_of_getElem? (i := 2) rfl)
  have w3 := hts (.fieldLink RX3 31 "RainVault$Survey" "commonSides" "I") (List.mem_of_getElem? (i := 3) rfl)
  have w4 := hts (.fieldLink RX3 34 "RainVault$Survey" "trial" "LRainVault$Roof;") (List.mem_of_getElem? (i := 4) rfl)
  have L30 : ∀ (x3 : Int32) (kx : Sv → Rf → Option (Sv × Rf)) (k : Nat) (S : Sv) (R : Rf) (x4 : Int32) (H : Heap) (locs : List Loc) (ls : Array Slot), fX3_lookThrough_L30 x3 kx k S R x4 = some (S', R') → va_P g.1 vwK (wSv2 g s0 s1 s2 s3 h0 h1 h2 h3 i0 i1 i2 i3 S R N) H → va_D A (wSv2 g s0 s1 s2 s3 h0 h1 h2 h3 i0 i1 i2 i3 S R N) → va_S A s.heap H locs → lv_has ls 5 [(0, .ref s0), (3, .int x3), (4, .int x4)] → (∀ (S : Sv) (R : Rf) (H : Heap) (locs : List Loc) (ls : Array Slot), kx S R = some (S', R') → va_P g.1 vwK (wSv2 g s0 s1 s2 s3 h0 h1 h2 h3 i0 i1 i2 i3 S R N) H → va_D A (wSv2 g s0 s1 s2 s3 h0 h1 h2 h3 i0 i1 i2 i3 S R N) → va_S A s.heap H locs → lv_has ls 5 [] → W p l e (rmm 5 124) s m args below meth c H locs 0 0 Qx (F0 m 62 ls [])) → W p l e (rmm 5 124) s m args below meth c H locs 0 0 Qx (F0 m 30 ls []) := by
    intro x3 kx k
    induction k with
    | zero => intro S R x4 H locs ls hf; exact nomatch (show (none : Option (Sv × Rf)) = some _ from hf)
    | succ k ih =>
      intro S R x4 H locs ls hf hP hD hS hl hk
      rw [fX3_lookThrough_L30] at hf
      refine lv_iload hx hb dX3_lookThrough_30 (lv_at hl 2 rfl) ?_
      refine lv_iload_n hx hb dX3_lookThrough_32 rfl (lv_at hl 1 rfl) ?_
      refine lv_icmp_ge (tgt := 62) hx hb dX3_lookThrough_33 (by decide) (fun hc => ?_) (fun hc => ?_)
      · have hf := if_t hf hc
        exact hk _ _ _ _ _  hf hP hD hS (lv_sub hl [] rfl)
      · have hf := if_f hf hc
        refine lv_aload_n hx hb dX3_lookThrough_36 rfl (lv_at hl 0 rfl) ?_
        refine lv_iload hx hb dX3_lookThrough_37 (lv_at hl 2 rfl) ?_
        obtain ⟨S108, R109, hg, hf⟩ := o2_s hf
        refine Ct.callV (ws' := wSv2 g s0 s1 s2 s3 h0 h1 h2 h3 i0 i1 i2 i3 S108 R109 N) (As := [.int x4]) (rest := []) (st1 := []) (c_X3_passRain l g s0 s1 s2 s3 h0 h1 h2 h3 S R x4 hg) (cwV 1 hts gX3_lookThrough_X3_passRain rfl rfl rfl q_X3_passRain ⟨Nat.le_of_ble_eq_true rfl, Nat.le_of_ble_eq_true rfl⟩) ⟨hx, hb, hml, hown, hts⟩ hE hP hD hS hA [0, 1, 2, 3, 4, 5, 6, 7] rfl rfl rfl rfl 3 0 rfl rfl rfl rfl hl.1 rfl rfl (Nat.le_of_ble_eq_true rfl) dX3_lookThrough_39 (fun H locs hP hD hS => ?_)
        refine lv_aload_n hx hb dX3_lookThrough_42 rfl (lv_at hl 0 rfl) ?_
        refine va_get (D := g.1) (ci := 3) (v := .ref h0) (C := RX3) (T := TX3) (N := 8) hx hb hts i_X3_lookThrough_X3 hown hE.1 hP 0 rfl rfl 0 (by decide) w4 (fun _ h9 => h9) rfl dX3_lookThrough_43 ?_
        obtain ⟨x110, hg, hf⟩ := o1_s hf
        refine Ct.callV (ws' := wSv2 g s0 s1 s2 s3 h0 h1 h2 h3 i0 i1 i2 i3 S108 R109 N) (As := []) (rest := []) (st1 := [.int x110]) (c_X1_isOpen l g h0 h1 h2 h3 R109 hg) (cwV 0 hts gX3_lookThrough_X1_isOpen rfl rfl rfl q_X1_isOpen ⟨Nat.le_of_ble_eq_true rfl, Nat.le_of_ble_eq_true rfl⟩) ⟨hx, hb, hml, hown, hts⟩ hE hP hD hS hA [4, 5, 6, 7] rfl rfl rfl rfl 1 4 rfl rfl rfl rfl hl.1 rfl rfl (Nat.le_of_ble_eq_true rfl) dX3_lookThrough_46 (fun H locs hP hD hS => ?_)
        refine lv_if_eq (tgt := 56) hx hb dX3_lookThrough_49 (by decide) (fun hc => ?_) (fun hc => ?_)
        · have hf := if_t hf hc
          refine lv_iinc (v := (x4 + (1 : Int32))) (lv' := [(4, .int (x4 + (1 : Int32))), (0, .ref s0), (3, .int x3)]) hx hb dX3_lookThrough_56 hl (k := 2) rfl rfl (by decide) rfl (fun ls hl => ?_)
          refine lv_goto (tgt := 30) hx hb dX3_lookThrough_59 (by decide) ?_
          exact ih _ _ _ _ _ _  hf hP hD hS (lv_sub hl [1, 2, 0] rfl) hk
        · have hf := if_f hf hc
          refine lv_aload_n hx hb dX3_lookThrough_52 rfl (lv_at hl 0 rfl) ?_
          obtain ⟨S111, hg, hf⟩ := o1_s hf
          refine Ct.callV (ws' := wSv2 g s0 s1 s2 s3 h0 h1 h2 h3 i0 i1 i2 i3 S111 R109 N) (As := []) (rest := []) (st1 := []) (c_X3_note l g s0 s1 s2 s3 h0 h1 h2 h3 S108 R109 hg) (cwV 0 hts gX3_lookThrough_X3_note rfl rfl rfl q_X3_note ⟨Nat.le_of_ble_eq_true rfl, Nat.le_of_ble_eq_true rfl⟩) ⟨hx, hb, hml, hown, hts⟩ hE hP hD hS hA [0, 1, 2, 3, 4, 5, 6, 7] rfl rfl rfl rfl 3 0 rfl rfl rfl rfl hl.1 rfl rfl (Nat.le_of_ble_eq_true rfl) dX3_lookThrough_53 (fun H locs hP hD hS => ?_)
          refine lv_iinc (v := (x4 + (1 : Int32))) (lv' := [(4, .int (x4 + (1 : Int32))), (0, .ref s0), (3, .int x3)]) hx hb dX3_lookThrough_56 hl (k := 2) rfl rfl (by decide) rfl (fun ls hl => ?_)
          refine lv_goto (tgt := 30) hx hb dX3_lookThrough_59 (by decide) ?_
          exact ih _ _ _ _ _ _  hf hP hD hS (lv_sub hl [1, 2, 0] rfl) hk
  unfold fX3_lookThrough at hf
  refine lv_aload_n hx hb dX3_lookThrough_0 rfl (lv_at hl 0 rfl) ?_
  refine lv_aload_n hx hb dX3_lookThrough_1 rfl (lv_at hl 1 rfl) ?_
  refine lv_iload_n hx hb dX3_lookThrough_2 rfl (lv_at hl 2 rfl) ?_
  obtain ⟨S101, R102, hg, hf⟩ := o2_s hf
  refine Ct.callV0 (ws' := wSv2 g s0 s1 s2 s3 h0 h1 h2 h3 i0 i1 i2 i3 S101 R102 N) (As := [.ref i0, .int a1]) (rest := []) (st1 := []) (c_X3_begin l g s0 s1 s2 s3 h0 h1 h2 h3 i0 i1 i2 i3 S R N a1 hg) (cwV 2 hts gX3_lookThrough_X3_begin rfl rfl rfl q_X3_begin ⟨Nat.le_of_ble_eq_true rfl, Nat.le_of_ble_eq_true rfl⟩) ⟨hx, hb, hml, hown, hts⟩ hE hP hD hS hA 3 0 rfl rfl rfl rfl hl.1 rfl rfl (Nat.le_of_ble_eq_true rfl) dX3_lookThrough_3 (fun H locs hP hD hS => ?_)
  refine lv_aload_n hx hb dX3_lookThrough_6 rfl (lv_at hl 0 rfl) ?_
  refine lv_iconst (v := (0 : Int32)) hx hb dX3_lookThrough_7 (by decide) ?_
  refine va_put (D := g.1) (ci := 3) (v := .int (0 : Int32)) (ty := .int) (C := RX3) (T := TX3) (N := 8) hx hb hts i_X3_lookThrough_X3 tyX3 tyX3_ok nmX3 hown hE.1 hP hD hS 0 rfl rfl 5 (by decide) w1 (fun _ h9 => h9) rfl (by decide +kernel) rfl rfl (Nat.le_of_ble_eq_true rfl) dX3_lookThrough_8 (fun H locs hP hD hS => ?_)
  have hP : va_P g.1 vwK (wSv2 g s0 s1 s2 s3 h0 h1 h2 h3 i0 i1 i2 i3 (S101.1, S101.2.1, S101.2.2.1, S101.2.2.2.1, (0 : Int32), S101.2.2.2.2.2.1, S101.2.2.2.2.2.2) R102 N) H := hP
  have hD : va_D A (wSv2 g s0 s1 s2 s3 h0 h1 h2 h3 i0 i1 i2 i3 (S101.1, S101.2.1, S101.2.2.1, S101.2.2.2.1, (0 : Int32), S101.2.2.2.2.2.1, S101.2.2.2.2.2.2) R102 N) := hD
  refine lv_aload_n hx hb dX3_lookThrough_11 rfl (lv_at hl 0 rfl) ?_
  refine lv_iload_n hx hb dX3_lookThrough_12 rfl (lv_at hl 2 rfl) ?_
  refine va_put (D := g.1) (ci := 3) (v := .int a1) (ty := .int) (C := RX3) (T := TX3) (N := 8) hx hb hts i_X3_lookThrough_X3 tyX3 tyX3_ok nmX3 hown hE.1 hP hD hS 0 rfl rfl 6 (by decide) w2 (fun _ h9 => h9) rfl (by decide +kernel) rfl rfl (Nat.le_of_ble_eq_true rfl) dX3_lookThrough_13 (fun H locs hP hD hS => ?_)
  have hP : va_P g.1 vwK (wSv2 g s0 s1 s2 s3 h0 h1 h2 h3 i0 i1 i2 i3 (S101.1, S101.2.1, S101.2.2.1, S101.2.2.2.1, (0 : Int32), a1, S101.2.2.2.2.2.2) R102 N) H := hP
  have hD : va_D A (wSv2 g s0 s1 s2 s3 h0 h1 h2 h3 i0 i1 i2 i3 (S101.1, S101.2.1, S101.2.2.1, S101.2.2.2.1, (0 : Int32), a1, S101.2.2.2.2.2.2) R102 N) := hD
  refine lv_aload_n hx hb dX3_lookThrough_16 rfl (lv_at hl 0 rfl) ?_
  refine lv_bipush (v := (15 : Int32)) hx hb dX3_lookThrough_17 (by decide) ?_
  refine va_put (D := g.1) (ci := 3) (v := .int (15 : Int32)) (ty := .int) (C := RX3) (T := TX3) (N := 8) hx hb hts i_X3_lookThrough_X3 tyX3 tyX3_ok nmX3 hown hE.1 hP hD hS 0 rfl rfl 7 (by decide) w3 (fun _ h9 => h9) rfl (by decide +kernel) rfl rfl (Nat.le_of_ble_eq_true rfl) dX3_lookThrough_19 (fun H locs hP hD hS => ?_)
  have hP : va_P g.1 vwK (wSv2 g s0 s1 s2 s3 h0 h1 h2 h3 i0 i1 i2 i3 (S101.1, S101.2.1, S101.2.2.1, S101.2.2.2.1, (0 : Int32), a1, (15 : Int32)) R102 N) H := hP
  have hD : va_D A (wSv2 g s0 s1 s2 s3 h0 h1 h2 h3 i0 i1 i2 i3 (S101.1, S101.2.1, S101.2.2.1, S101.2.2.2.1, (0 : Int32), a1, (15 : Int32)) R102 N) := hD
  refine lv_aload_n hx hb dX3_lookThrough_22 rfl (lv_at hl 0 rfl) ?_
  obtain ⟨x103, hg, hf⟩ := o1_s hf
  refine Ct.callV (ws' := wSv2 g s0 s1 s2 s3 h0 h1 h2 h3 i0 i1 i2 i3 (S101.1, S101.2.1, S101.2.2.1, S101.2.2.2.1, (0 : Int32), a1, (15 : Int32)) R102 N) (As := []) (rest := []) (st1 := [.int x103]) (c_X3_howMany l g s0 s1 s2 s3 h0 h1 h2 h3 (S101.1, S101.2.1, S101.2.2.1, S101.2.2.2.1, (0 : Int32), a1, (15 : Int32)) R102 hg) (cwV 0 hts gX3_lookThrough_X3_howMany rfl rfl rfl q_X3_howMany ⟨Nat.le_of_ble_eq_true rfl, Nat.le_of_ble_eq_true rfl⟩) ⟨hx, hb, hml, hown, hts⟩ hE hP hD hS hA [0, 1, 2, 3, 4, 5, 6, 7] rfl rfl rfl rfl 3 0 rfl rfl rfl rfl hl.1 rfl rfl (Nat.le_of_ble_eq_true rfl) dX3_lookThrough_23 (fun H locs hP hD hS => ?_)
  refine lv_istore_n (lv' := [(3, .int x103), (0, .ref s0), (1, .ref i0), (2, .int a1)]) hx hb dX3_lookThrough_26 rfl hl (by decide) rfl (fun ls hl => ?_)
  refine lv_iconst (v := (0 : Int32)) hx hb dX3_lookThrough_27 (by decide) ?_
  refine lv_istore (lv' := [(4, .int (0 : Int32)), (3, .int x103), (0, .ref s0), (1, .ref i0), (2, .int a1)]) hx hb dX3_lookThrough_28 hl (by decide) rfl (fun ls hl => ?_)
  refine L30 _ _ _ _ _ _ _ _ _  hf hP hD hS (lv_sub hl [2, 1, 0] rfl) (fun S112 R113 H locs ls hf hP hD hS hl => ?_)
  obtain ⟨rfl, rfl⟩ := some_p2 hf
  rw [hQ]; exact Ct.vret hx hb hr hlocks hAe hP hD hS dX3_lookThrough_62
def fX6_isRain (a1 : Int32) (a2 : Int32) : Option (Int32) := o1 (fX6_isWithin a1 (0 : Int32) (3 : Int32)) (fun x101 => if x101 = 0 then (some (0 : Int32)) else (o1 (fX6_isWithin a2 (0 : Int32) (9 : Int32)) (fun x102 => if x102 = 0 then (some (0 : Int32)) else (some (1 : Int32)))))
theorem q_X6_isRain : yX6_isRain.cls = RX6 ∧ yX6_isRain.cls ≠ "java/lang/invoke/MethodHandle" ∧ yX6_isRain.cls ≠ "java/lang/invoke/VarHandle" ∧ (parseMethodDescriptor yX6_isRain.desc).map (fun d => d.parameters.length) = some 2 := by decide +kernel
set_option maxHeartbeats 4000000 in
set_option maxRecDepth 100000 in
theorem c_X6_isRain (l : Launch) (g : gG) (a1 : Int32) (a2 : Int32) {r : Int32} (hf : fX6_isRain a1 a2 = some r) : Ct l yX6_isRain wsX6_isRain (rmm 1 22) g (wNil g  ) (wNil g  ) [.int a1, .int a2] (some (.int r)) := by
  refine Ct.mk (by decide) rfl (Nat.le_of_ble_eq_true rfl) ?_
  intro p e s m args below meth c A ls hx hb hr hml hts hown hlocks hA hE hP hD hS hl hAe
  obtain ⟨Qx, hQ⟩ : ∃ Qx : State → Prop, Qx = MQ below (QcG g (wNil g  ) (wNil g  ) (some (.int r)) s.heap.size) args s 0 0 A := ⟨_, rfl⟩
  rw [← hQ]
  have hown : s.vm.findClass RX6 = some m.cls := hown
  have hl : lv_has ls 2 [(0, .int a1), (1, .int a2)] := hl
  unfold fX6_isRain at hf
  refine lv_iload_n hx hb dX6_isRain_0 rfl (lv_at hl 0 rfl) ?_
  refine lv_iconst (v := (0 : Int32)) hx hb dX6_isRain_1 (by decide) ?_
  refine lv_iconst (v := (3 : Int32)) hx hb dX6_isRain_2 (by decide) ?_
  obtain ⟨x101, hg, hf⟩ := o1_s hf
  refine Ct.callS (ws' := wNil g  ) (As := [.int a1, .int (0 : Int32), .int (3 : Int32)]) (rest := []) (st1 := [.int x101]) (c_X6_isWithin l g a1 (0 : Int32) (3 : Int32) hg) (va_cwS 3 hts gX6_isRain_X6_isWithin rfl rfl rfl q_X6_isWithin.2 ⟨Nat.le_of_ble_eq_true rfl, Nat.le_of_ble_eq_true rfl⟩) ⟨hx, hb, hml, hown, hts⟩ hE hP hD hS hA [] rfl rfl rfl rfl rfl hl.1 rfl rfl (Nat.le_of_ble_eq_true rfl) dX6_isRain_3 (fun H locs hP hD hS => ?_)
  refine lv_if_eq (tgt := 23) hx hb dX6_isRain_6 (by decide) (fun hc => ?_) (fun hc => ?_)
  · have hf := if_t hf hc
    refine lv_iconst (v := (0 : Int32)) hx hb dX6_isRain_23 (by decide) ?_
    obtain rfl := Option.some.inj hf
    rw [hQ]; exact Ct.zret hx hb hr (by decide) hlocks hAe hP hD hS dX6_isRain_24
  · have hf := if_f hf hc
    refine lv_iload_n hx hb dX6_isRain_9 rfl (lv_at hl 1 rfl) ?_
    refine lv_iconst (v := (0 : Int32)) hx hb dX6_isRain_10 (by decide) ?_
    refine lv_bipush (v := (9 : Int32)) hx hb dX6_isRain_11 (by decide) ?_
    obtain ⟨x102, hg, hf⟩ := o1_s hf
    refine Ct.callS (ws' := wNil g  ) (As := [.int a2, .int (0 : Int32), .int (9 : Int32)]) (rest := []) (st1 := [.int x102]) (c_X6_isWithin l g a2 (0 : Int32) (9 : Int32) hg) (va_cwS 3 hts gX6_isRain_X6_isWithin rfl rfl rfl q_X6_isWithin.2 ⟨Nat.le_of_ble_eq_true rfl, Nat.le_of_ble_eq_true rfl⟩) ⟨hx, hb, hml, hown, hts⟩ hE hP hD hS hA [] rfl rfl rfl rfl rfl hl.1 rfl rfl (Nat.le_of_ble_eq_true rfl) dX6_isRain_13 (fun H locs hP hD hS => ?_)
    refine lv_if_eq (tgt := 23) hx hb dX6_isRain_16 (by decide) (fun hc => ?_) (fun hc => ?_)
    · have hf := if_t hf hc
      refine lv_iconst (v := (0 : Int32)) hx hb dX6_isRain_23 (by decide) ?_
      obtain rfl := Option.some.inj hf
      rw [hQ]; exact Ct.zret hx hb hr (by decide) hlocks hAe hP hD hS dX6_isRain_24
    · have hf := if_f hf hc
      refine lv_iconst (v := (1 : Int32)) hx hb dX6_isRain_19 (by decide) ?_
      refine lv_goto (tgt := 24) hx hb dX6_isRain_20 (by decide) ?_
      obtain rfl := Option.some.inj hf
      rw [hQ]; exact Ct.zret hx hb hr (by decide) hlocks hAe hP hD hS dX6_isRain_24
def fX6_mostRight (a1 : Int32) : Option (Int32) := if a1 = (4 : Int32) then (some (40 : Int32)) else (some (7 : Int32))
theorem q_X6_mostRight : yX6_mostRight.cls = RX6 ∧ yX6_mostRight.cls ≠ "java/lang/invoke/MethodHandle" ∧ yX6_mostRight.cls ≠ "java/lang/invoke/VarHandle" ∧ (parseMethodDescriptor yX6_mostRight.desc).map (fun d => d.parameters.length) = some 1 := by decide +kernel
set_option maxHeartbeats 4000000 in
set_option maxRecDepth 100000 in
theorem c_X6_mostRight (l : Launch) (g : gG) (a1 : Int32) {r : Int32} (hf : fX6_mostRight a1 = some r) : Ct l yX6_mostRight wsX6_mostRight (rmm 0 0) g (wNil g  ) (wNil g  ) [.int a1] (some (.int r)) := by
  refine Ct.mk (by decide) rfl (Nat.le_of_ble_eq_true rfl) ?_
  intro p e s m args below meth c A ls hx hb hr hml hts hown hlocks hA hE hP hD hS hl hAe
  obtain ⟨Qx, hQ⟩ : ∃ Qx : State → Prop, Qx = MQ below (QcG g (wNil g  ) (wNil g  ) (some (.int r)) s.heap.size) args s 0 0 A := ⟨_, rfl⟩
  rw [← hQ]
  have hown : s.vm.findClass RX6 = some m.cls := hown
  have hl : lv_has ls 1 [(0, .int a1)] := hl
  unfold fX6_mostRight at hf
  refine lv_iload_n hx hb dX6_mostRight_0 rfl (lv_at hl 0 rfl) ?_
  refine lv_iconst (v := (4 : Int32)) hx hb dX6_mostRight_1 (by decide) ?_
  refine lv_icmp_ne (tgt := 10) hx hb dX6_mostRight_2 (by decide) (fun hc => ?_) (fun hc => ?_)
  · have hf := if_f hf hc
    refine lv_bipush (v := (7 : Int32)) hx hb dX6_mostRight_10 (by decide) ?_
    obtain rfl := Option.some.inj hf
    rw [hQ]; exact Ct.iret hx hb hr hlocks hAe hP hD hS dX6_mostRight_12
  · have hf := if_t hf hc
    refine lv_bipush (v := (40 : Int32)) hx hb dX6_mostRight_5 (by decide) ?_
    refine lv_goto (tgt := 12) hx hb dX6_mostRight_7 (by decide) ?_
    obtain rfl := Option.some.inj hf
    rw [hQ]; exact Ct.iret hx hb hr hlocks hAe hP hD hS dX6_mostRight_12
