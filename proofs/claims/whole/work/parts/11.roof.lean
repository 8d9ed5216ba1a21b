def fX1_get (R : Rf) (a1 : Int32) (a2 : Int32) : Option (Int32) := if ((a1 * (11 : Int32)) + a2) < 0 then (some (0 : Int32)) else (if (88 : Int32) ≤ ((a1 * (11 : Int32)) + a2) then (some (0 : Int32)) else (rd R.1 88 ((a1 * (11 : Int32)) + a2) (fun x101 => some x101)))
theorem q_X1_get : yX1_get.cls = RX1 ∧ yX1_get.cls ≠ "java/lang/invoke/MethodHandle" ∧ yX1_get.cls ≠ "java/lang/invoke/VarHandle" ∧ (parseMethodDescriptor yX1_get.desc).map (fun d => d.parameters.length) = some 2 := by decide +kernel
theorem i_X1_get_X1 : ∀ w ∈ u_ws RX1 TX1 9, w ∈ wsX1_get := fun _ h => List.mem_cons_of_mem _ (List.mem_append_right _ (h))
set_option maxHeartbeats 4000000 in
set_option maxRecDepth 100000 in
theorem c_X1_get (l : Launch) (g : gG) (h0 h1 h2 h3 : Nat) (R : Rf) (a1 : Int32) (a2 : Int32) {r : Int32} (hf : fX1_get R a1 a2 = some r) : Ct l yX1_get wsX1_get (rmm 0 0) g (wRf g h0 h1 h2 h3 R) (wRf g h0 h1 h2 h3 R) [.ref h0, .int a1, .int a2] (some (.int r)) := by
  refine Ct.mk (by decide) rfl (Nat.le_of_ble_eq_true rfl) ?_
  intro p e s m args below meth c A ls hx hb hr hml hts hown hlocks hA hE hP hD hS hl hAe
  have hown : s.vm.findClass RX1 = some m.cls := hown
  have hl : lv_has ls 4 [(0, .ref h0), (1, .int a1), (2, .int a2)] := hl
  have w1 := hts (.fieldLink RX1 9 "RainVault$Roof" "facts" "[I") (List.mem_of_getElem? (i := 1) rfl)
  unfold fX1_get at hf
  refine lv_iload_n hx hb dX1_get_0 rfl (lv_at hl 1 rfl) ?_
  refine lv_bipush (v := (11 : Int32)) hx hb dX1_get_1 (by decide) ?_
  refine lv_imul hx hb dX1_get_3 ?_
  refine lv_iload_n hx hb dX1_get_4 rfl (lv_at hl 2 rfl) ?_
  refine lv_iadd hx hb dX1_get_5 ?_
  refine lv_istore_n (lv' := [(3, .int ((a1 * (11 : Int32)) + a2)), (0, .ref h0), (1, .int a1), (2, .int a2)]) hx hb dX1_get_6 rfl hl (by decide) rfl (fun ls hl => ?_)
  refine lv_iload_n hx hb dX1_get_7 rfl (lv_at hl 0 rfl) ?_
  refine lv_if_lt (tgt := 29) hx hb dX1_get_8 (by decide) (fun hc => ?_) (fun hc => ?_)
  · have hf := if_t hf hc
    refine lv_iconst (v := (0 : Int32)) hx hb dX1_get_29 (by decide) ?_
    cases hf
    exact Ct.iret hx hb hr hlocks hAe hP hD hS dX1_get_30
  · have hf := if_f hf hc
    refine lv_iload_n hx hb dX1_get_11 rfl (lv_at hl 0 rfl) ?_
    refine lv_aload_n hx hb dX1_get_12 rfl (lv_at hl 1 rfl) ?_
    refine va_get (D := g.1) (ci := 1) (v := .ref h1) (C := RX1) (T := TX1) (N := 9) hx hb hts i_X1_get_X1 hown hE.1 hP 0 rfl rfl 0 (by decide) w1 (fun _ h9 => h9) rfl dX1_get_13 ?_
    refine va_alen (v := (88 : Int32)) hx hb hE.1 hP 1 0 rfl rfl (show Int32.ofNat 88 = (88 : Int32) by decide) dX1_get_16 ?_
    refine lv_icmp_ge (tgt := 29) hx hb dX1_get_17 (by decide) (fun hc => ?_) (fun hc => ?_)
    · have hf := if_t hf hc
      refine lv_iconst (v := (0 : Int32)) hx hb dX1_get_29 (by decide) ?_
      cases hf
      exact Ct.iret hx hb hr hlocks hAe hP hD hS dX1_get_30
    · have hf := if_f hf hc
      refine lv_aload_n hx hb dX1_get_20 rfl (lv_at hl 1 rfl) ?_
      refine va_get (D := g.1) (ci := 1) (v := .ref h1) (C := RX1) (T := TX1) (N := 9) hx hb hts i_X1_get_X1 hown hE.1 hP 0 rfl rfl 0 (by decide) w1 (fun _ h9 => h9) rfl dX1_get_21 ?_
      refine lv_iload_n hx hb dX1_get_24 rfl (lv_at hl 0 rfl) ?_
      obtain ⟨x101, ex, hin, hf⟩ := rd_s hf
      refine st_iald (f := R.1) hx hb hE.1 hP 1 0 rfl rfl hin ex dX1_get_25 ?_
      refine lv_goto (tgt := 30) hx hb dX1_get_26 (by decide) ?_
      cases hf
      exact Ct.iret hx hb hr hlocks hAe hP hD hS dX1_get_30
def fX6_put (n : Nat) (f : Nat → Int32) (a1 : Int32) (a2 : Int32) : Option ((Nat → Int32)) := if a1 < 0 then (some f) else (if (Int32.ofNat n) ≤ a1 then (some f) else (wr f n a1 a2 (fun f101 => some f101)))
theorem q_X6_put : yX6_put.cls = RX6 ∧ yX6_put.cls ≠ "java/lang/invoke/MethodHandle" ∧ yX6_put.cls ≠ "java/lang/invoke/VarHandle" ∧ (parseMethodDescriptor yX6_put.desc).map (fun d => d.parameters.length) = some 3 := by decide +kernel
set_option maxHeartbeats 4000000 in
set_option maxRecDepth 100000 in
theorem c_X6_put (l : Launch) (g : gG) (a0 : Nat) (n : Nat) (f : Nat → Int32) (a1 : Int32) (a2 : Int32) {f' : Nat → Int32} (hf : fX6_put n f a1 a2 = some f') : Ct l yX6_put wsX6_put (rmm 0 0) g (wRow g a0 n f) (wRow g a0 n (f')) [.ref a0, .int a1, .int a2] none := by
  refine Ct.mk (by decide) rfl (Nat.le_of_ble_eq_true rfl) ?_
  intro p e s m args below meth c A ls hx hb hr hml hts hown hlocks hA hE hP hD hS hl hAe
  have hown : s.vm.findClass RX6 = some m.cls := hown
  have hl : lv_has ls 3 [(0, .ref a0), (1, .int a1), (2, .int a2)] := hl
  unfold fX6_put at hf
  refine lv_iload_n hx hb dX6_put_0 rfl (lv_at hl 1 rfl) ?_
  refine lv_if_lt (tgt := 14) hx hb dX6_put_1 (by decide) (fun hc => ?_) (fun hc => ?_)
  · have hf := if_t hf hc
    cases hf
    exact Ct.vret hx hb hr hlocks hAe hP hD hS dX6_put_14
  · have hf := if_f hf hc
    refine lv_iload_n hx hb dX6_put_4 rfl (lv_at hl 1 rfl) ?_
    refine lv_aload_n hx hb dX6_put_5 rfl (lv_at hl 0 rfl) ?_
    refine va_alen (v := Int32.ofNat n) hx hb hE.1 hP 0 0 rfl rfl rfl dX6_put_6 ?_
    refine lv_icmp_ge (tgt := 14) hx hb dX6_put_7 (by decide) (fun hc => ?_) (fun hc => ?_)
    · have hf := if_t hf hc
      cases hf
      exact Ct.vret hx hb hr hlocks hAe hP hD hS dX6_put_14
    · have hf := if_f hf hc
      refine lv_aload_n hx hb dX6_put_10 rfl (lv_at hl 0 rfl) ?_
      refine lv_iload_n hx hb dX6_put_11 rfl (lv_at hl 1 rfl) ?_
      refine lv_iload_n hx hb dX6_put_12 rfl (lv_at hl 2 rfl) ?_
      obtain ⟨f101, ef, hin, hf⟩ := wr_s hf
      refine st_iast (ws' := wRow g a0 n f101) (f := f) (f2 := f101) hx hb hE.1 hP hD hS 0 0 rfl rfl hin ef rfl dX6_put_13 (fun H locs hP hD hS => ?_)
      cases hf
      exact Ct.vret hx hb hr hlocks hAe hP hD hS dX6_put_14
def fX1_keepLevels_L2 (R : Rf) (n : Nat) (x2 : Int32) (kx : (Nat → Int32) → Option ((Nat → Int32))) : Nat → (Nat → Int32) → Int32 → Option ((Nat → Int32))
  | 0, _, _ => none
  | k + 1, f, x3 => if R.2.2.2.1 ≤ x3 then (kx f) else (o1 (fX1_get R x3 (2 : Int32)) (fun x103 => o1 (fX6_put n f (x2 + x3) x103) (fun f104 => fX1_keepLevels_L2 R n x2 kx k f104 (x3 + (1 : Int32)))))
def fX1_keepLevels (R : Rf) (n : Nat) (f : Nat → Int32) (a1 : Int32) : Option ((Nat → Int32)) := fX1_keepLevels_L2 R n a1 (fun f105 => some f105) fu f (0 : Int32)
theorem q_X1_keepLevels : yX1_keepLevels.cls = RX1 ∧ yX1_keepLevels.cls ≠ "java/lang/invoke/MethodHandle" ∧ yX1_keepLevels.cls ≠ "java/lang/invoke/VarHandle" ∧ (parseMethodDescriptor yX1_keepLevels.desc).map (fun d => d.parameters.length) = some 2 := by decide +kernel
theorem i_X1_keepLevels_X1 : ∀ w ∈ u_ws RX1 TX1 9, w ∈ wsX1_keepLevels := fun _ h => List.mem_cons_of_mem _ (List.mem_append_right _ (h))
set_option maxHeartbeats 4000000 in
set_option maxRecDepth 100000 in
theorem c_X1_keepLevels (l : Launch) (g : gG) (h0 h1 h2 h3 a0 : Nat) (R : Rf) (n : Nat) (f : Nat → Int32) (a1 : Int32) {f' : Nat → Int32} (hf : fX1_keepLevels R n f a1 = some f') : Ct l yX1_keepLevels wsX1_keepLevels (rmm 1 23) g (wRfRow g h0 h1 h2 h3 a0 R n f) (wRfRow g h0 h1 h2 h3 a0 R n (f')) [.ref h0, .ref a0, .int a1] none := by
  refine Ct.mk (by decide) rfl (Nat.le_of_ble_eq_true rfl) ?_
  intro p e s m args below meth c A ls hx hb hr hml hts hown hlocks hA hE hP hD hS hl hAe
  have hown : s.vm.findClass RX1 = some m.cls := hown
  have hl : lv_has ls 4 [(0, .ref h0), (1, .ref a0), (2, .int a1)] := hl
  have w1 := hts (.fieldLink RX1 21 "RainVault$Roof" "cisterns" "I") (List.mem_of_getElem? (i := 1) rfl)
  have w2 := hts (.initialized RX6) (List.mem_of_getElem? (i := 9) rfl)
  have w3 := hts (.static yX6_put) (List.mem_of_getElem? (i := 8) rfl)
  have L2 : ∀ (x2 : Int32) (kx : (Nat → Int32) → Option ((Nat → Int32))) (k : Nat) (f : Nat → Int32) (x3 : Int32) (H : Heap) (locs : List Loc) (ls : Array Slot), fX1_keepLevels_L2 R n x2 kx k f x3 = some f' → va_P g.1 vwK (wRfRow g h0 h1 h2 h3 a0 R n f) H → va_D A (wRfRow g h0 h1 h2 h3 a0 R n f) → va_S A s.heap H locs → lv_has ls 4 [(0, .ref h0), (1, .ref a0), (2, .int x2), (3, .int x3)] → (∀ (f : Nat → Int32) (H : Heap) (locs : List Loc) (ls : Array Slot), kx f = some f' → va_P g.1 vwK (wRfRow g h0 h1 h2 h3 a0 R n f) H → va_D A (wRfRow g h0 h1 h2 h3 a0 R n f) → va_S A s.heap H locs → lv_has ls 4 [] → W p l e (rmm 1 23) s m args below meth c H locs 0 0 (MQ below (QcG g (wRfRow g h0 h1 h2 h3 a0 R n f) (wRfRow g h0 h1 h2 h3 a0 R n (f')) none s.heap.size) args s 0 0 A) (F0 m 29 ls [])) → W p l e (rmm 1 23) s m args below meth c H locs 0 0 (MQ below (QcG g (wRfRow g h0 h1 h2 h3 a0 R n f) (wRfRow g h0 h1 h2 h3 a0 R n (f')) none s.heap.size) args s 0 0 A) (F0 m 2 ls []) := by
    intro x2 kx k
    induction k with
    | zero => intro f x3 H locs ls hf; exact nomatch (show (none : Option ((Nat → Int32))) = some _ from hf)
    | succ k ih =>
      intro f x3 H locs ls hf hP hD hS hl hk
      rw [fX1_keepLevels_L2] at hf
      refine lv_iload_n hx hb dX1_keepLevels_2 rfl (lv_at hl 3 rfl) ?_
      refine lv_aload_n hx hb dX1_keepLevels_3 rfl (lv_at hl 0 rfl) ?_
      refine va_get (D := g.1) (ci := 1) (v := .int R.2.2.2.1) (C := RX1) (T := TX1) (N := 9) hx hb hts i_X1_keepLevels_X1 hown hE.1 hP 0 rfl rfl 3 (by decide) w1 (fun _ h9 => h9) rfl dX1_keepLevels_4 ?_
      refine lv_icmp_ge (tgt := 29) hx hb dX1_keepLevels_7 (by decide) (fun hc => ?_) (fun hc => ?_)
      · have hf := if_t hf hc
        exact hk _ _ _ _  hf hP hD hS (lv_sub hl [] rfl)
      · have hf := if_f hf hc
        refine lv_aload_n hx hb dX1_keepLevels_10 rfl (lv_at hl 1 rfl) ?_
        refine lv_iload_n hx hb dX1_keepLevels_11 rfl (lv_at hl 2 rfl) ?_
        refine lv_iload_n hx hb dX1_keepLevels_12 rfl (lv_at hl 3 rfl) ?_
        refine lv_iadd hx hb dX1_keepLevels_13 ?_
        refine lv_aload_n hx hb dX1_keepLevels_14 rfl (lv_at hl 0 rfl) ?_
        refine lv_iload_n hx hb dX1_keepLevels_15 rfl (lv_at hl 3 rfl) ?_
        refine lv_iconst (v := (2 : Int32)) hx hb dX1_keepLevels_16 (by decide) ?_
        obtain ⟨x103, hg, hf⟩ := o1_s hf
        refine Ct.callV (ws' := wRfRow g h0 h1 h2 h3 a0 R n f) (As := [.int x3, .int (2 : Int32)]) (rest := [.int (x2 + x3), .ref a0]) (st1 := [.int x103, .int (x2 + x3), .ref a0]) (c_X1_get l g h0 h1 h2 h3 R x3 (2 : Int32) hg) (cwV 2 hts gX1_keepLevels_X1_get rfl rfl rfl q_X1_get ⟨Nat.le_of_ble_eq_true rfl, Nat.le_of_ble_eq_true rfl⟩) ⟨hx, hb, hml, hown, hts⟩ hE hP hD hS hA [0, 1, 2, 3] rfl rfl rfl rfl 1 0 rfl rfl rfl rfl hl.1 rfl rfl (Nat.le_of_ble_eq_true rfl) dX1_keepLevels_17 (fun H locs hP hD hS => ?_)
        obtain ⟨f104, hg, hf⟩ := o1_s hf
        refine Ct.callSN (ws' := wRfRow g h0 h1 h2 h3 a0 R n f104) (As := [.ref a0, .int (x2 + x3), .int x103]) (rest := []) (st1 := []) (c_X6_put l g a0 n f (x2 + x3) x103 hg) (⟨va_cnB 3 hts gX1_keepLevels_X6_put_n126 rfl rfl rfl (hE.2.1 _ (List.mem_of_getElem? (i := 28) rfl)) w2 q_X6_put.2 ⟨Nat.le_of_ble_eq_true rfl, Nat.le_of_ble_eq_true rfl⟩, w3, trivial⟩) ⟨hx, hb, hml, hown, hts⟩ hE hP hD hS hA [4] rfl rfl rfl rfl rfl hl.1 rfl rfl (Nat.le_of_ble_eq_true rfl) dX1_keepLevels_20 (fun H locs hP hD hS => ?_)
        refine lv_iinc (v := (x3 + (1 : Int32))) (lv' := [(3, .int (x3 + (1 : Int32))), (0, .ref h0), (1, .ref a0), (2, .int x2)]) hx hb dX1_keepLevels_23 hl (k := 3) rfl rfl (by decide) rfl (fun ls hl => ?_)
        refine lv_goto (tgt := 2) hx hb dX1_keepLevels_26 (by decide) ?_
        exact ih _ _ _ _ _  hf hP hD hS (lv_sub hl [1, 2, 3, 0] rfl) hk
  unfold fX1_keepLevels at hf
  refine lv_iconst (v := (0 : Int32)) hx hb dX1_keepLevels_0 (by decide) ?_
  refine lv_istore_n (lv' := [(3, .int (0 : Int32)), (0, .ref h0), (1, .ref a0), (2, .int a1)]) hx hb dX1_keepLevels_1 rfl hl (by decide) rfl (fun ls hl => ?_)
  refine L2 _ _ _ _ _ _ _ _  hf hP hD hS (lv_sub hl [1, 2, 3, 0] rfl) (fun f105 H locs ls hf hP hD hS hl => ?_)
  cases hf
  exact Ct.vret hx hb hr hlocks hAe hP hD hS dX1_keepLevels_29
def fX0_beginWays_L2 (kx : Ca → Option (Ca)) : Nat → Ca → Int32 → Option (Ca)
  | 0, _, _ => none
  | k + 1, C, x1 => if (4 : Int32) ≤ x1 then (kx C) else (wr C.2 4 x1 (0 : Int32) (fun f102 => fX0_beginWays_L2 kx k (C.1, f102) (x1 + (1 : Int32))))
def fX0_beginWays (C : Ca) : Option (Ca) := fX0_beginWays_L2 (fun C103 => some C103) fu C (0 : Int32)
theorem q_X0_beginWays : yX0_beginWays.cls = RX0 ∧ yX0_beginWays.cls ≠ "java/lang/invoke/MethodHandle" ∧ yX0_beginWays.cls ≠ "java/lang/invoke/VarHandle" ∧ (parseMethodDescriptor yX0_beginWays.desc).map (fun d => d.parameters.length) = some 0 := by decide +kernel
theorem i_X0_beginWays_X0 : ∀ w ∈ u_ws RX0 TX0 3, w ∈ wsX0_beginWays := fun _ h => List.mem_cons_of_mem _ (List.mem_append_right _ (h))
set_option maxHeartbeats 4000000 in
set_option maxRecDepth 100000 in
theorem c_X0_beginWays (l : Launch) (g : gG) (c0 c1 c2 h0 h1 h2 h3 : Nat) (C : Ca) (R : Rf) {C' : Ca} (hf : fX0_beginWays C = some C') : Ct l yX0_beginWays wsX0_beginWays (rmm 0 0) g (wCa g c0 c1 c2 h0 h1 h2 h3 C R) (wCa g c0 c1 c2 h0 h1 h2 h3 (C') R) [.ref c0] none := by
  refine Ct.mk (by decide) rfl (Nat.le_of_ble_eq_true rfl) ?_
  intro p e s m args below meth c A ls hx hb hr hml hts hown hlocks hA hE hP hD hS hl hAe
  have hown : s.vm.findClass RX0 = some m.cls := hown
  have hl : lv_has ls 2 [(0, .ref c0)] := hl
  have w1 := hts (.fieldLink RX0 15 "RainVault$Carrier" "way" "[I") (List.mem_of_getElem? (i := 1) rfl)
  have L2 : ∀ (kx : Ca → Option (Ca)) (k : Nat) (C : Ca) (x1 : Int32) (H : Heap) (locs : List Loc) (ls : Array Slot), fX0_beginWays_L2 kx k C x1 = some C' → va_P g.1 vwK (wCa g c0 c1 c2 h0 h1 h2 h3 C R) H → va_D A (wCa g c0 c1 c2 h0 h1 h2 h3 C R) → va_S A s.heap H locs → lv_has ls 2 [(0, .ref c0), (1, .int x1)] → (∀ (C : Ca) (H : Heap) (locs : List Loc) (ls : Array Slot), kx C = some C' → va_P g.1 vwK (wCa g c0 c1 c2 h0 h1 h2 h3 C R) H → va_D A (wCa g c0 c1 c2 h0 h1 h2 h3 C R) → va_S A s.heap H locs → lv_has ls 2 [] → W p l e (rmm 0 0) s m args below meth c H locs 0 0 (MQ below (QcG g (wCa g c0 c1 c2 h0 h1 h2 h3 C R) (wCa g c0 c1 c2 h0 h1 h2 h3 (C') R) none s.heap.size) args s 0 0 A) (F0 m 24 ls [])) → W p l e (rmm 0 0) s m args below meth c H locs 0 0 (MQ below (QcG g (wCa g c0 c1 c2 h0 h1 h2 h3 C R) (wCa g c0 c1 c2 h0 h1 h2 h3 (C') R) none s.heap.size) args s 0 0 A) (F0 m 2 ls []) := by
    intro kx k
    induction k with
    | zero => intro C x1 H locs ls hf; exact nomatch (show (none : Option (Ca)) = some _ from hf)
    | succ k ih =>
      intro C x1 H locs ls hf hP hD hS hl hk
      rw [fX0_beginWays_L2] at hf
      refine lv_iload_n hx hb dX0_beginWays_2 rfl (lv_at hl 1 rfl) ?_
      refine lv_aload_n hx hb dX0_beginWays_3 rfl (lv_at hl 0 rfl) ?_
      refine va_get (D := g.1) (ci := 0) (v := .ref c2) (C := RX0) (T := TX0) (N := 3) hx hb hts i_X0_beginWays_X0 hown hE.1 hP 0 rfl rfl 2 (by decide) w1 (fun _ h9 => h9) rfl dX0_beginWays_4 ?_
      refine va_alen (v := (4 : Int32)) hx hb hE.1 hP 2 0 rfl rfl (show Int32.ofNat 4 = (4 : Int32) by decide) dX0_beginWays_7 ?_
      refine lv_icmp_ge (tgt := 24) hx hb dX0_beginWays_8 (by decide) (fun hc => ?_) (fun hc => ?_)
      · have hf := if_t hf hc
        exact hk _ _ _ _  hf hP hD hS (lv_sub hl [] rfl)
      · have hf := if_f hf hc
        refine lv_aload_n hx hb dX0_beginWays_11 rfl (lv_at hl 0 rfl) ?_
        refine va_get (D := g.1) (ci := 0) (v := .ref c2) (C := RX0) (T := TX0) (N := 3) hx hb hts i_X0_beginWays_X0 hown hE.1 hP 0 rfl rfl 2 (by decide) w1 (fun _ h9 => h9) rfl dX0_beginWays_12 ?_
        refine lv_iload_n hx hb dX0_beginWays_15 rfl (lv_at hl 1 rfl) ?_
        refine lv_iconst (v := (0 : Int32)) hx hb dX0_beginWays_16 (by decide) ?_
        obtain ⟨f102, ef, hin, hf⟩ := wr_s hf
        refine st_iast (ws' := wCa g c0 c1 c2 h0 h1 h2 h3 (C.1, f102) R) (f := C.2) (f2 := f102) hx hb hE.1 hP hD hS 2 0 rfl rfl hin ef rfl dX0_beginWays_17 (fun H locs hP hD hS => ?_)
        refine lv_iinc (v := (x1 + (1 : Int32))) (lv' := [(1, .int (x1 + (1 : Int32))), (0, .ref c0)]) hx hb dX0_beginWays_18 hl (k := 1) rfl rfl (by decide) rfl (fun ls hl => ?_)
        refine lv_goto (tgt := 2) hx hb dX0_beginWays_21 (by decide) ?_
        exact ih _ _ _ _ _  hf hP hD hS (lv_sub hl [1, 0] rfl) hk
  unfold fX0_beginWays at hf
  refine lv_iconst (v := (0 : Int32)) hx hb dX0_beginWays_0 (by decide) ?_
  refine lv_istore_n (lv' := [(1, .int (0 : Int32)), (0, .ref c0)]) hx hb dX0_beginWays_1 rfl hl (by decide) rfl (fun ls hl => ?_)
  refine L2 _ _ _ _ _ _ _  hf hP hD hS (lv_sub hl [1, 0] rfl) (fun C103 H locs ls hf hP hD hS hl => ?_)
  cases hf
  exact Ct.vret hx hb hr hlocks hAe hP hD hS dX0_beginWays_24
def fX6_at (n : Nat) (f : Nat → Int32) (a1 : Int32) : Option (Int32) := if a1 < 0 then (some (0 : Int32)) else (if (Int32.ofNat n) ≤ a1 then (some (0 : Int32)) else (rd f n a1 (fun x101 => some x101)))
theorem q_X6_at : yX6_at.cls = RX6 ∧ yX6_at.cls ≠ "java/lang/invoke/MethodHandle" ∧ yX6_at.cls ≠ "java/lang/invoke/VarHandle" ∧ (parseMethodDescriptor yX6_at.desc).map (fun d => d.parameters.length) = some 2 := by decide +kernel
set_option maxHeartbeats 4000000 in
set_option maxRecDepth 100000 in
theorem c_X6_at (l : Launch) (g : gG) (a0 : Nat) (n : Nat) (f : Nat → Int32) (a1 : Int32) {r : Int32} (hf : fX6_at n f a1 = some r) : Ct l yX6_at wsX6_at (rmm 0 0) g (wRow g a0 n f) (wRow g a0 n f) [.ref a0, .int a1] (some (.int r)) := by
  refine Ct.mk (by decide) rfl (Nat.le_of_ble_eq_true rfl) ?_
  intro p e s m args below meth c A ls hx hb hr hml hts hown hlocks hA hE hP hD hS hl hAe
  have hown : s.vm.findClass RX6 = some m.cls := hown
  have hl : lv_has ls 2 [(0, .ref a0), (1, .int a1)] := hl
  unfold fX6_at at hf
  refine lv_iload_n hx hb dX6_at_0 rfl (lv_at hl 1 rfl) ?_
  refine lv_if_lt (tgt := 16) hx hb dX6_at_1 (by decide) (fun hc => ?_) (fun hc => ?_)
  · have hf := if_t hf hc
    refine lv_iconst (v := (0 : Int32)) hx hb dX6_at_16 (by decide) ?_
    cases hf
    exact Ct.iret hx hb hr hlocks hAe hP hD hS dX6_at_17
  · have hf := if_f hf hc
    refine lv_iload_n hx hb dX6_at_4 rfl (lv_at hl 1 rfl) ?_
    refine lv_aload_n hx hb dX6_at_5 rfl (lv_at hl 0 rfl) ?_
    refine va_alen (v := Int32.ofNat n) hx hb hE.1 hP 0 0 rfl rfl rfl dX6_at_6 ?_
    refine lv_icmp_ge (tgt := 16) hx hb dX6_at_7 (by decide) (fun hc => ?_) (fun hc => ?_)
    · have hf := if_t hf hc
      refine lv_iconst (v := (0 : Int32)) hx hb dX6_at_16 (by decide) ?_
      cases hf
      exact Ct.iret hx hb hr hlocks hAe hP hD hS dX6_at_17
    · have hf := if_f hf hc
      refine lv_aload_n hx hb dX6_at_10 rfl (lv_at hl 0 rfl) ?_
      refine lv_iload_n hx hb dX6_at_11 rfl (lv_at hl 1 rfl) ?_
      obtain ⟨x101, ex, hin, hf⟩ := rd_s hf
      refine st_iald (f := f) hx hb hE.1 hP 0 0 rfl rfl hin ex dX6_at_12 ?_
      refine lv_goto (tgt := 17) hx hb dX6_at_13 (by decide) ?_
      cases hf
      exact Ct.iret hx hb hr hlocks hAe hP hD hS dX6_at_17
def fX6_at_K0 (a1 : Int32) : Option (Int32) := if a1 < 0 then (some (0 : Int32)) else (if (11 : Int32) ≤ a1 then (some (0 : Int32)) else (rd kLeast 11 a1 (fun x101 => some x101)))
set_option maxHeartbeats 4000000 in
set_option maxRecDepth 100000 in
theorem c_X6_at_K0 (l : Launch) (g : gG) (a1 : Int32) {r : Int32} (hf : fX6_at_K0 a1 = some r) : Ct l yX6_at wsX6_at (rmm 0 0) g (wNil g  ) (wNil g  ) [.ref (g.2.2 0), .int a1] (some (.int r)) := by
  refine Ct.mk (by decide) rfl (Nat.le_of_ble_eq_true rfl) ?_
  intro p e s m args below meth c A ls hx hb hr hml hts hown hlocks hA hE hP hD hS hl hAe
  have hown : s.vm.findClass RX6 = some m.cls := hown
  have hl : lv_has ls 2 [(0, .ref (g.2.2 0)), (1, .int a1)] := hl
  unfold fX6_at_K0 at hf
  refine lv_iload_n hx hb dX6_at_0 rfl (lv_at hl 1 rfl) ?_
  refine lv_if_lt (tgt := 16) hx hb dX6_at_1 (by decide) (fun hc => ?_) (fun hc => ?_)
  · have hf := if_t hf hc
    refine lv_iconst (v := (0 : Int32)) hx hb dX6_at_16 (by decide) ?_
    cases hf
    exact Ct.iret hx hb hr hlocks hAe hP hD hS dX6_at_17
  · have hf := if_f hf hc
    refine lv_iload_n hx hb dX6_at_4 rfl (lv_at hl 1 rfl) ?_
    refine lv_aload_n hx hb dX6_at_5 rfl (lv_at hl 0 rfl) ?_
    refine va_alen (v := (11 : Int32)) hx hb hE.1 (hE.wk hS) 0 0 rfl rfl (show Int32.ofNat 11 = (11 : Int32) by decide) dX6_at_6 ?_
    refine lv_icmp_ge (tgt := 16) hx hb dX6_at_7 (by decide) (fun hc => ?_) (fun hc => ?_)
    · have hf := if_t hf hc
      refine lv_iconst (v := (0 : Int32)) hx hb dX6_at_16 (by decide) ?_
      cases hf
      exact Ct.iret hx hb hr hlocks hAe hP hD hS dX6_at_17
    · have hf := if_f hf hc
      refine lv_aload_n hx hb dX6_at_10 rfl (lv_at hl 0 rfl) ?_
      refine lv_iload_n hx hb dX6_at_11 rfl (lv_at hl 1 rfl) ?_
      obtain ⟨x101, ex, hin, hf⟩ := rd_s hf
      refine st_iald (f := kLeast) hx hb hE.1 (hE.wk hS) 0 0 rfl rfl hin ex dX6_at_12 ?_
      refine lv_goto (tgt := 17) hx hb dX6_at_13 (by decide) ?_
      cases hf
      exact Ct.iret hx hb hr hlocks hAe hP hD hS dX6_at_17
def fX6_at_K1 (a1 : Int32) : Option (Int32) := if a1 < 0 then (some (0 : Int32)) else (if (11 : Int32) ≤ a1 then (some (0 : Int32)) else (rd kMost 11 a1 (fun x101 => some x101)))
set_option maxHeartbeats 4000000 in
set_option maxRecDepth 100000 in
theorem c_X6_at_K1 (l : Launch) (g : gG) (a1 : Int32) {r : Int32} (hf : fX6_at_K1 a1 = some r) : Ct l yX6_at wsX6_at (rmm 0 0) g (wNil g  ) (wNil g  ) [.ref (g.2.2 1), .int a1] (some (.int r)) := by
  refine Ct.mk (by decide) rfl (Nat.le_of_ble_eq_true rfl) ?_
  intro p e s m args below meth c A ls hx hb hr hml hts hown hlocks hA hE hP hD hS hl hAe
  have hown : s.vm.findClass RX6 = some m.cls := hown
  have hl : lv_has ls 2 [(0, .ref (g.2.2 1)), (1, .int a1)] := hl
  unfold fX6_at_K1 at hf
  refine lv_iload_n hx hb dX6_at_0 rfl (lv_at hl 1 rfl) ?_
  refine lv_if_lt (tgt := 16) hx hb dX6_at_1 (by decide) (fun hc => ?_) (fun hc => ?_)
  · have hf := if_t hf hc
    refine lv_iconst (v := (0 : Int32)) hx hb dX6_at_16 (by decide) ?_
    cases hf
    exact Ct.iret hx hb hr hlocks hAe hP hD hS dX6_at_17
  · have hf := if_f hf hc
    refine lv_iload_n hx hb dX6_at_4 rfl (lv_at hl 1 rfl) ?_
    refine lv_aload_n hx hb dX6_at_5 rfl (lv_at hl 0 rfl) ?_
    refine va_alen (v := (11 : Int32)) hx hb hE.1 (hE.wk hS) 1 0 rfl rfl (show Int32.ofNat 11 = (11 : Int32) by decide) dX6_at_6 ?_
    refine lv_icmp_ge (tgt := 16) hx hb dX6_at_7 (by decide) (fun hc => ?_) (fun hc => ?_)
    · have hf := if_t hf hc
      refine lv_iconst (v := (0 : Int32)) hx hb dX6_at_16 (by decide) ?_
      cases hf
      exact Ct.iret hx hb hr hlocks hAe hP hD hS dX6_at_17
    · have hf := if_f hf hc
      refine lv_aload_n hx hb dX6_at_10 rfl (lv_at hl 0 rfl) ?_
      refine lv_iload_n hx hb dX6_at_11 rfl (lv_at hl 1 rfl) ?_
      obtain ⟨x101, ex, hin, hf⟩ := rd_s hf
      refine st_iald (f := kMost) hx hb hE.1 (hE.wk hS) 1 0 rfl rfl hin ex dX6_at_12 ?_
      refine lv_goto (tgt := 17) hx hb dX6_at_13 (by decide) ?_
      cases hf
      exact Ct.iret hx hb hr hlocks hAe hP hD hS dX6_at_17
def fX6_copyRow_raw (n : Nat) (f : Nat → Int32) (f2 : Nat → Int32) : Option ((Nat → Int32)) := cp f f2 n n (0 : Int32) (0 : Int32) (if (Int32.ofNat n) < (Int32.ofNat n) then (Int32.ofNat n) else (Int32.ofNat n)) (fun f101 => some f101)
theorem q_X6_copyRow : yX6_copyRow.cls = RX6 ∧ yX6_copyRow.cls ≠ "java/lang/invoke/MethodHandle" ∧ yX6_copyRow.cls ≠ "java/lang/invoke/VarHandle" ∧ (parseMethodDescriptor yX6_copyRow.desc).map (fun d => d.parameters.length) = some 2 := by decide +kernel
set_option maxHeartbeats 4000000 in
set_option maxRecDepth 100000 in
theorem c_X6_copyRow_raw (l : Launch) (g : gG) (a0 a1 : Nat) (n : Nat) (f : Nat → Int32) (f2 : Nat → Int32) {f2' : Nat → Int32} (hf : fX6_copyRow_raw n f f2 = some f2') : Ct l yX6_copyRow wsX6_copyRow (rmm 1 60) g (wRow2 g a0 a1 n f f2) (wRow2 g a0 a1 n f (f2')) [.ref a0, .ref a1] none := by
  refine Ct.mk (by decide) rfl (Nat.le_of_ble_eq_true rfl) ?_
  intro p e s m args below meth c A ls hx hb hr hml hts hown hlocks hA hE hP hD hS hl hAe
  have hown : s.vm.findClass RX6 = some m.cls := hown
  have hl : lv_has ls 2 [(0, .ref a0), (1, .ref a1)] := hl
  have w1 := hts (.methodLink RX6 276 Lib.Math.min.name) (List.mem_of_getElem? (i := 1) rfl)
  have w2 := hts (.static Lib.Math.min.name) (List.mem_of_getElem? (i := 2) rfl)
  have w3 := hts (.initialized "java/lang/Math") (List.mem_of_getElem? (i := 3) rfl)
  have w4 := hts (.code Lib.Math.min.name Lib.Math.min.code 2 (some .int)) (List.mem_of_getElem? (i := 4) rfl)
  have w5 := hts (.methodLink RX6 252 arraycopyName) (List.mem_of_getElem? (i := 5) rfl)
  have w6 := hts (.native arraycopyName) (List.mem_of_getElem? (i := 6) rfl)
  have w7 := hts (.static arraycopyName) (List.mem_of_getElem? (i := 7) rfl)
  have w8 := hts (.initialized "java/lang/System") (List.mem_of_getElem? (i := 8) rfl)
  unfold fX6_copyRow_raw at hf
  refine lv_aload_n hx hb dX6_copyRow_0 rfl (lv_at hl 0 rfl) ?_
  refine lv_iconst (v := (0 : Int32)) hx hb dX6_copyRow_1 (by decide) ?_
  refine lv_aload_n hx hb dX6_copyRow_2 rfl (lv_at hl 1 rfl) ?_
  refine lv_iconst (v := (0 : Int32)) hx hb dX6_copyRow_3 (by decide) ?_
  refine lv_aload_n hx hb dX6_copyRow_4 rfl (lv_at hl 0 rfl) ?_
  refine va_alen (v := Int32.ofNat n) hx hb hE.1 hP 0 0 rfl rfl rfl dX6_copyRow_5 ?_
  refine lv_aload_n hx hb dX6_copyRow_6 rfl (lv_at hl 1 rfl) ?_
  refine va_alen (v := Int32.ofNat n) hx hb hE.1 hP 1 0 rfl rfl rfl dX6_copyRow_7 ?_
  refine va_mmin hx hb (hml.trans hl.1.symm) hown w1 w2 w3 w4 (Nat.le_of_ble_eq_true rfl) (Nat.le_of_ble_eq_true rfl) (Nat.zero_le _) (Nat.zero_le _) dX6_copyRow_8 ?_
  obtain ⟨f101, ef, hcp, hf⟩ := cp_s hf
  refine st_copy (ws' := wRow2 g a0 a1 n f f101) (f := f) (g := f2) (f2 := f101) hx hb (hml.trans hl.1.symm) hown w5 w6 w7 w8 hE.1 hP hD hS 0 1 0 rfl rfl rfl ef hcp rfl (Nat.le_of_ble_eq_true rfl) (Nat.le_of_ble_eq_true rfl) dX6_copyRow_11 (fun H locs hP hD hS => ?_)
  cases hf
  exact Ct.vret hx hb hr hlocks hAe hP hD hS dX6_copyRow_14
def fX6_copyRow (n : Nat) (f : Nat → Int32) : Option (Nat → Int32) := if n < 2147483648 then some f else none
theorem c_X6_copyRow (l : Launch) (g : gG) (a0 a1 : Nat) (n : Nat) (f f2 : Nat → Int32) {f2' : Nat → Int32} (hf : fX6_copyRow n f = some f2') : Ct l yX6_copyRow wsX6_copyRow (rmm 1 60) g (wRow2 g a0 a1 n f f2) (wRow2 g a0 a1 n f f2') [.ref a0, .ref a1] none := by
  unfold fX6_copyRow at hf
  by_cases hn : n < 2147483648
  · rw [if_pos hn] at hf
    cases hf
    have hc : (Int32.ofNat n).toNatClampNeg = n := Int32.toNatClampNeg_ofNat_of_lt hn
    have h0 : ¬ Int32.ofNat n < 0 := nI_pos hn
    refine (c_X6_copyRow_raw l g a0 a1 n f f2 (f2' := va_cpy f f2 0 0 n) ?_).conv (fun H hP k q hk => ?_) rfl
    · unfold fX6_copyRow_raw cp
      rw [show (if Int32.ofNat n < Int32.ofNat n then Int32.ofNat n else Int32.ofNat n) = Int32.ofNat n from ite_self _]
      rw [if_pos ⟨by decide, by decide, h0, by rw [hc]; simp, by rw [hc]; simp⟩, hc]
      rfl
    · match k, hk with
      | 0, hk => exact hP 0 q hk
      | 1, hk =>
        cases hk
        exact row_eq (f := va_cpy f f2 0 0 n) (fun j hj => by rw [pk_cpy_in (Nat.zero_le _) (by omega)]; congr 1; omega) (hP 1 _ rfl)
      | k + 2, hk => cases hk
  · rw [if_neg hn] at hf; cases hf
def fX1_set (R : Rf) (a1 : Int32) (a2 : Int32) (a3 : Int32) : Option (Rf) := if ((a1 * (11 : Int32)) + a2) < 0 then (some R) else (if (88 : Int32) ≤ ((a1 * (11 : Int32)) + a2) then (some R) else (wr R.1 88 ((a1 * (11 : Int32)) + a2) a3 (fun f101 => some (f101, R.2.1, R.2.2.1, R.2.2.2.1, R.2.2.2.2.1, R.2.2.2.2.2.1, R.2.2.2.2.2.2.1, R.2.2.2.2.2.2.2.1, R.2.2.2.2.2.2.2.2))))
theorem q_X1_set : yX1_set.cls = RX1 ∧ yX1_set.cls ≠ "java/lang/invoke/MethodHandle" ∧ yX1_set.cls ≠ "java/lang/invoke/VarHandle" ∧ (parseMethodDescriptor yX1_set.desc).map (fun d => d.parameters.length) = some 3 := by decide +kernel
theorem i_X1_set_X1 : ∀ w ∈ u_ws RX1 TX1 9, w ∈ wsX1_set := fun _ h => List.mem_cons_of_mem _ (List.mem_append_right _ (h))
set_option maxHeartbeats 4000000 in
set_option maxRecDepth 100000 in
theorem c_X1_set (l : Launch) (g : gG) (h0 h1 h2 h3 : Nat) (R : Rf) (a1 : Int32) (a2 : Int32) (a3 : Int32) {R' : Rf} (hf : fX1_set R a1 a2 a3 = some R') : Ct l yX1_set wsX1_set (rmm 0 0) g (wRf g h0 h1 h2 h3 R) (wRf g h0 h1 h2 h3 (R')) [.ref h0, .int a1, .int a2, .int a3] none := by
  refine Ct.mk (by decide) rfl (Nat.le_of_ble_eq_true rfl) ?_
  intro p e s m args below meth c A ls hx hb hr hml hts hown hlocks hA hE hP hD hS hl hAe
  have hown : s.vm.findClass RX1 = some m.cls := hown
  have hl : lv_has ls 5 [(0, .ref h0), (1, .int a1), (2, .int a2), (3, .int a3)] := hl
  have w1 := hts (.fieldLink RX1 9 "RainVault$Roof" "facts" "[I") (List.mem_of_getElem? (i := 1) rfl)
  unfold fX1_set at hf
  refine lv_iload_n hx hb dX1_set_0 rfl (lv_at hl 1 rfl) ?_
  refine lv_bipush (v := (11 : Int32)) hx hb dX1_set_1 (by decide) ?_
  refine lv_imul hx hb dX1_set_3 ?_
  refine lv_iload_n hx hb dX1_set_4 rfl (lv_at hl 2 rfl) ?_
  refine lv_iadd hx hb dX1_set_5 ?_
  refine lv_istore (lv' := [(4, .int ((a1 * (11 : Int32)) + a2)), (0, .ref h0), (1, .int a1), (2, .int a2), (3, .int a3)]) hx hb dX1_set_6 hl (by decide) rfl (fun ls hl => ?_)
  refine lv_iload hx hb dX1_set_8 (lv_at hl 0 rfl) ?_
  refine lv_if_lt (tgt := 31) hx hb dX1_set_10 (by decide) (fun hc => ?_) (fun hc => ?_)
  · have hf := if_t hf hc
    cases hf
    exact Ct.vret hx hb hr hlocks hAe hP hD hS dX1_set_31
  · have hf := if_f hf hc
    refine lv_iload hx hb dX1_set_13 (lv_at hl 0 rfl) ?_
    refine lv_aload_n hx hb dX1_set_15 rfl (lv_at hl 1 rfl) ?_
    refine va_get (D := g.1) (ci := 1) (v := .ref h1) (C := RX1) (T := TX1) (N := 9) hx hb hts i_X1_set_X1 hown hE.1 hP 0 rfl rfl 0 (by decide) w1 (fun _ h9 => h9) rfl dX1_set_16 ?_
    refine va_alen (v := (88 : Int32)) hx hb hE.1 hP 1 0 rfl rfl (show Int32.ofNat 88 = (88 : Int32) by decide) dX1_set_19 ?_
    refine lv_icmp_ge (tgt := 31) hx hb dX1_set_20 (by decide) (fun hc => ?_) (fun hc => ?_)
    · have hf := if_t hf hc
      cases hf
      exact Ct.vret hx hb hr hlocks hAe hP hD hS dX1_set_31
    · have hf := if_f hf hc
      refine lv_aload_n hx hb dX1_set_23 rfl (lv_at hl 1 rfl) ?_
      refine va_get (D := g.1) (ci := 1) (v := .ref h1) (C := RX1) (T := TX1) (N := 9) hx hb hts i_X1_set_X1 hown hE.1 hP 0 rfl rfl 0 (by decide) w1 (fun _ h9 => h9) rfl dX1_set_24 ?_
      refine lv_iload hx hb dX1_set_27 (lv_at hl 0 rfl) ?_
      refine lv_iload_n hx hb dX1_set_29 rfl (lv_at hl 4 rfl) ?_
      obtain ⟨f101, ef, hin, hf⟩ := wr_s hf
      refine st_iast (ws' := wRf g h0 h1 h2 h3 (f101, R.2.1, R.2.2.1, R.2.2.2.1, R.2.2.2.2.1, R.2.2.2.2.2.1, R.2.2.2.2.2.2.1, R.2.2.2.2.2.2.2.1, R.2.2.2.2.2.2.2.2)) (f := R.1) (f2 := f101) hx hb hE.1 hP hD hS 1 0 rfl rfl hin ef rfl dX1_set_30 (fun H locs hP hD hS => ?_)
      cases hf
      exact Ct.vret hx hb hr hlocks hAe hP hD hS dX1_set_31
def fX1_takeLevels_L2 (n : Nat) (f : Nat → Int32) (x2 : Int32) (kx : Rf → Option (Rf)) : Nat → Rf → Int32 → Option (Rf)
  | 0, _, _ => none
  | k + 1, R, x3 => if R.2.2.2.1 ≤ x3 then (kx R) else (o1 (fX6_at n f (x2 + x3)) (fun x103 => o1 (fX1_set R x3 (2 : Int32) x103) (fun R104 => fX1_takeLevels_L2 n f x2 kx k R104 (x3 + (1 : Int32)))))
def fX1_takeLevels (R : Rf) (n : Nat) (f : Nat → Int32) (a1 : Int32) : Option (Rf) := fX1_takeLevels_L2 n f a1 (fun R105 => some R105) fu R (0 : Int32)
theorem q_X1_takeLevels : yX1_takeLevels.cls = RX1 ∧ yX1_takeLevels.cls ≠ "java/lang/invoke/MethodHandle" ∧ yX1_takeLevels.cls ≠ "java/lang/invoke/VarHandle" ∧ (parseMethodDescriptor yX1_takeLevels.desc).map (fun d => d.parameters.length) = some 2 := by decide +kernel
theorem i_X1_takeLevels_X1 : ∀ w ∈ u_ws RX1 TX1 9, w ∈ wsX1_takeLevels := fun _ h => List.mem_cons_of_mem _ (List.mem_append_right _ (h))
set_option maxHeartbeats 4000000 in
set_option maxRecDepth 100000 in
theorem c_X1_takeLevels (l : Launch) (g : gG) (h0 h1 h2 h3 a0 : Nat) (R : Rf) (n : Nat) (f : Nat → Int32) (a1 : Int32) {R' : Rf} (hf : fX1_takeLevels R n f a1 = some R') : Ct l yX1_takeLevels wsX1_takeLevels (rmm 1 24) g (wRfRow g h0 h1 h2 h3 a0 R n f) (wRfRow g h0 h1 h2 h3 a0 (R') n f) [.ref h0, .ref a0, .int a1] none := by
  refine Ct.mk (by decide) rfl (Nat.le_of_ble_eq_true rfl) ?_
  intro p e s m args below meth c A ls hx hb hr hml hts hown hlocks hA hE hP hD hS hl hAe
  have hown : s.vm.findClass RX1 = some m.cls := hown
  have hl : lv_has ls 4 [(0, .ref h0), (1, .ref a0), (2, .int a1)] := hl
  have w1 := hts (.fieldLink RX1 21 "RainVault$Roof" "cisterns" "I") (List.mem_of_getElem? (i := 1) rfl)
  have w2 := hts (.initialized RX6) (List.mem_of_getElem? (i := 3) rfl)
  have w3 := hts (.static yX6_at) (List.mem_of_getElem? (i := 2) rfl)
  have L2 : ∀ (x2 : Int32) (kx : Rf → Option (Rf)) (k : Nat) (R : Rf) (x3 : Int32) (H : Heap) (locs : List Loc) (ls : Array Slot), fX1_takeLevels_L2 n f x2 kx k R x3 = some R' → va_P g.1 vwK (wRfRow g h0 h1 h2 h3 a0 R n f) H → va_D A (wRfRow g h0 h1 h2 h3 a0 R n f) → va_S A s.heap H locs → lv_has ls 4 [(0, .ref h0), (1, .ref a0), (2, .int x2), (3, .int x3)] → (∀ (R : Rf) (H : Heap) (locs : List Loc) (ls : Array Slot), kx R = some R' → va_P g.1 vwK (wRfRow g h0 h1 h2 h3 a0 R n f) H → va_D A (wRfRow g h0 h1 h2 h3 a0 R n f) → va_S A s.heap H locs → lv_has ls 4 [] → W p l e (rmm 1 24) s m args below meth c H locs 0 0 (MQ below (QcG g (wRfRow g h0 h1 h2 h3 a0 R n f) (wRfRow g h0 h1 h2 h3 a0 (R') n f) none s.heap.size) args s 0 0 A) (F0 m 29 ls [])) → W p l e (rmm 1 24) s m args below meth c H locs 0 0 (MQ below (QcG g (wRfRow g h0 h1 h2 h3 a0 R n f) (wRfRow g h0 h1 h2 h3 a0 (R') n f) none s.heap.size) args s 0 0 A) (F0 m 2 ls []) := by
    intro x2 kx k
    induction k with
    | zero => intro R x3 H locs ls hf; exact nomatch (show (none : Option (Rf)) = some _ from hf)
    | succ k ih =>
      intro R x3 H locs ls hf hP hD hS hl hk
      rw [fX1_takeLevels_L2] at hf
      refine lv_iload_n hx hb dX1_takeLevels_2 rfl (lv_at hl 3 rfl) ?_
      refine lv_aload_n hx hb dX1_takeLevels_3 rfl (lv_at hl 0 rfl) ?_
      refine va_get (D := g.1) (ci := 1) (v := .int R.2.2.2.1) (C := RX1) (T := TX1) (N := 9) hx hb hts i_X1_takeLevels_X1 hown hE.1 hP 0 rfl rfl 3 (by decide) w1 (fun _ h9 => h9) rfl dX1_takeLevels_4 ?_
      refine lv_icmp_ge (tgt := 29) hx hb dX1_takeLevels_7 (by decide) (fun hc => ?_) (fun hc => ?_)
      · have hf := if_t hf hc
        exact hk _ _ _ _  hf hP hD hS (lv_sub hl [] rfl)
      · have hf := if_f hf hc
        refine lv_aload_n hx hb dX1_takeLevels_10 rfl (lv_at hl 0 rfl) ?_
        refine lv_iload_n hx hb dX1_takeLevels_11 rfl (lv_at hl 3 rfl) ?_
        refine lv_iconst (v := (2 : Int32)) hx hb dX1_takeLevels_12 (by decide) ?_
        refine lv_aload_n hx hb dX1_takeLevels_13 rfl (lv_at hl 1 rfl) ?_
        refine lv_iload_n hx hb dX1_takeLevels_14 rfl (lv_at hl 2 rfl) ?_
        refine lv_iload_n hx hb dX1_takeLevels_15 rfl (lv_at hl 3 rfl) ?_
        refine lv_iadd hx hb dX1_takeLevels_16 ?_
        obtain ⟨x103, hg, hf⟩ := o1_s hf
        refine Ct.callSN (ws' := wRfRow g h0 h1 h2 h3 a0 R n f) (As := [.ref a0, .int (x2 + x3)]) (rest := [.int (2 : Int32), .int x3, .ref h0]) (st1 := [.int x103, .int (2 : Int32), .int x3, .ref h0]) (c_X6_at l g a0 n f (x2 + x3) hg) (⟨va_cnB 2 hts gX1_takeLevels_X6_at_n61 rfl rfl rfl (hE.2.1 _ (List.mem_of_getElem? (i := 26) rfl)) w2 q_X6_at.2 ⟨Nat.le_of_ble_eq_true rfl, Nat.le_of_ble_eq_true rfl⟩, w3, trivial⟩) ⟨hx, hb, hml, hown, hts⟩ hE hP hD hS hA [4] rfl rfl rfl rfl rfl hl.1 rfl rfl (Nat.le_of_ble_eq_true rfl) dX1_takeLevels_17 (fun H locs hP hD hS => ?_)
        obtain ⟨R104, hg, hf⟩ := o1_s hf
        refine Ct.callV (ws' := wRfRow g h0 h1 h2 h3 a0 R104 n f) (As := [.int x3, .int (2 : Int32), .int x103]) (rest := []) (st1 := []) (c_X1_set l g h0 h1 h2 h3 R x3 (2 : Int32) x103 hg) (cwV 3 hts gX1_takeLevels_X1_set rfl rfl rfl q_X1_set ⟨Nat.le_of_ble_eq_true rfl, Nat.le_of_ble_eq_true rfl⟩) ⟨hx, hb, hml, hown, hts⟩ hE hP hD hS hA [0, 1, 2, 3] rfl rfl rfl rfl 1 0 rfl rfl rfl rfl hl.1 rfl rfl (Nat.le_of_ble_eq_true rfl) dX1_takeLevels_20 (fun H locs hP hD hS => ?_)
        refine lv_iinc (v := (x3 + (1 : Int32))) (lv' := [(3, .int (x3 + (1 : Int32))), (0, .ref h0), (1, .ref a0), (2, .int x2)]) hx hb dX1_takeLevels_23 hl (k := 3) rfl rfl (by decide) rfl (fun ls hl => ?_)
        refine lv_goto (tgt := 2) hx hb dX1_takeLevels_26 (by decide) ?_
        exact ih _ _ _ _ _  hf hP hD hS (lv_sub hl [1, 2, 3, 0] rfl) hk
  unfold fX1_takeLevels at hf
  refine lv_iconst (v := (0 : Int32)) hx hb dX1_takeLevels_0 (by decide) ?_
  refine lv_istore_n (lv' := [(3, .int (0 : Int32)), (0, .ref h0), (1, .ref a0), (2, .int a1)]) hx hb dX1_takeLevels_1 rfl hl (by decide) rfl (fun ls hl => ?_)
  refine L2 _ _ _ _ _ _ _ _  hf hP hD hS (lv_sub hl [1, 2, 3, 0] rfl) (fun R105 H locs ls hf hP hD hS hl => ?_)
  cases hf
  exact Ct.vret hx hb hr hlocks hAe hP hD hS dX1_takeLevels_29
def fX1_hasCistern (R : Rf) (a1 : Int32) : Option (Int32) := if a1 < 0 then (some (0 : Int32)) else (if R.2.2.2.1 ≤ a1 then (some (0 : Int32)) else (some (1 : Int32)))
theorem q_X1_hasCistern : yX1_hasCistern.cls = RX1 ∧ yX1_hasCistern.cls ≠ "java/lang/invoke/MethodHandle" ∧ yX1_hasCistern.cls ≠ "java/lang/invoke/VarHandle" ∧ (parseMethodDescriptor yX1_hasCistern.desc).map (fun d => d.parameters.length) = some 1 := by decide +kernel
theorem i_X1_hasCistern_X1 : ∀ w ∈ u_ws RX1 TX1 9, w ∈ wsX1_hasCistern := fun _ h => List.mem_cons_of_mem _ (List.mem_append_right _ (h))
set_option maxHeartbeats 4000000 in
set_option maxRecDepth 100000 in
theorem c_X1_hasCistern (l : Launch) (g : gG) (h0 h1 h2 h3 : Nat) (R : Rf) (a1 : Int32) {r : Int32} (hf : fX1_hasCistern R a1 = some r) : Ct l yX1_hasCistern wsX1_hasCistern (rmm 0 0) g (wRf g h0 h1 h2 h3 R) (wRf g h0 h1 h2 h3 R) [.ref h0, .int a1] (some (.int r)) := by
  refine Ct.mk (by decide) rfl (Nat.le_of_ble_eq_true rfl) ?_
  intro p e s m args below meth c A ls hx hb hr hml hts hown hlocks hA hE hP hD hS hl hAe
  have hown : s.vm.findClass RX1 = some m.cls := hown
  have hl : lv_has ls 2 [(0, .ref h0), (1, .int a1)] := hl
  have w1 := hts (.fieldLink RX1 21 "RainVault$Roof" "cisterns" "I") (List.mem_of_getElem? (i := 1) rfl)
  unfold fX1_hasCistern at hf
  refine lv_iload_n hx hb dX1_hasCistern_0 rfl (lv_at hl 1 rfl) ?_
  refine lv_if_lt (tgt := 16) hx hb dX1_hasCistern_1 (by decide) (fun hc => ?_) (fun hc => ?_)
  · have hf := if_t hf hc
    refine lv_iconst (v := (0 : Int32)) hx hb dX1_hasCistern_16 (by decide) ?_
    cases hf
    exact Ct.zret hx hb hr (by decide) hlocks hAe hP hD hS dX1_hasCistern_17
  · have hf := if_f hf hc
    refine lv_iload_n hx hb dX1_hasCistern_4 rfl (lv_at hl 1 rfl) ?_
    refine lv_aload_n hx hb dX1_hasCistern_5 rfl (lv_at hl 0 rfl) ?_
    refine va_get (D := g.1) (ci := 1) (v := .int R.2.2.2.1) (C := RX1) (T := TX1) (N := 9) hx hb hts i_X1_hasCistern_X1 hown hE.1 hP 0 rfl rfl 3 (by decide) w1 (fun _ h9 => h9) rfl dX1_hasCistern_6 ?_
    refine lv_icmp_ge (tgt := 16) hx hb dX1_hasCistern_9 (by decide) (fun hc => ?_) (fun hc => ?_)
    · have hf := if_t hf hc
      refine lv_iconst (v := (0 : Int32)) hx hb dX1_hasCistern_16 (by decide) ?_
      cases hf
      exact Ct.zret hx hb hr (by decide) hlocks hAe hP hD hS dX1_hasCistern_17
    · have hf := if_f hf hc
      refine lv_iconst (v := (1 : Int32)) hx hb dX1_hasCistern_12 (by decide) ?_
      refine lv_goto (tgt := 17) hx hb dX1_hasCistern_13 (by decide) ?_
      cases hf
      exact Ct.zret hx hb hr (by decide) hlocks hAe hP hD hS dX1_hasCistern_17
def fX1_raise (R : Rf) (a1 : Int32) (a2 : Int32) : Option (Rf) := o1 (fX1_get R a1 (2 : Int32)) (fun x101 => o1 (fX1_set R a1 (2 : Int32) (x101 + a2)) (fun R102 => some R102))
theorem q_X1_raise : yX1_raise.cls = RX1 ∧ yX1_raise.cls ≠ "java/lang/invoke/MethodHandle" ∧ yX1_raise.cls ≠ "java/lang/invoke/VarHandle" ∧ (parseMethodDescriptor yX1_raise.desc).map (fun d => d.parameters.length) = some 2 := by decide +kernel
set_option maxHeartbeats 4000000 in
set_option maxRecDepth 100000 in
theorem c_X1_raise (l : Launch) (g : gG) (h0 h1 h2 h3 : Nat) (R : Rf) (a1 : Int32) (a2 : Int32) {R' : Rf} (hf : fX1_raise R a1 a2 = some R') : Ct l yX1_raise wsX1_raise (rmm 1 24) g (wRf g h0 h1 h2 h3 R) (wRf g h0 h1 h2 h3 (R')) [.ref h0, .int a1, .int a2] none := by
  refine Ct.mk (by decide) rfl (Nat.le_of_ble_eq_true rfl) ?_
  intro p e s m args below meth c A ls hx hb hr hml hts hown hlocks hA hE hP hD hS hl hAe
  have hown : s.vm.findClass RX1 = some m.cls := hown
  have hl : lv_has ls 3 [(0, .ref h0), (1, .int a1), (2, .int a2)] := hl
  unfold fX1_raise at hf
  refine lv_aload_n hx hb dX1_raise_0 rfl (lv_at hl 0 rfl) ?_
  refine lv_iload_n hx hb dX1_raise_1 rfl (lv_at hl 1 rfl) ?_
  refine lv_iconst (v := (2 : Int32)) hx hb dX1_raise_2 (by decide) ?_
  refine lv_aload_n hx hb dX1_raise_3 rfl (lv_at hl 0 rfl) ?_
  refine lv_iload_n hx hb dX1_raise_4 rfl (lv_at hl 1 rfl) ?_
  refine lv_iconst (v := (2 : Int32)) hx hb dX1_raise_5 (by decide) ?_
  obtain ⟨x101, hg, hf⟩ := o1_s hf
  refine Ct.callV (ws' := wRf g h0 h1 h2 h3 R) (As := [.int a1, .int (2 : Int32)]) (rest := [.int (2 : Int32), .int a1, .ref h0]) (st1 := [.int x101, .int (2 : Int32), .int a1, .ref h0]) (c_X1_get l g h0 h1 h2 h3 R a1 (2 : Int32) hg) (cwV 2 hts gX1_raise_X1_get rfl rfl rfl q_X1_get ⟨Nat.le_of_ble_eq_true rfl, Nat.le_of_ble_eq_true rfl⟩) ⟨hx, hb, hml, hown, hts⟩ hE hP hD hS hA [0, 1, 2, 3] rfl rfl rfl rfl 1 0 rfl rfl rfl rfl hl.1 rfl rfl (Nat.le_of_ble_eq_true rfl) dX1_raise_6 (fun H locs hP hD hS => ?_)
  refine lv_iload_n hx hb dX1_raise_9 rfl (lv_at hl 2 rfl) ?_
  refine lv_iadd hx hb dX1_raise_10 ?_
  obtain ⟨R102, hg, hf⟩ := o1_s hf
  refine Ct.callV (ws' := wRf g h0 h1 h2 h3 R102) (As := [.int a1, .int (2 : Int32), .int (x101 + a2)]) (rest := []) (st1 := []) (c_X1_set l g h0 h1 h2 h3 R a1 (2 : Int32) (x101 + a2) hg) (cwV 3 hts gX1_raise_X1_set rfl rfl rfl q_X1_set ⟨Nat.le_of_ble_eq_true rfl, Nat.le_of_ble_eq_true rfl⟩) ⟨hx, hb, hml, hown, hts⟩ hE hP hD hS hA [0, 1, 2, 3] rfl rfl rfl rfl 1 0 rfl rfl rfl rfl hl.1 rfl rfl (Nat.le_of_ble_eq_true rfl) dX1_raise_11 (fun H locs hP hD hS => ?_)
  cases hf
  exact Ct.vret hx hb hr hlocks hAe hP hD hS dX1_raise_14
def fX0_carryOnTrial_L14 (C : Ca) (x1 : Int32) (kx : Rf → Option (Int32 × Rf)) : Nat → Rf → Int32 → Option (Int32 × Rf)
  | 0, _, _ => none
  | k + 1, R, x2 => if x1 ≤ x2 then (kx R) else (o1 (fX6_at 4 C.2 x2) (fun x107 => o1 (fX1_hasCistern R x107) (fun x108 => if x108 = 0 then (some ((0 : Int32), R)) else (o1 (fX1_get R x107 (2 : Int32)) (fun x109 => o1 (fX1_get R x107 (1 : Int32)) (fun x110 => if x109 < x110 then (o1 (fX1_raise R x107 (1 : Int32)) (fun R111 => fX0_carryOnTrial_L14 C x1 kx k R111 (x2 + (1 : Int32)))) else (some ((0 : Int32), R))))))))
def fX0_carryOnTrial (C : Ca) (R : Rf) (a1 : Int32) : Option (Int32 × Rf) := o1 (fX1_takeLevels R 8 C.1 (0 : Int32)) (fun R101 => fX0_carryOnTrial_L14 C a1 (fun R112 => some ((1 : Int32), R112)) fu R101 (0 : Int32))
theorem q_X0_carryOnTrial : yX0_carryOnTrial.cls = RX0 ∧ yX0_carryOnTrial.cls ≠ "java/lang/invoke/MethodHandle" ∧ yX0_carryOnTrial.cls ≠ "java/lang/invoke/VarHandle" ∧ (parseMethodDescriptor yX0_carryOnTrial.desc).map (fun d => d.parameters.length) = some 1 := by decide +kernel
theorem i_X0_carryOnTrial_X0 : ∀ w ∈ u_ws RX0 TX0 3, w ∈ wsX0_carryOnTrial := fun _ h => List.mem_cons_of_mem _ (List.mem_append_left _ (List.mem_append_right _ (h)))
set_option maxHeartbeats 4000000 in
set_option maxRecDepth 100000 in
theorem c_X0_carryOnTrial (l : Launch) (g : gG) (c0 c1 c2 h0 h1 h2 h3 : Nat) (C : Ca) (R : Rf) (a1 : Int32) {r : Int32} {R' : Rf} (hf : fX0_carryOnTrial C R a1 = some (r, R')) : Ct l yX0_carryOnTrial wsX0_carryOnTrial (rmm 2 47) g (wCa g c0 c1 c2 h0 h1 h2 h3 C R) (wCa g c0 c1 c2 h0 h1 h2 h3 C (R')) [.ref c0, .int a1] (some (.int r)) := by
  refine Ct.mk (by decide) rfl (Nat.le_of_ble_eq_true rfl) ?_
  intro p e s m args below meth c A ls hx hb hr hml hts hown hlocks hA hE hP hD hS hl hAe
  have hown : s.vm.findClass RX0 = some m.cls := hown
  have hl : lv_has ls 4 [(0, .ref c0), (1, .int a1)] := hl
  have w1 := hts (.fieldLink RX0 18 "RainVault$Carrier" "trial" "LRainVault$Roof;") (List.mem_of_getElem? (i := 1) rfl)
  have w2 := hts (.fieldLink RX0 9 "RainVault$Carrier" "levels" "[I") (List.mem_of_getElem? (i := 2) rfl)
  have w3 := hts (.fieldLink RX0 15 "RainVault$Carrier" "way" "[I") (List.mem_of_getElem? (i := 3) rfl)
  have w4 := hts (.initialized RX6) (List.mem_of_getElem? (i := 11) rfl)
  have w5 := hts (.static yX6_at) (List.mem_of_getElem? (i := 10) rfl)
  have L14 : ∀ (x1 : Int32) (kx : Rf → Option (Int32 × Rf)) (k : Nat) (R : Rf) (x2 : Int32) (H : Heap) (locs : List Loc) (ls : Array Slot), fX0_carryOnTrial_L14 C x1 kx k R x2 = some (r, R') → va_P g.1 vwK (wCa g c0 c1 c2 h0 h1 h2 h3 C R) H → va_D A (wCa g c0 c1 c2 h0 h1 h2 h3 C R) → va_S A s.heap H locs → lv_has ls 4 [(0, .ref c0), (1, .int x1), (2, .int x2)] → (∀ (R : Rf) (H : Heap) (locs : List Loc) (ls : Array Slot), kx R = some (r, R') → va_P g.1 vwK (wCa g c0 c1 c2 h0 h1 h2 h3 C R) H → va_D A (wCa g c0 c1 c2 h0 h1 h2 h3 C R) → va_S A s.heap H locs → lv_has ls 4 [] → W p l e (rmm 2 47) s m args below meth c H locs 0 0 (MQ below (QcG g (wCa g c0 c1 c2 h0 h1 h2 h3 C R) (wCa g c0 c1 c2 h0 h1 h2 h3 C (R')) (some (.int r)) s.heap.size) args s 0 0 A) (F0 m 77 ls [])) → W p l e (rmm 2 47) s m args below meth c H locs 0 0 (MQ below (QcG g (wCa g c0 c1 c2 h0 h1 h2 h3 C R) (wCa g c0 c1 c2 h0 h1 h2 h3 C (R')) (some (.int r)) s.heap.size) args s 0 0 A) (F0 m 14 ls []) := by
    intro x1 kx k
    induction k with
    | zero => intro R x2 H locs ls hf; exact nomatch (show (none : Option (Int32 × Rf)) = some _ from hf)
    | succ k ih =>
      intro R x2 H locs ls hf hP hD hS hl hk
      rw [fX0_carryOnTrial_L14] at hf
      refine lv_iload_n hx hb dX0_carryOnTrial_14 rfl (lv_at hl 2 rfl) ?_
      refine lv_iload_n hx hb dX0_carryOnTrial_15 rfl (lv_at hl 1 rfl) ?_
      refine lv_icmp_ge (tgt := 77) hx hb dX0_carryOnTrial_16 (by decide) (fun hc => ?_) (fun hc => ?_)
      · have hf := if_t hf hc
        exact hk _ _ _ _  hf hP hD hS (lv_sub hl [] rfl)
      · have hf := if_f hf hc
        refine lv_aload_n hx hb dX0_carryOnTrial_19 rfl (lv_at hl 0 rfl) ?_
        refine va_get (D := g.1) (ci := 0) (v := .ref c2) (C := RX0) (T := TX0) (N := 3) hx hb hts i_X0_carryOnTrial_X0 hown hE.1 hP 0 rfl rfl 2 (by decide) w3 (fun _ h9 => h9) rfl dX0_carryOnTrial_20 ?_
        refine lv_iload_n hx hb dX0_carryOnTrial_23 rfl (lv_at hl 2 rfl) ?_
        obtain ⟨x107, hg, hf⟩ := o1_s hf
        refine Ct.callSN (ws' := wCa g c0 c1 c2 h0 h1 h2 h3 C R) (As := [.ref c2, .int x2]) (rest := []) (st1 := [.int x107]) (c_X6_at l g c2 4 C.2 x2 hg) (⟨va_cnB 2 hts gX0_carryOnTrial_X6_at_n42 rfl rfl rfl (hE.2.1 _ (List.mem_of_getElem? (i := 35) rfl)) w4 q_X6_at.2 ⟨Nat.le_of_ble_eq_true rfl, Nat.le_of_ble_eq_true rfl⟩, w5, trivial⟩) ⟨hx, hb, hml, hown, hts⟩ hE hP hD hS hA [2] rfl rfl rfl rfl rfl hl.1 rfl rfl (Nat.le_of_ble_eq_true rfl) dX0_carryOnTrial_24 (fun H locs hP hD hS => ?_)
        refine lv_istore_n (lv' := [(3, .int x107), (0, .ref c0), (1, .int x1), (2, .int x2)]) hx hb dX0_carryOnTrial_27 rfl hl (by decide) rfl (fun ls hl => ?_)
        refine lv_aload_n hx hb dX0_carryOnTrial_28 rfl (lv_at hl 1 rfl) ?_
        refine va_get (D := g.1) (ci := 0) (v := .ref h0) (C := RX0) (T := TX0) (N := 3) hx hb hts i_X0_carryOnTrial_X0 hown hE.1 hP 0 rfl rfl 0 (by decide) w1 (fun _ h9 => h9) rfl dX0_carryOnTrial_29 ?_
        refine lv_iload_n hx hb dX0_carryOnTrial_32 rfl (lv_at hl 0 rfl) ?_
        obtain ⟨x108, hg, hf⟩ := o1_s hf
        refine Ct.callV (ws' := wCa g c0 c1 c2 h0 h1 h2 h3 C R) (As := [.int x107]) (rest := []) (st1 := [.int x108]) (c_X1_hasCistern l g h0 h1 h2 h3 R x107 hg) (cwV 1 hts gX0_carryOnTrial_X1_hasCistern rfl rfl rfl q_X1_hasCistern ⟨Nat.le_of_ble_eq_true rfl, Nat.le_of_ble_eq_true rfl⟩) ⟨hx, hb, hml, hown, hts⟩ hE hP hD hS hA [3, 4, 5, 6] rfl rfl rfl rfl 1 3 rfl rfl rfl rfl hl.1 rfl rfl (Nat.le_of_ble_eq_true rfl) dX0_carryOnTrial_33 (fun H locs hP hD hS => ?_)
        refine lv_if_eq (tgt := 60) hx hb dX0_carryOnTrial_36 (by decide) (fun hc => ?_) (fun hc => ?_)
        · have hf := if_t hf hc
          refine lv_iconst (v := (0 : Int32)) hx hb dX0_carryOnTrial_60 (by decide) ?_
          cases hf
          exact Ct.zret hx hb hr (by decide) hlocks hAe hP hD hS dX0_carryOnTrial_61
        · have hf := if_f hf hc
          refine lv_aload_n hx hb dX0_carryOnTrial_39 rfl (lv_at hl 1 rfl) ?_
          refine va_get (D := g.1) (ci := 0) (v := .ref h0) (C := RX0) (T := TX0) (N := 3) hx hb hts i_X0_carryOnTrial_X0 hown hE.1 hP 0 rfl rfl 0 (by decide) w1 (fun _ h9 => h9) rfl dX0_carryOnTrial_40 ?_
          refine lv_iload_n hx hb dX0_carryOnTrial_43 rfl (lv_at hl 0 rfl) ?_
          refine lv_iconst (v := (2 : Int32)) hx hb dX0_carryOnTrial_44 (by decide) ?_
          obtain ⟨x109, hg, hf⟩ := o1_s hf
          refine Ct.callV (ws' := wCa g c0 c1 c2 h0 h1 h2 h3 C R) (As := [.int x107, .int (2 : Int32)]) (rest := []) (st1 := [.int x109]) (c_X1_get l g h0 h1 h2 h3 R x107 (2 : Int32) hg) (cwV 2 hts gX0_carryOnTrial_X1_get rfl rfl rfl q_X1_get ⟨Nat.le_of_ble_eq_true rfl, Nat.le_of_ble_eq_true rfl⟩) ⟨hx, hb, hml, hown, hts⟩ hE hP hD hS hA [3, 4, 5, 6] rfl rfl rfl rfl 1 3 rfl rfl rfl rfl hl.1 rfl rfl (Nat.le_of_ble_eq_true rfl) dX0_carryOnTrial_45 (fun H locs hP hD hS => ?_)
          refine lv_aload_n hx hb dX0_carryOnTrial_48 rfl (lv_at hl 1 rfl) ?_
          refine va_get (D := g.1) (ci := 0) (v := .ref h0) (C := RX0) (T := TX0) (N := 3) hx hb hts i_X0_carryOnTrial_X0 hown hE.1 hP 0 rfl rfl 0 (by decide) w1 (fun _ h9 => h9) rfl dX0_carryOnTrial_49 ?_
          refine lv_iload_n hx hb dX0_carryOnTrial_52 rfl (lv_at hl 0 rfl) ?_
          refine lv_iconst (v := (1 : Int32)) hx hb dX0_carryOnTrial_53 (by decide) ?_
          obtain ⟨x110, hg, hf⟩ := o1_s hf
          refine Ct.callV (ws' := wCa g c0 c1 c2 h0 h1 h2 h3 C R) (As := [.int x107, .int (1 : Int32)]) (rest := [.int x109]) (st1 := [.int x110, .int x109]) (c_X1_get l g h0 h1 h2 h3 R x107 (1 : Int32) hg) (cwV 2 hts gX0_carryOnTrial_X1_get rfl rfl rfl q_X1_get ⟨Nat.le_of_ble_eq_true rfl, Nat.le_of_ble_eq_true rfl⟩) ⟨hx, hb, hml, hown, hts⟩ hE hP hD hS hA [3, 4, 5, 6] rfl rfl rfl rfl 1 3 rfl rfl rfl rfl hl.1 rfl rfl (Nat.le_of_ble_eq_true rfl) dX0_carryOnTrial_54 (fun H locs hP hD hS => ?_)
          refine lv_icmp_lt (tgt := 62) hx hb dX0_carryOnTrial_57 (by decide) (fun hc => ?_) (fun hc => ?_)
          · have hf := if_t hf hc
            refine lv_aload_n hx hb dX0_carryOnTrial_62 rfl (lv_at hl 1 rfl) ?_
            refine va_get (D := g.1) (ci := 0) (v := .ref h0) (C := RX0) (T := TX0) (N := 3) hx hb hts i_X0_carryOnTrial_X0 hown hE.1 hP 0 rfl rfl 0 (by decide) w1 (fun _ h9 => h9) rfl dX0_carryOnTrial_63 ?_
            refine lv_iload_n hx hb dX0_carryOnTrial_66 rfl (lv_at hl 0 rfl) ?_
            refine lv_iconst (v := (1 : Int32)) hx hb dX0_carryOnTrial_67 (by decide) ?_
            obtain ⟨R111, hg, hf⟩ := o1_s hf
            refine Ct.callV (ws' := wCa g c0 c1 c2 h0 h1 h2 h3 C R111) (As := [.int x107, .int (1 : Int32)]) (rest := []) (st1 := []) (c_X1_raise l g h0 h1 h2 h3 R x107 (1 : Int32) hg) (cwV 2 hts gX0_carryOnTrial_X1_raise rfl rfl rfl q_X1_raise ⟨Nat.le_of_ble_eq_true rfl, Nat.le_of_ble_eq_true rfl⟩) ⟨hx, hb, hml, hown, hts⟩ hE hP hD hS hA [3, 4, 5, 6] rfl rfl rfl rfl 1 3 rfl rfl rfl rfl hl.1 rfl rfl (Nat.le_of_ble_eq_true rfl) dX0_carryOnTrial_68 (fun H locs hP hD hS => ?_)
            refine lv_iinc (v := (x2 + (1 : Int32))) (lv' := [(2, .int (x2 + (1 : Int32))), (3, .int x107), (0, .ref c0), (1, .int x1)]) hx hb dX0_carryOnTrial_71 hl (k := 3) rfl rfl (by decide) rfl (fun ls hl => ?_)
            refine lv_goto (tgt := 14) hx hb dX0_carryOnTrial_74 (by decide) ?_
            exact ih _ _ _ _ _  hf hP hD hS (lv_sub hl [2, 3, 0] rfl) hk
          · have hf := if_f hf hc
            refine lv_iconst (v := (0 : Int32)) hx hb dX0_carryOnTrial_60 (by decide) ?_
            cases hf
            exact Ct.zret hx hb hr (by decide) hlocks hAe hP hD hS dX0_carryOnTrial_61
  unfold fX0_carryOnTrial at hf
  refine lv_aload_n hx hb dX0_carryOnTrial_0 rfl (lv_at hl 0 rfl) ?_
  refine va_get (D := g.1) (ci := 0) (v := .ref h0) (C := RX0) (T := TX0) (N := 3) hx hb hts i_X0_carryOnTrial_X0 hown hE.1 hP 0 rfl rfl 0 (by decide) w1 (fun _ h9 => h9) rfl dX0_carryOnTrial_1 ?_
  refine lv_aload_n hx hb dX0_carryOnTrial_4 rfl (lv_at hl 0 rfl) ?_
  refine va_get (D := g.1) (ci := 0) (v := .ref c1) (C := RX0) (T := TX0) (N := 3) hx hb hts i_X0_carryOnTrial_X0 hown hE.1 hP 0 rfl rfl 1 (by decide) w2 (fun _ h9 => h9) rfl dX0_carryOnTrial_5 ?_
  refine lv_iconst (v := (0 : Int32)) hx hb dX0_carryOnTrial_8 (by decide) ?_
  obtain ⟨R101, hg, hf⟩ := o1_s hf
  refine Ct.callV (ws' := wCa g c0 c1 c2 h0 h1 h2 h3 C R101) (As := [.ref c1, .int (0 : Int32)]) (rest := []) (st1 := []) (c_X1_takeLevels l g h0 h1 h2 h3 c1 R 8 C.1 (0 : Int32) hg) (cwV 2 hts gX0_carryOnTrial_X1_takeLevels rfl rfl rfl q_X1_takeLevels ⟨Nat.le_of_ble_eq_true rfl, Nat.le_of_ble_eq_true rfl⟩) ⟨hx, hb, hml, hown, hts⟩ hE hP hD hS hA [3, 4, 5, 6, 1] rfl rfl rfl rfl 1 3 rfl rfl rfl rfl hl.1 rfl rfl (Nat.le_of_ble_eq_true rfl) dX0_carryOnTrial_9 (fun H locs hP hD hS => ?_)
  refine lv_iconst (v := (0 : Int32)) hx hb dX0_carryOnTrial_12 (by decide) ?_
  refine lv_istore_n (lv' := [(2, .int (0 : Int32)), (0, .ref c0), (1, .int a1)]) hx hb dX0_carryOnTrial_13 rfl hl (by decide) rfl (fun ls hl => ?_)
  refine L14 _ _ _ _ _ _ _ _  hf hP hD hS (lv_sub hl [1, 2, 0] rfl) (fun R112 H locs ls hf hP hD hS hl => ?_)
  refine lv_iconst (v := (1 : Int32)) hx hb dX0_carryOnTrial_77 (by decide) ?_
  cases hf
  exact Ct.zret hx hb hr (by decide) hlocks hAe hP hD hS dX0_carryOnTrial_78
def fX1_conditionFact (R : Rf) (a1 : Int32) (a2 : Int32) : Option (Int32) := o1 (fX6_at 24 R.2.1 ((a1 * (3 : Int32)) + a2)) (fun x101 => some x101)
theorem q_X1_conditionFact : yX1_conditionFact.cls = RX1 ∧ yX1_conditionFact.cls ≠ "java/lang/invoke/MethodHandle" ∧ yX1_conditionFact.cls ≠ "java/lang/invoke/VarHandle" ∧ (parseMethodDescriptor yX1_conditionFact.desc).map (fun d => d.parameters.length) = some 2 := by decide +kernel
theorem i_X1_conditionFact_X1 : ∀ w ∈ u_ws RX1 TX1 9, w ∈ wsX1_conditionFact := fun _ h => List.mem_cons_of_mem _ (List.mem_append_right _ (h))
set_option maxHeartbeats 4000000 in
set_option maxRecDepth 100000 in
theorem c_X1_conditionFact (l : Launch) (g : gG) (h0 h1 h2 h3 : Nat) (R : Rf) (a1 : Int32) (a2 : Int32) {r : Int32} (hf : fX1_conditionFact R a1 a2 = some r) : Ct l yX1_conditionFact wsX1_conditionFact (rmm 1 21) g (wRf g h0 h1 h2 h3 R) (wRf g h0 h1 h2 h3 R) [.ref h0, .int a1, .int a2] (some (.int r)) := by
  refine Ct.mk (by decide) rfl (Nat.le_of_ble_eq_true rfl) ?_
  intro p e s m args below meth c A ls hx hb hr hml hts hown hlocks hA hE hP hD hS hl hAe
  have hown : s.vm.findClass RX1 = some m.cls := hown
  have hl : lv_has ls 3 [(0, .ref h0), (1, .int a1), (2, .int a2)] := hl
  have w1 := hts (.fieldLink RX1 15 "RainVault$Roof" "conditionFacts" "[I") (List.mem_of_getElem? (i := 1) rfl)
  have w2 := hts (.initialized RX6) (List.mem_of_getElem? (i := 3) rfl)
  have w3 := hts (.static yX6_at) (List.mem_of_getElem? (i := 2) rfl)
  unfold fX1_conditionFact at hf
  refine lv_aload_n hx hb dX1_conditionFact_0 rfl (lv_at hl 0 rfl) ?_
  refine va_get (D := g.1) (ci := 1) (v := .ref h2) (C := RX1) (T := TX1) (N := 9) hx hb hts i_X1_conditionFact_X1 hown hE.1 hP 0 rfl rfl 1 (by decide) w1 (fun _ h9 => h9) rfl dX1_conditionFact_1 ?_
  refine lv_iload_n hx hb dX1_conditionFact_4 rfl (lv_at hl 1 rfl) ?_
  refine lv_iconst (v := (3 : Int32)) hx hb dX1_conditionFact_5 (by decide) ?_
  refine lv_imul hx hb dX1_conditionFact_6 ?_
  refine lv_iload_n hx hb dX1_conditionFact_7 rfl (lv_at hl 2 rfl) ?_
  refine lv_iadd hx hb dX1_conditionFact_8 ?_
  obtain ⟨x101, hg, hf⟩ := o1_s hf
  refine Ct.callSN (ws' := wRf g h0 h1 h2 h3 R) (As := [.ref h2, .int ((a1 * (3 : Int32)) + a2)]) (rest := []) (st1 := [.int x101]) (c_X6_at l g h2 24 R.2.1 ((a1 * (3 : Int32)) + a2) hg) (⟨va_cnB 2 hts gX1_conditionFact_X6_at_n61 rfl rfl rfl (hE.2.1 _ (List.mem_of_getElem? (i := 26) rfl)) w2 q_X6_at.2 ⟨Nat.le_of_ble_eq_true rfl, Nat.le_of_ble_eq_true rfl⟩, w3, trivial⟩) ⟨hx, hb, hml, hown, hts⟩ hE hP hD hS hA [2] rfl rfl rfl rfl rfl hl.1 rfl rfl (Nat.le_of_ble_eq_true rfl) dX1_conditionFact_9 (fun H locs hP hD hS => ?_)
  cases hf
  exact Ct.iret hx hb hr hlocks hAe hP hD hS dX1_conditionFact_12
def fX1_isOf (R : Rf) (a1 : Int32) (a2 : Int32) : Option (Int32) := o1 (fX1_get R a1 (0 : Int32)) (fun x101 => if x101 < 0 then (some (0 : Int32)) else (if (7 : Int32) ≤ x101 then (some (0 : Int32)) else (rd kKinds 7 x101 (fun x102 => if ((x102 >>> (a2 &&& 31)) &&& (1 : Int32)) = (1 : Int32) then (some (1 : Int32)) else (some (0 : Int32))))))
theorem q_X1_isOf : yX1_isOf.cls = RX1 ∧ yX1_isOf.cls ≠ "java/lang/invoke/MethodHandle" ∧ yX1_isOf.cls ≠ "java/lang/invoke/VarHandle" ∧ (parseMethodDescriptor yX1_isOf.desc).map (fun d => d.parameters.length) = some 2 := by decide +kernel
set_option maxHeartbeats 4000000 in
set_option maxRecDepth 100000 in
theorem c_X1_isOf (l : Launch) (g : gG) (h0 h1 h2 h3 : Nat) (R : Rf) (a1 : Int32) (a2 : Int32) {r : Int32} (hf : fX1_isOf R a1 a2 = some r) : Ct l yX1_isOf wsX1_isOf (rmm 1 23) g (wRf g h0 h1 h2 h3 R) (wRf g h0 h1 h2 h3 R) [.ref h0, .int a1, .int a2] (some (.int r)) := by
  refine Ct.mk (by decide) rfl (Nat.le_of_ble_eq_true rfl) ?_
  intro p e s m args below meth c A ls hx hb hr hml hts hown hlocks hA hE hP hD hS hl hAe
  have hown : s.vm.findClass RX1 = some m.cls := hown
  have hl : lv_has ls 4 [(0, .ref h0), (1, .int a1), (2, .int a2)] := hl
  unfold fX1_isOf at hf
  refine lv_aload_n hx hb dX1_isOf_0 rfl (lv_at hl 0 rfl) ?_
  refine lv_iload_n hx hb dX1_isOf_1 rfl (lv_at hl 1 rfl) ?_
  refine lv_iconst (v := (0 : Int32)) hx hb dX1_isOf_2 (by decide) ?_
  obtain ⟨x101, hg, hf⟩ := o1_s hf
  refine Ct.callV (ws' := wRf g h0 h1 h2 h3 R) (As := [.int a1, .int (0 : Int32)]) (rest := []) (st1 := [.int x101]) (c_X1_get l g h0 h1 h2 h3 R a1 (0 : Int32) hg) (cwV 2 hts gX1_isOf_X1_get rfl rfl rfl q_X1_get ⟨Nat.le_of_ble_eq_true rfl, Nat.le_of_ble_eq_true rfl⟩) ⟨hx, hb, hml, hown, hts⟩ hE hP hD hS hA [0, 1, 2, 3] rfl rfl rfl rfl 1 0 rfl rfl rfl rfl hl.1 rfl rfl (Nat.le_of_ble_eq_true rfl) dX1_isOf_3 (fun H locs hP hD hS => ?_)
  refine lv_istore_n (lv' := [(3, .int x101), (0, .ref h0), (1, .int a1), (2, .int a2)]) hx hb dX1_isOf_6 rfl hl (by decide) rfl (fun ls hl => ?_)
  refine lv_iload_n hx hb dX1_isOf_7 rfl (lv_at hl 0 rfl) ?_
  refine lv_if_lt (tgt := 36) hx hb dX1_isOf_8 (by decide) (fun hc => ?_) (fun hc => ?_)
  · have hf := if_t hf hc
    refine lv_iconst (v := (0 : Int32)) hx hb dX1_isOf_36 (by decide) ?_
    cases hf
    exact Ct.zret hx hb hr (by decide) hlocks hAe hP hD hS dX1_isOf_37
  · have hf := if_f hf hc
    refine lv_iload_n hx hb dX1_isOf_11 rfl (lv_at hl 0 rfl) ?_
    refine va_getsN hx hb hE.2.2.2.2.1.2.2 hS hown (va_Nw.use rfl (hE.2.1 _ (List.mem_of_getElem? (i := 21) rfl))) (fun _ h9 => h9) dX1_isOf_12 ?_
    refine va_alen (v := (7 : Int32)) hx hb hE.1 (hE.wk hS) 2 0 rfl rfl (show Int32.ofNat 7 = (7 : Int32) by decide) dX1_isOf_15 ?_
    refine lv_icmp_ge (tgt := 36) hx hb dX1_isOf_16 (by decide) (fun hc => ?_) (fun hc => ?_)
    · have hf := if_t hf hc
      refine lv_iconst (v := (0 : Int32)) hx hb dX1_isOf_36 (by decide) ?_
      cases hf
      exact Ct.zret hx hb hr (by decide) hlocks hAe hP hD hS dX1_isOf_37
    · have hf := if_f hf hc
      refine va_getsN hx hb hE.2.2.2.2.1.2.2 hS hown (va_Nw.use rfl (hE.2.1 _ (List.mem_of_getElem? (i := 21) rfl))) (fun _ h9 => h9) dX1_isOf_19 ?_
      refine lv_iload_n hx hb dX1_isOf_22 rfl (lv_at hl 0 rfl) ?_
      obtain ⟨x102, ex, hin, hf⟩ := rd_s hf
      refine st_iald (f := kKinds) hx hb hE.1 (hE.wk hS) 2 0 rfl rfl hin ex dX1_isOf_23 ?_
      refine lv_iload_n hx hb dX1_isOf_24 rfl (lv_at hl 3 rfl) ?_
      refine lv_ishr hx hb dX1_isOf_25 ?_
      refine lv_iconst (v := (1 : Int32)) hx hb dX1_isOf_26 (by decide) ?_
      refine lv_iand hx hb dX1_isOf_27 ?_
      refine lv_iconst (v := (1 : Int32)) hx hb dX1_isOf_28 (by decide) ?_
      refine lv_icmp_ne (tgt := 36) hx hb dX1_isOf_29 (by decide) (fun hc => ?_) (fun hc => ?_)
      · have hf := if_f hf hc
        refine lv_iconst (v := (0 : Int32)) hx hb dX1_isOf_36 (by decide) ?_
        cases hf
        exact Ct.zret hx hb hr (by decide) hlocks hAe hP hD hS dX1_isOf_37
      · have hf := if_t hf hc
        refine lv_iconst (v := (1 : Int32)) hx hb dX1_isOf_32 (by decide) ?_
        refine lv_goto (tgt := 37) hx hb dX1_isOf_33 (by decide) ?_
        cases hf
        exact Ct.zret hx hb hr (by decide) hlocks hAe hP hD hS dX1_isOf_37
def fX1_shown (R : Rf) (a1 : Int32) : Option (Int32) := o1 (fX1_get R a1 (2 : Int32)) (fun x101 => o1 (fX1_isOf R a1 (4 : Int32)) (fun x102 => if x102 = 0 then (o1 (fX1_isOf R a1 (3 : Int32)) (fun x103 => if x103 = 0 then (some x101) else (if (3 : Int32) ≤ x101 then (some x101) else (some (0 : Int32))))) else (o1 (fX1_get R a1 (1 : Int32)) (fun x104 => some (x104 - x101)))))
theorem q_X1_shown : yX1_shown.cls = RX1 ∧ yX1_shown.cls ≠ "java/lang/invoke/MethodHandle" ∧ yX1_shown.cls ≠ "java/lang/invoke/VarHandle" ∧ (parseMethodDescriptor yX1_shown.desc).map (fun d => d.parameters.length) = some 1 := by decide +kernel
set_option maxHeartbeats 4000000 in
set_option maxRecDepth 100000 in
theorem c_X1_shown (l : Launch) (g : gG) (h0 h1 h2 h3 : Nat) (R : Rf) (a1 : Int32) {r : Int32} (hf : fX1_shown R a1 = some r) : Ct l yX1_shown wsX1_shown (rmm 2 46) g (wRf g h0 h1 h2 h3 R) (wRf g h0 h1 h2 h3 R) [.ref h0, .int a1] (some (.int r)) := by
  refine Ct.mk (by decide) rfl (Nat.le_of_ble_eq_true rfl) ?_
  intro p e s m args below meth c A ls hx hb hr hml hts hown hlocks hA hE hP hD hS hl hAe
  have hown : s.vm.findClass RX1 = some m.cls := hown
  have hl : lv_has ls 3 [(0, .ref h0), (1, .int a1)] := hl
  unfold fX1_shown at hf
  refine lv_aload_n hx hb dX1_shown_0 rfl (lv_at hl 0 rfl) ?_
  refine lv_iload_n hx hb dX1_shown_1 rfl (lv_at hl 1 rfl) ?_
  refine lv_iconst (v := (2 : Int32)) hx hb dX1_shown_2 (by decide) ?_
  obtain ⟨x101, hg, hf⟩ := o1_s hf
  refine Ct.callV (ws' := wRf g h0 h1 h2 h3 R) (As := [.int a1, .int (2 : Int32)]) (rest := []) (st1 := [.int x101]) (c_X1_get l g h0 h1 h2 h3 R a1 (2 : Int32) hg) (cwV 2 hts gX1_shown_X1_get rfl rfl rfl q_X1_get ⟨Nat.le_of_ble_eq_true rfl, Nat.le_of_ble_eq_true rfl⟩) ⟨hx, hb, hml, hown, hts⟩ hE hP hD hS hA [0, 1, 2, 3] rfl rfl rfl rfl 1 0 rfl rfl rfl rfl hl.1 rfl rfl (Nat.le_of_ble_eq_true rfl) dX1_shown_3 (fun H locs hP hD hS => ?_)
  refine lv_istore_n (lv' := [(2, .int x101), (0, .ref h0), (1, .int a1)]) hx hb dX1_shown_6 rfl hl (by decide) rfl (fun ls hl => ?_)
  refine lv_aload_n hx hb dX1_shown_7 rfl (lv_at hl 1 rfl) ?_
  refine lv_iload_n hx hb dX1_shown_8 rfl (lv_at hl 2 rfl) ?_
  refine lv_iconst (v := (4 : Int32)) hx hb dX1_shown_9 (by decide) ?_
  obtain ⟨x102, hg, hf⟩ := o1_s hf
  refine Ct.callV (ws' := wRf g h0 h1 h2 h3 R) (As := [.int a1, .int (4 : Int32)]) (rest := []) (st1 := [.int x102]) (c_X1_isOf l g h0 h1 h2 h3 R a1 (4 : Int32) hg) (cwV 2 hts gX1_shown_X1_isOf rfl rfl rfl q_X1_isOf ⟨Nat.le_of_ble_eq_true rfl, Nat.le_of_ble_eq_true rfl⟩) ⟨hx, hb, hml, hown, hts⟩ hE hP hD hS hA [0, 1, 2, 3] rfl rfl rfl rfl 1 0 rfl rfl rfl rfl hl.1 rfl rfl (Nat.le_of_ble_eq_true rfl) dX1_shown_10 (fun H locs hP hD hS => ?_)
  refine lv_if_eq (tgt := 25) hx hb dX1_shown_13 (by decide) (fun hc => ?_) (fun hc => ?_)
  · have hf := if_t hf hc
    refine lv_aload_n hx hb dX1_shown_25 rfl (lv_at hl 1 rfl) ?_
    refine lv_iload_n hx hb dX1_shown_26 rfl (lv_at hl 2 rfl) ?_
    refine lv_iconst (v := (3 : Int32)) hx hb dX1_shown_27 (by decide) ?_
    obtain ⟨x103, hg, hf⟩ := o1_s hf
    refine Ct.callV (ws' := wRf g h0 h1 h2 h3 R) (As := [.int a1, .int (3 : Int32)]) (rest := []) (st1 := [.int x103]) (c_X1_isOf l g h0 h1 h2 h3 R a1 (3 : Int32) hg) (cwV 2 hts gX1_shown_X1_isOf rfl rfl rfl q_X1_isOf ⟨Nat.le_of_ble_eq_true rfl, Nat.le_of_ble_eq_true rfl⟩) ⟨hx, hb, hml, hown, hts⟩ hE hP hD hS hA [0, 1, 2, 3] rfl rfl rfl rfl 1 0 rfl rfl rfl rfl hl.1 rfl rfl (Nat.le_of_ble_eq_true rfl) dX1_shown_28 (fun H locs hP hD hS => ?_)
    refine lv_if_eq (tgt := 43) hx hb dX1_shown_31 (by decide) (fun hc => ?_) (fun hc => ?_)
    · have hf := if_t hf hc
      refine lv_iload_n hx hb dX1_shown_43 rfl (lv_at hl 0 rfl) ?_
      cases hf
      exact Ct.iret hx hb hr hlocks hAe hP hD hS dX1_shown_44
    · have hf := if_f hf hc
      refine lv_iload_n hx hb dX1_shown_34 rfl (lv_at hl 0 rfl) ?_
      refine lv_iconst (v := (3 : Int32)) hx hb dX1_shown_35 (by decide) ?_
      refine lv_icmp_ge (tgt := 43) hx hb dX1_shown_36 (by decide) (fun hc => ?_) (fun hc => ?_)
      · have hf := if_t hf hc
        refine lv_iload_n hx hb dX1_shown_43 rfl (lv_at hl 0 rfl) ?_
        cases hf
        exact Ct.iret hx hb hr hlocks hAe hP hD hS dX1_shown_44
      · have hf := if_f hf hc
        refine lv_iconst (v := (0 : Int32)) hx hb dX1_shown_39 (by decide) ?_
        refine lv_goto (tgt := 44) hx hb dX1_shown_40 (by decide) ?_
        cases hf
        exact Ct.iret hx hb hr hlocks hAe hP hD hS dX1_shown_44
  · have hf := if_f hf hc
    refine lv_aload_n hx hb dX1_shown_16 rfl (lv_at hl 1 rfl) ?_
    refine lv_iload_n hx hb dX1_shown_17 rfl (lv_at hl 2 rfl) ?_
    refine lv_iconst (v := (1 : Int32)) hx hb dX1_shown_18 (by decide) ?_
    obtain ⟨x104, hg, hf⟩ := o1_s hf
    refine Ct.callV (ws' := wRf g h0 h1 h2 h3 R) (As := [.int a1, .int (1 : Int32)]) (rest := []) (st1 := [.int x104]) (c_X1_get l g h0 h1 h2 h3 R a1 (1 : Int32) hg) (cwV 2 hts gX1_shown_X1_get rfl rfl rfl q_X1_get ⟨Nat.le_of_ble_eq_true rfl, Nat.le_of_ble_eq_true rfl⟩) ⟨hx, hb, hml, hown, hts⟩ hE hP hD hS hA [0, 1, 2, 3] rfl rfl rfl rfl 1 0 rfl rfl rfl rfl hl.1 rfl rfl (Nat.le_of_ble_eq_true rfl) dX1_shown_19 (fun H locs hP hD hS => ?_)
    refine lv_iload_n hx hb dX1_shown_22 rfl (lv_at hl 0 rfl) ?_
    refine lv_isub hx hb dX1_shown_23 ?_
    cases hf
    exact Ct.iret hx hb hr hlocks hAe hP hD hS dX1_shown_24
def fX1_holds (R : Rf) (a1 : Int32) : Option (Int32) := o1 (fX1_conditionFact R a1 (1 : Int32)) (fun x101 => o1 (fX1_conditionFact R a1 (2 : Int32)) (fun x102 => o1 (fX1_hasCistern R x101) (fun x103 => if x103 = 0 then (some (0 : Int32)) else (o1 (fX1_conditionFact R a1 (0 : Int32)) (fun x104 => if x104 = (0 : Int32) then (o1 (fX1_hasCistern R x102) (fun x105 => if x105 = 0 then (some (0 : Int32)) else (o1 (fX1_shown R x101) (fun x106 => o1 (fX1_shown R x102) (fun x107 => if x106 ≤ x107 then (some (0 : Int32)) else (some (1 : Int32))))))) else (if x104 = (1 : Int32) then (o1 (fX1_hasCistern R x102) (fun x108 => if x108 = 0 then (some (0 : Int32)) else (o1 (fX1_shown R x101) (fun x109 => o1 (fX1_shown R x102) (fun x110 => if x109 = x110 then (some (1 : Int32)) else (some (0 : Int32))))))) else (if x104 = (2 : Int32) then (o1 (fX1_shown R x101) (fun x111 => if x111 = 0 then (some (1 : Int32)) else (some (0 : Int32)))) else (if x104 = (3 : Int32) then (o1 (fX1_shown R x101) (fun x112 => o1 (fX1_get R x101 (1 : Int32)) (fun x113 => if x112 = x113 then (some (1 : Int32)) else (some (0 : Int32))))) else (o1 (fX1_shown R x101) (fun x114 => if x102 ≤ x114 then (some (0 : Int32)) else (some (1 : Int32))))))))))))
theorem q_X1_holds : yX1_holds.cls = RX1 ∧ yX1_holds.cls ≠ "java/lang/invoke/MethodHandle" ∧ yX1_holds.cls ≠ "java/lang/invoke/VarHandle" ∧ (parseMethodDescriptor yX1_holds.desc).map (fun d => d.parameters.length) = some 1 := by decide +kernel
set_option maxHeartbeats 4000000 in
set_option maxRecDepth 100000 in
theorem c_X1_holds (l : Launch) (g : gG) (h0 h1 h2 h3 : Nat) (R : Rf) (a1 : Int32) {r : Int32} (hf : fX1_holds R a1 = some r) : Ct l yX1_holds wsX1_holds (rmm 3 68) g (wRf g h0 h1 h2 h3 R) (wRf g h0 h1 h2 h3 R) [.ref h0, .int a1] (some (.int r)) := by
  refine Ct.mk (by decide) rfl (Nat.le_of_ble_eq_true rfl) ?_
  intro p e s m args below meth c A ls hx hb hr hml hts hown hlocks hA hE hP hD hS hl hAe
  have hown : s.vm.findClass RX1 = some m.cls := hown
  have hl : lv_has ls 4 [(0, .ref h0), (1, .int a1)] := hl
  unfold fX1_holds at hf
  refine lv_aload_n hx hb dX1_holds_0 rfl (lv_at hl 0 rfl) ?_
  refine lv_iload_n hx hb dX1_holds_1 rfl (lv_at hl 1 rfl) ?_
  refine lv_iconst (v := (1 : Int32)) hx hb dX1_holds_2 (by decide) ?_
  obtain ⟨x101, hg, hf⟩ := o1_s hf
  refine Ct.callV (ws' := wRf g h0 h1 h2 h3 R) (As := [.int a1, .int (1 : Int32)]) (rest := []) (st1 := [.int x101]) (c_X1_conditionFact l g h0 h1 h2 h3 R a1 (1 : Int32) hg) (cwV 2 hts gX1_holds_X1_conditionFact rfl rfl rfl q_X1_conditionFact ⟨Nat.le_of_ble_eq_true rfl, Nat.le_of_ble_eq_true rfl⟩) ⟨hx, hb, hml, hown, hts⟩ hE hP hD hS hA [0, 1, 2, 3] rfl rfl rfl rfl 1 0 rfl rfl rfl rfl hl.1 rfl rfl (Nat.le_of_ble_eq_true rfl) dX1_holds_3 (fun H locs hP hD hS => ?_)
  refine lv_istore_n (lv' := [(2, .int x101), (0, .ref h0), (1, .int a1)]) hx hb dX1_holds_6 rfl hl (by decide) rfl (fun ls hl => ?_)
  refine lv_aload_n hx hb dX1_holds_7 rfl (lv_at hl 1 rfl) ?_
  refine lv_iload_n hx hb dX1_holds_8 rfl (lv_at hl 2 rfl) ?_
  refine lv_iconst (v := (2 : Int32)) hx hb dX1_holds_9 (by decide) ?_
  obtain ⟨x102, hg, hf⟩ := o1_s hf
  refine Ct.callV (ws' := wRf g h0 h1 h2 h3 R) (As := [.int a1, .int (2 : Int32)]) (rest := []) (st1 := [.int x102]) (c_X1_conditionFact l g h0 h1 h2 h3 R a1 (2 : Int32) hg) (cwV 2 hts gX1_holds_X1_conditionFact rfl rfl rfl q_X1_conditionFact ⟨Nat.le_of_ble_eq_true rfl, Nat.le_of_ble_eq_true rfl⟩) ⟨hx, hb, hml, hown, hts⟩ hE hP hD hS hA [0, 1, 2, 3] rfl rfl rfl rfl 1 0 rfl rfl rfl rfl hl.1 rfl rfl (Nat.le_of_ble_eq_true rfl) dX1_holds_10 (fun H locs hP hD hS => ?_)
  refine lv_istore_n (lv' := [(3, .int x102), (2, .int x101), (0, .ref h0), (1, .int a1)]) hx hb dX1_holds_13 rfl hl (by decide) rfl (fun ls hl => ?_)
  refine lv_aload_n hx hb dX1_holds_14 rfl (lv_at hl 2 rfl) ?_
  refine lv_iload_n hx hb dX1_holds_15 rfl (lv_at hl 1 rfl) ?_
  obtain ⟨x103, hg, hf⟩ := o1_s hf
  refine Ct.callV (ws' := wRf g h0 h1 h2 h3 R) (As := [.int x101]) (rest := []) (st1 := [.int x103]) (c_X1_hasCistern l g h0 h1 h2 h3 R x101 hg) (cwV 1 hts gX1_holds_X1_hasCistern rfl rfl rfl q_X1_hasCistern ⟨Nat.le_of_ble_eq_true rfl, Nat.le_of_ble_eq_true rfl⟩) ⟨hx, hb, hml, hown, hts⟩ hE hP hD hS hA [0, 1, 2, 3] rfl rfl rfl rfl 1 0 rfl rfl rfl rfl hl.1 rfl rfl (Nat.le_of_ble_eq_true rfl) dX1_holds_16 (fun H locs hP hD hS => ?_)
  refine lv_if_ne (tgt := 24) hx hb dX1_holds_19 (by decide) (fun hc => ?_) (fun hc => ?_)
  · have hf := if_f hf hc
    refine lv_aload_n hx hb dX1_holds_24 rfl (lv_at hl 2 rfl) ?_
    refine lv_iload_n hx hb dX1_holds_25 rfl (lv_at hl 3 rfl) ?_
    refine lv_iconst (v := (0 : Int32)) hx hb dX1_holds_26 (by decide) ?_
    obtain ⟨x104, hg, hf⟩ := o1_s hf
    refine Ct.callV (ws' := wRf g h0 h1 h2 h3 R) (As := [.int a1, .int (0 : Int32)]) (rest := []) (st1 := [.int x104]) (c_X1_conditionFact l g h0 h1 h2 h3 R a1 (0 : Int32) hg) (cwV 2 hts gX1_holds_X1_conditionFact rfl rfl rfl q_X1_conditionFact ⟨Nat.le_of_ble_eq_true rfl, Nat.le_of_ble_eq_true rfl⟩) ⟨hx, hb, hml, hown, hts⟩ hE hP hD hS hA [0, 1, 2, 3] rfl rfl rfl rfl 1 0 rfl rfl rfl rfl hl.1 rfl rfl (Nat.le_of_ble_eq_true rfl) dX1_holds_27 (fun H locs hP hD hS => ?_)
    by_cases hc0 : x104 = (0 : Int32)
    · have hf := if_t hf hc0
      refine lv_tableIn (off := 30) (tgt := 60) hx hb dX1_holds_30 (ts_in _ hc0 (by decide)) (ts_hi _ hc0 (by decide)) (ts_of _ hc0 (by decide)) (by decide) ?_
      refine lv_aload_n hx hb dX1_holds_60 rfl (lv_at hl 2 rfl) ?_
      refine lv_iload_n hx hb dX1_holds_61 rfl (lv_at hl 0 rfl) ?_
      obtain ⟨x105, hg, hf⟩ := o1_s hf
      refine Ct.callV (ws' := wRf g h0 h1 h2 h3 R) (As := [.int x102]) (rest := []) (st1 := [.int x105]) (c_X1_hasCistern l g h0 h1 h2 h3 R x102 hg) (cwV 1 hts gX1_holds_X1_hasCistern rfl rfl rfl q_X1_hasCistern ⟨Nat.le_of_ble_eq_true rfl, Nat.le_of_ble_eq_true rfl⟩) ⟨hx, hb, hml, hown, hts⟩ hE hP hD hS hA [0, 1, 2, 3] rfl rfl rfl rfl 1 0 rfl rfl rfl rfl hl.1 rfl rfl (Nat.le_of_ble_eq_true rfl) dX1_holds_62 (fun H locs hP hD hS => ?_)
      refine lv_if_eq (tgt := 85) hx hb dX1_holds_65 (by decide) (fun hc => ?_) (fun hc => ?_)
      · have hf := if_t hf hc
        refine lv_iconst (v := (0 : Int32)) hx hb dX1_holds_85 (by decide) ?_
        cases hf
        exact Ct.zret hx hb hr (by decide) hlocks hAe hP hD hS dX1_holds_86
      · have hf := if_f hf hc
        refine lv_aload_n hx hb dX1_holds_68 rfl (lv_at hl 2 rfl) ?_
        refine lv_iload_n hx hb dX1_holds_69 rfl (lv_at hl 1 rfl) ?_
        obtain ⟨x106, hg, hf⟩ := o1_s hf
        refine Ct.callV (ws' := wRf g h0 h1 h2 h3 R) (As := [.int x101]) (rest := []) (st1 := [.int x106]) (c_X1_shown l g h0 h1 h2 h3 R x101 hg) (cwV 1 hts gX1_holds_X1_shown rfl rfl rfl q_X1_shown ⟨Nat.le_of_ble_eq_true rfl, Nat.le_of_ble_eq_true rfl⟩) ⟨hx, hb, hml, hown, hts⟩ hE hP hD hS hA [0, 1, 2, 3] rfl rfl rfl rfl 1 0 rfl rfl rfl rfl hl.1 rfl rfl (Nat.le_of_ble_eq_true rfl) dX1_holds_70 (fun H locs hP hD hS => ?_)
        refine lv_aload_n hx hb dX1_holds_73 rfl (lv_at hl 2 rfl) ?_
        refine lv_iload_n hx hb dX1_holds_74 rfl (lv_at hl 0 rfl) ?_
        obtain ⟨x107, hg, hf⟩ := o1_s hf
        refine Ct.callV (ws' := wRf g h0 h1 h2 h3 R) (As := [.int x102]) (rest := [.int x106]) (st1 := [.int x107, .int x106]) (c_X1_shown l g h0 h1 h2 h3 R x102 hg) (cwV 1 hts gX1_holds_X1_shown rfl rfl rfl q_X1_shown ⟨Nat.le_of_ble_eq_true rfl, Nat.le_of_ble_eq_true rfl⟩) ⟨hx, hb, hml, hown, hts⟩ hE hP hD hS hA [0, 1, 2, 3] rfl rfl rfl rfl 1 0 rfl rfl rfl rfl hl.1 rfl rfl (Nat.le_of_ble_eq_true rfl) dX1_holds_75 (fun H locs hP hD hS => ?_)
        refine lv_icmp_le (tgt := 85) hx hb dX1_holds_78 (by decide) (fun hc => ?_) (fun hc => ?_)
        · have hf := if_t hf hc
          refine lv_iconst (v := (0 : Int32)) hx hb dX1_holds_85 (by decide) ?_
          cases hf
          exact Ct.zret hx hb hr (by decide) hlocks hAe hP hD hS dX1_holds_86
        · have hf := if_f hf hc
          refine lv_iconst (v := (1 : Int32)) hx hb dX1_holds_81 (by decide) ?_
          refine lv_goto (tgt := 86) hx hb dX1_holds_82 (by decide) ?_
          cases hf
          exact Ct.zret hx hb hr (by decide) hlocks hAe hP hD hS dX1_holds_86
    · have hf := if_f hf hc0
      by_cases hc1 : x104 = (1 : Int32)
      · have hf := if_t hf hc1
        refine lv_tableIn (off := 57) (tgt := 87) hx hb dX1_holds_30 (ts_in _ hc1 (by decide)) (ts_hi _ hc1 (by decide)) (ts_of _ hc1 (by decide)) (by decide) ?_
        refine lv_aload_n hx hb dX1_holds_87 rfl (lv_at hl 2 rfl) ?_
        refine lv_iload_n hx hb dX1_holds_88 rfl (lv_at hl 0 rfl) ?_
        obtain ⟨x108, hg, hf⟩ := o1_s hf
        refine Ct.callV (ws' := wRf g h0 h1 h2 h3 R) (As := [.int x102]) (rest := []) (st1 := [.int x108]) (c_X1_hasCistern l g h0 h1 h2 h3 R x102 hg) (cwV 1 hts gX1_holds_X1_hasCistern rfl rfl rfl q_X1_hasCistern ⟨Nat.le_of_ble_eq_true rfl, Nat.le_of_ble_eq_true rfl⟩) ⟨hx, hb, hml, hown, hts⟩ hE hP hD hS hA [0, 1, 2, 3] rfl rfl rfl rfl 1 0 rfl rfl rfl rfl hl.1 rfl rfl (Nat.le_of_ble_eq_true rfl) dX1_holds_89 (fun H locs hP hD hS => ?_)
        refine lv_if_eq (tgt := 112) hx hb dX1_holds_92 (by decide) (fun hc => ?_) (fun hc => ?_)
        · have hf := if_t hf hc
          refine lv_iconst (v := (0 : Int32)) hx hb dX1_holds_112 (by decide) ?_
          cases hf
          exact Ct.zret hx hb hr (by decide) hlocks hAe hP hD hS dX1_holds_113
        · have hf := if_f hf hc
          refine lv_aload_n hx hb dX1_holds_95 rfl (lv_at hl 2 rfl) ?_
          refine lv_iload_n hx hb dX1_holds_96 rfl (lv_at hl 1 rfl) ?_
          obtain ⟨x109, hg, hf⟩ := o1_s hf
          refine Ct.callV (ws' := wRf g h0 h1 h2 h3 R) (As := [.int x101]) (rest := []) (st1 := [.int x109]) (c_X1_shown l g h0 h1 h2 h3 R x101 hg) (cwV 1 hts gX1_holds_X1_shown rfl rfl rfl q_X1_shown ⟨Nat.le_of_ble_eq_true rfl, Nat.le_of_ble_eq_true rfl⟩) ⟨hx, hb, hml, hown, hts⟩ hE hP hD hS hA [0, 1, 2, 3] rfl rfl rfl rfl 1 0 rfl rfl rfl rfl hl.1 rfl rfl (Nat.le_of_ble_eq_true rfl) dX1_holds_97 (fun H locs hP hD hS => ?_)
          refine lv_aload_n hx hb dX1_holds_100 rfl (lv_at hl 2 rfl) ?_
          refine lv_iload_n hx hb dX1_holds_101 rfl (lv_at hl 0 rfl) ?_
          obtain ⟨x110, hg, hf⟩ := o1_s hf
          refine Ct.callV (ws' := wRf g h0 h1 h2 h3 R) (As := [.int x102]) (rest := [.int x109]) (st1 := [.int x110, .int x109]) (c_X1_shown l g h0 h1 h2 h3 R x102 hg) (cwV 1 hts gX1_holds_X1_shown rfl rfl rfl q_X1_shown ⟨Nat.le_of_ble_eq_true rfl, Nat.le_of_ble_eq_true rfl⟩) ⟨hx, hb, hml, hown, hts⟩ hE hP hD hS hA [0, 1, 2, 3] rfl rfl rfl rfl 1 0 rfl rfl rfl rfl hl.1 rfl rfl (Nat.le_of_ble_eq_true rfl) dX1_holds_102 (fun H locs hP hD hS => ?_)
          refine lv_icmp_ne (tgt := 112) hx hb dX1_holds_105 (by decide) (fun hc => ?_) (fun hc => ?_)
          · have hf := if_f hf hc
            refine lv_iconst (v := (0 : Int32)) hx hb dX1_holds_112 (by decide) ?_
            cases hf
            exact Ct.zret hx hb hr (by decide) hlocks hAe hP hD hS dX1_holds_113
          · have hf := if_t hf hc
            refine lv_iconst (v := (1 : Int32)) hx hb dX1_holds_108 (by decide) ?_
            refine lv_goto (tgt := 113) hx hb dX1_holds_109 (by decide) ?_
            cases hf
            exact Ct.zret hx hb hr (by decide) hlocks hAe hP hD hS dX1_holds_113
      · have hf := if_f hf hc1
        by_cases hc2 : x104 = (2 : Int32)
        · have hf := if_t hf hc2
          refine lv_tableIn (off := 84) (tgt := 114) hx hb dX1_holds_30 (ts_in _ hc2 (by decide)) (ts_hi _ hc2 (by decide)) (ts_of _ hc2 (by decide)) (by decide) ?_
          refine lv_aload_n hx hb dX1_holds_114 rfl (lv_at hl 2 rfl) ?_
          refine lv_iload_n hx hb dX1_holds_115 rfl (lv_at hl 1 rfl) ?_
          obtain ⟨x111, hg, hf⟩ := o1_s hf
          refine Ct.callV (ws' := wRf g h0 h1 h2 h3 R) (As := [.int x101]) (rest := []) (st1 := [.int x111]) (c_X1_shown l g h0 h1 h2 h3 R x101 hg) (cwV 1 hts gX1_holds_X1_shown rfl rfl rfl q_X1_shown ⟨Nat.le_of_ble_eq_true rfl, Nat.le_of_ble_eq_true rfl⟩) ⟨hx, hb, hml, hown, hts⟩ hE hP hD hS hA [0, 1, 2, 3] rfl rfl rfl rfl 1 0 rfl rfl rfl rfl hl.1 rfl rfl (Nat.le_of_ble_eq_true rfl) dX1_holds_116 (fun H locs hP hD hS => ?_)
          refine lv_if_ne (tgt := 126) hx hb dX1_holds_119 (by decide) (fun hc => ?_) (fun hc => ?_)
          · have hf := if_f hf hc
            refine lv_iconst (v := (0 : Int32)) hx hb dX1_holds_126 (by decide) ?_
            cases hf
            exact Ct.zret hx hb hr (by decide) hlocks hAe hP hD hS dX1_holds_127
          · have hf := if_t hf hc
            refine lv_iconst (v := (1 : Int32)) hx hb dX1_holds_122 (by decide) ?_
            refine lv_goto (tgt := 127) hx hb dX1_holds_123 (by decide) ?_
            cases hf
            exact Ct.zret hx hb hr (by decide) hlocks hAe hP hD hS dX1_holds_127
        · have hf := if_f hf hc2
          by_cases hc3 : x104 = (3 : Int32)
          · have hf := if_t hf hc3
            refine lv_tableIn (off := 98) (tgt := 128) hx hb dX1_holds_30 (ts_in _ hc3 (by decide)) (ts_hi _ hc3 (by decide)) (ts_of _ hc3 (by decide)) (by decide) ?_
            refine lv_aload_n hx hb dX1_holds_128 rfl (lv_at hl 2 rfl) ?_
            refine lv_iload_n hx hb dX1_holds_129 rfl (lv_at hl 1 rfl) ?_
            obtain ⟨x112, hg, hf⟩ := o1_s hf
            refine Ct.callV (ws' := wRf g h0 h1 h2 h3 R) (As := [.int x101]) (rest := []) (st1 := [.int x112]) (c_X1_shown l g h0 h1 h2 h3 R x101 hg) (cwV 1 hts gX1_holds_X1_shown rfl rfl rfl q_X1_shown ⟨Nat.le_of_ble_eq_true rfl, Nat.le_of_ble_eq_true rfl⟩) ⟨hx, hb, hml, hown, hts⟩ hE hP hD hS hA [0, 1, 2, 3] rfl rfl rfl rfl 1 0 rfl rfl rfl rfl hl.1 rfl rfl (Nat.le_of_ble_eq_true rfl) dX1_holds_130 (fun H locs hP hD hS => ?_)
            refine lv_aload_n hx hb dX1_holds_133 rfl (lv_at hl 2 rfl) ?_
            refine lv_iload_n hx hb dX1_holds_134 rfl (lv_at hl 1 rfl) ?_
            refine lv_iconst (v := (1 : Int32)) hx hb dX1_holds_135 (by decide) ?_
            obtain ⟨x113, hg, hf⟩ := o1_s hf
            refine Ct.callV (ws' := wRf g h0 h1 h2 h3 R) (As := [.int x101, .int (1 : Int32)]) (rest := [.int x112]) (st1 := [.int x113, .int x112]) (c_X1_get l g h0 h1 h2 h3 R x101 (1 : Int32) hg) (cwV 2 hts gX1_holds_X1_get rfl rfl rfl q_X1_get ⟨Nat.le_of_ble_eq_true rfl, Nat.le_of_ble_eq_true rfl⟩) ⟨hx, hb, hml, hown, hts⟩ hE hP hD hS hA [0, 1, 2, 3] rfl rfl rfl rfl 1 0 rfl rfl rfl rfl hl.1 rfl rfl (Nat.le_of_ble_eq_true rfl) dX1_holds_136 (fun H locs hP hD hS => ?_)
            refine lv_icmp_ne (tgt := 146) hx hb dX1_holds_139 (by decide) (fun hc => ?_) (fun hc => ?_)
            · have hf := if_f hf hc
              refine lv_iconst (v := (0 : Int32)) hx hb dX1_holds_146 (by decide) ?_
              cases hf
              exact Ct.zret hx hb hr (by decide) hlocks hAe hP hD hS dX1_holds_147
            · have hf := if_t hf hc
              refine lv_iconst (v := (1 : Int32)) hx hb dX1_holds_142 (by decide) ?_
              refine lv_goto (tgt := 147) hx hb dX1_holds_143 (by decide) ?_
              cases hf
              exact Ct.zret hx hb hr (by decide) hlocks hAe hP hD hS dX1_holds_147
          · have hf := if_f hf hc3
            have hn0 := lv_neT (a := 0) hc0 (by decide)
            have hn1 := lv_neT (a := 1) hc1 (by decide)
            have hn2 := lv_neT (a := 2) hc2 (by decide)
            have hn3 := lv_neT (a := 3) hc3 (by decide)
            refine lv_tableOut (tgt := 148) hx hb dX1_holds_30 (by omega) (by decide) ?_
            refine lv_aload_n hx hb dX1_holds_148 rfl (lv_at hl 2 rfl) ?_
            refine lv_iload_n hx hb dX1_holds_149 rfl (lv_at hl 1 rfl) ?_
            obtain ⟨x114, hg, hf⟩ := o1_s hf
            refine Ct.callV (ws' := wRf g h0 h1 h2 h3 R) (As := [.int x101]) (rest := []) (st1 := [.int x114]) (c_X1_shown l g h0 h1 h2 h3 R x101 hg) (cwV 1 hts gX1_holds_X1_shown rfl rfl rfl q_X1_shown ⟨Nat.le_of_ble_eq_true rfl, Nat.le_of_ble_eq_true rfl⟩) ⟨hx, hb, hml, hown, hts⟩ hE hP hD hS hA [0, 1, 2, 3] rfl rfl rfl rfl 1 0 rfl rfl rfl rfl hl.1 rfl rfl (Nat.le_of_ble_eq_true rfl) dX1_holds_150 (fun H locs hP hD hS => ?_)
            refine lv_iload_n hx hb dX1_holds_153 rfl (lv_at hl 0 rfl) ?_
            refine lv_icmp_ge (tgt := 161) hx hb dX1_holds_154 (by decide) (fun hc => ?_) (fun hc => ?_)
            · have hf := if_t hf hc
              refine lv_iconst (v := (0 : Int32)) hx hb dX1_holds_161 (by decide) ?_
              cases hf
              exact Ct.zret hx hb hr (by decide) hlocks hAe hP hD hS dX1_holds_162
            · have hf := if_f hf hc
              refine lv_iconst (v := (1 : Int32)) hx hb dX1_holds_157 (by decide) ?_
              refine lv_goto (tgt := 162) hx hb dX1_holds_158 (by decide) ?_
              cases hf
              exact Ct.zret hx hb hr (by decide) hlocks hAe hP hD hS dX1_holds_162
  · have hf := if_t hf hc
    refine lv_iconst (v := (0 : Int32)) hx hb dX1_holds_22 (by decide) ?_
    cases hf
    exact Ct.zret hx hb hr (by decide) hlocks hAe hP hD hS dX1_holds_23
def fX1_isOpen_L2 (R : Rf) (kx : Option (Int32)) : Nat → Int32 → Option (Int32)
  | 0, _ => none
  | k + 1, x1 => if R.2.2.2.2.1 ≤ x1 then (kx) else (o1 (fX1_holds R x1) (fun x102 => if x102 = 0 then (some (0 : Int32)) else (fX1_isOpen_L2 R kx k (x1 + (1 : Int32)))))
def fX1_isOpen (R : Rf) : Option (Int32) := fX1_isOpen_L2 R (some (1 : Int32)) fu (0 : Int32)
theorem q_X1_isOpen : yX1_isOpen.cls = RX1 ∧ yX1_isOpen.cls ≠ "java/lang/invoke/MethodHandle" ∧ yX1_isOpen.cls ≠ "java/lang/invoke/VarHandle" ∧ (parseMethodDescriptor yX1_isOpen.desc).map (fun d => d.parameters.length) = some 0 := by decide +kernel
theorem i_X1_isOpen_X1 : ∀ w ∈ u_ws RX1 TX1 9, w ∈ wsX1_isOpen := fun _ h => List.mem_cons_of_mem _ (List.mem_append_right _ (h))
set_option maxHeartbeats 4000000 in
set_option maxRecDepth 100000 in
theorem c_X1_isOpen (l : Launch) (g : gG) (h0 h1 h2 h3 : Nat) (R : Rf) {r : Int32} (hf : fX1_isOpen R = some r) : Ct l yX1_isOpen wsX1_isOpen (rmm 4 91) g (wRf g h0 h1 h2 h3 R) (wRf g h0 h1 h2 h3 R) [.ref h0] (some (.int r)) := by
  refine Ct.mk (by decide) rfl (Nat.le_of_ble_eq_true rfl) ?_
  intro p e s m args below meth c A ls hx hb hr hml hts hown hlocks hA hE hP hD hS hl hAe
  have hown : s.vm.findClass RX1 = some m.cls := hown
  have hl : lv_has ls 2 [(0, .ref h0)] := hl
  have w1 := hts (.fieldLink RX1 25 "RainVault$Roof" "conditions" "I") (List.mem_of_getElem? (i := 1) rfl)
  have L2 : ∀ (kx : Option (Int32)) (k : Nat) (x1 : Int32) (H : Heap) (locs : List Loc) (ls : Array Slot), fX1_isOpen_L2 R kx k x1 = some r → va_P g.1 vwK (wRf g h0 h1 h2 h3 R) H → va_D A (wRf g h0 h1 h2 h3 R) → va_S A s.heap H locs → lv_has ls 2 [(0, .ref h0), (1, .int x1)] → (∀ (H : Heap) (locs : List Loc) (ls : Array Slot), kx = some r → va_P g.1 vwK (wRf g h0 h1 h2 h3 R) H → va_D A (wRf g h0 h1 h2 h3 R) → va_S A s.heap H locs → lv_has ls 2 [] → W p l e (rmm 4 91) s m args below meth c H locs 0 0 (MQ below (QcG g (wRf g h0 h1 h2 h3 R) (wRf g h0 h1 h2 h3 R) (some (.int r)) s.heap.size) args s 0 0 A) (F0 m 26 ls [])) → W p l e (rmm 4 91) s m args below meth c H locs 0 0 (MQ below (QcG g (wRf g h0 h1 h2 h3 R) (wRf g h0 h1 h2 h3 R) (some (.int r)) s.heap.size) args s 0 0 A) (F0 m 2 ls []) := by
    intro kx k
    induction k with
    | zero => intro x1 H locs ls hf; exact nomatch (show (none : Option (Int32)) = some _ from hf)
    | succ k ih =>
      intro x1 H locs ls hf hP hD hS hl hk
      rw [fX1_isOpen_L2] at hf
      refine lv_iload_n hx hb dX1_isOpen_2 rfl (lv_at hl 1 rfl) ?_
      refine lv_aload_n hx hb dX1_isOpen_3 rfl (lv_at hl 0 rfl) ?_
      refine va_get (D := g.1) (ci := 1) (v := .int R.2.2.2.2.1) (C := RX1) (T := TX1) (N := 9) hx hb hts i_X1_isOpen_X1 hown hE.1 hP 0 rfl rfl 4 (by decide) w1 (fun _ h9 => h9) rfl dX1_isOpen_4 ?_
      refine lv_icmp_ge (tgt := 26) hx hb dX1_isOpen_7 (by decide) (fun hc => ?_) (fun hc => ?_)
      · have hf := if_t hf hc
        exact hk _ _ _  hf hP hD hS (lv_sub hl [] rfl)
      · have hf := if_f hf hc
        refine lv_aload_n hx hb dX1_isOpen_10 rfl (lv_at hl 0 rfl) ?_
        refine lv_iload_n hx hb dX1_isOpen_11 rfl (lv_at hl 1 rfl) ?_
        obtain ⟨x102, hg, hf⟩ := o1_s hf
        refine Ct.callV (ws' := wRf g h0 h1 h2 h3 R) (As := [.int x1]) (rest := []) (st1 := [.int x102]) (c_X1_holds l g h0 h1 h2 h3 R x1 hg) (cwV 1 hts gX1_isOpen_X1_holds rfl rfl rfl q_X1_holds ⟨Nat.le_of_ble_eq_true rfl, Nat.le_of_ble_eq_true rfl⟩) ⟨hx, hb, hml, hown, hts⟩ hE hP hD hS hA [0, 1, 2, 3] rfl rfl rfl rfl 1 0 rfl rfl rfl rfl hl.1 rfl rfl (Nat.le_of_ble_eq_true rfl) dX1_isOpen_12 (fun H locs hP hD hS => ?_)
        refine lv_if_ne (tgt := 20) hx hb dX1_isOpen_15 (by decide) (fun hc => ?_) (fun hc => ?_)
        · have hf := if_f hf hc
          refine lv_iinc (v := (x1 + (1 : Int32))) (lv' := [(1, .int (x1 + (1 : Int32))), (0, .ref h0)]) hx hb dX1_isOpen_20 hl (k := 1) rfl rfl (by decide) rfl (fun ls hl => ?_)
          refine lv_goto (tgt := 2) hx hb dX1_isOpen_23 (by decide) ?_
          exact ih _ _ _ _  hf hP hD hS (lv_sub hl [1, 0] rfl) hk
        · have hf := if_t hf hc
          refine lv_iconst (v := (0 : Int32)) hx hb dX1_isOpen_18 (by decide) ?_
          cases hf
          exact Ct.zret hx hb hr (by decide) hlocks hAe hP hD hS dX1_isOpen_19
  unfold fX1_isOpen at hf
  refine lv_iconst (v := (0 : Int32)) hx hb dX1_isOpen_0 (by decide) ?_
  refine lv_istore_n (lv' := [(1, .int (0 : Int32)), (0, .ref h0)]) hx hb dX1_isOpen_1 rfl hl (by decide) rfl (fun ls hl => ?_)
  refine L2 _ _ _ _ _ _  hf hP hD hS (lv_sub hl [1, 0] rfl) (fun H locs ls hf hP hD hS hl => ?_)
  refine lv_iconst (v := (1 : Int32)) hx hb dX1_isOpen_26 (by decide) ?_
  cases hf
  exact Ct.zret hx hb hr (by decide) hlocks hAe hP hD hS dX1_isOpen_27
def fX0_nextWay_L33 (x1 : Int32) (x3 : Int32) (kx : Ca → Option (Int32 × Ca)) : Nat → Ca → Int32 → Option (Int32 × Ca)
  | 0, _, _ => none
  | k + 1, C, x4 => if x1 ≤ x4 then (kx C) else (o1 (fX6_put 4 C.2 x4 x3) (fun f104 => fX0_nextWay_L33 x1 x3 kx k (C.1, f104) (x4 + (1 : Int32))))
def fX0_nextWay_L4 (R : Rf) (x1 : Int32) (kx : Ca → Option (Int32 × Ca)) : Nat → Ca → Int32 → Option (Int32 × Ca)
  | 0, _, _ => none
  | k + 1, C, x2 => if x2 < 0 then (kx C) else (o1 (fX6_at 4 C.2 x2) (fun x106 => o1 (fX1_hasCistern R (x106 + (1 : Int32))) (fun x107 => if x107 = 0 then (fX0_nextWay_L4 R x1 kx k C (x2 + (-1 : Int32))) else (fX0_nextWay_L33 x1 (x106 + (1 : Int32)) (fun C108 => some ((1 : Int32), C108)) fu C x2))))
def fX0_nextWay (C : Ca) (R : Rf) (a1 : Int32) : Option (Int32 × Ca) := fX0_nextWay_L4 R a1 (fun C109 => some ((0 : Int32), C109)) fu C (a1 - (1 : Int32))
theorem q_X0_nextWay : yX0_nextWay.cls = RX0 ∧ yX0_nextWay.cls ≠ "java/lang/invoke/MethodHandle" ∧ yX0_nextWay.cls ≠ "java/lang/invoke/VarHandle" ∧ (parseMethodDescriptor yX0_nextWay.desc).map (fun d => d.parameters.length) = some 1 := by decide +kernel
theorem i_X0_nextWay_X0 : ∀ w ∈ u_ws RX0 TX0 3, w ∈ wsX0_nextWay := fun _ h => List.mem_cons_of_mem _ (List.mem_append_left _ (List.mem_append_right _ (h)))
set_option maxHeartbeats 4000000 in
set_option maxRecDepth 100000 in
theorem c_X0_nextWay (l : Launch) (g : gG) (c0 c1 c2 h0 h1 h2 h3 : Nat) (C : Ca) (R : Rf) (a1 : Int32) {r : Int32} {C' : Ca} (hf : fX0_nextWay C R a1 = some (r, C')) : Ct l yX0_nextWay wsX0_nextWay (rmm 1 22) g (wCa g c0 c1 c2 h0 h1 h2 h3 C R) (wCa g c0 c1 c2 h0 h1 h2 h3 (C') R) [.ref c0, .int a1] (some (.int r)) := by
  refine Ct.mk (by decide) rfl (Nat.le_of_ble_eq_true rfl) ?_
  intro p e s m args below meth c A ls hx hb hr hml hts hown hlocks hA hE hP hD hS hl hAe
  have hown : s.vm.findClass RX0 = some m.cls := hown
  have hl : lv_has ls 5 [(0, .ref c0), (1, .int a1)] := hl
  have w1 := hts (.fieldLink RX0 15 "RainVault$Carrier" "way" "[I") (List.mem_of_getElem? (i := 1) rfl)
  have w2 := hts (.initialized RX6) (List.mem_of_getElem? (i := 4) rfl)
  have w3 := hts (.static yX6_at) (List.mem_of_getElem? (i := 3) rfl)
  have w4 := hts (.fieldLink RX0 18 "RainVault$Carrier" "trial" "LRainVault$Roof;") (List.mem_of_getElem? (i := 2) rfl)
  have w5 := hts (.static yX6_put) (List.mem_of_getElem? (i := 12) rfl)
  have L33 : ∀ (x1 : Int32) (x3 : Int32) (kx : Ca → Option (Int32 × Ca)) (k : Nat) (C : Ca) (x4 : Int32) (H : Heap) (locs : List Loc) (ls : Array Slot), fX0_nextWay_L33 x1 x3 kx k C x4 = some (r, C') → va_P g.1 vwK (wCa g c0 c1 c2 h0 h1 h2 h3 C R) H → va_D A (wCa g c0 c1 c2 h0 h1 h2 h3 C R) → va_S A s.heap H locs → lv_has ls 5 [(0, .ref c0), (1, .int x1), (3, .int x3), (4, .int x4)] → (∀ (C : Ca) (H : Heap) (locs : List Loc) (ls : Array Slot), kx C = some (r, C') → va_P g.1 vwK (wCa g c0 c1 c2 h0 h1 h2 h3 C R) H → va_D A (wCa g c0 c1 c2 h0 h1 h2 h3 C R) → va_S A s.heap H locs → lv_has ls 5 [] → W p l e (rmm 1 22) s m args below meth c H locs 0 0 (MQ below (QcG g (wCa g c0 c1 c2 h0 h1 h2 h3 C R) (wCa g c0 c1 c2 h0 h1 h2 h3 (C') R) (some (.int r)) s.heap.size) args s 0 0 A) (F0 m 55 ls [])) → W p l e (rmm 1 22) s m args below meth c H locs 0 0 (MQ below (QcG g (wCa g c0 c1 c2 h0 h1 h2 h3 C R) (wCa g c0 c1 c2 h0 h1 h2 h3 (C') R) (some (.int r)) s.heap.size) args s 0 0 A) (F0 m 33 ls []) := by
    intro x1 x3 kx k
    induction k with
    | zero => intro C x4 H locs ls hf; exact nomatch (show (none : Option (Int32 × Ca)) = some _ from hf)
    | succ k ih =>
      intro C x4 H locs ls hf hP hD hS hl hk
      rw [fX0_nextWay_L33] at hf
      refine lv_iload hx hb dX0_nextWay_33 (lv_at hl 3 rfl) ?_
      refine lv_iload_n hx hb dX0_nextWay_35 rfl (lv_at hl 1 rfl) ?_
      refine lv_icmp_ge (tgt := 55) hx hb dX0_nextWay_36 (by decide) (fun hc => ?_) (fun hc => ?_)
      · have hf := if_t hf hc
        exact hk _ _ _ _  hf hP hD hS (lv_sub hl [] rfl)
      · have hf := if_f hf hc
        refine lv_aload_n hx hb dX0_nextWay_39 rfl (lv_at hl 0 rfl) ?_
        refine va_get (D := g.1) (ci := 0) (v := .ref c2) (C := RX0) (T := TX0) (N := 3) hx hb hts i_X0_nextWay_X0 hown hE.1 hP 0 rfl rfl 2 (by decide) w1 (fun _ h9 => h9) rfl dX0_nextWay_40 ?_
        refine lv_iload hx hb dX0_nextWay_43 (lv_at hl 3 rfl) ?_
        refine lv_iload_n hx hb dX0_nextWay_45 rfl (lv_at hl 2 rfl) ?_
        obtain ⟨f104, hg, hf⟩ := o1_s hf
        refine Ct.callSN (ws' := wCa g c0 c1 c2 h0 h1 h2 h3 (C.1, f104) R) (As := [.ref c2, .int x4, .int x3]) (rest := []) (st1 := []) (c_X6_put l g c2 4 C.2 x4 x3 hg) (⟨va_cnB 3 hts gX0_nextWay_X6_put_n49 rfl rfl rfl (hE.2.1 _ (List.mem_of_getElem? (i := 36) rfl)) w2 q_X6_put.2 ⟨Nat.le_of_ble_eq_true rfl, Nat.le_of_ble_eq_true rfl⟩, w5, trivial⟩) ⟨hx, hb, hml, hown, hts⟩ hE hP hD hS hA [2] rfl rfl rfl rfl rfl hl.1 rfl rfl (Nat.le_of_ble_eq_true rfl) dX0_nextWay_46 (fun H locs hP hD hS => ?_)
        refine lv_iinc (v := (x4 + (1 : Int32))) (lv' := [(4, .int (x4 + (1 : Int32))), (0, .ref c0), (1, .int x1), (3, .int x3)]) hx hb dX0_nextWay_49 hl (k := 3) rfl rfl (by decide) rfl (fun ls hl => ?_)
        refine lv_goto (tgt := 33) hx hb dX0_nextWay_52 (by decide) ?_
        exact ih _ _ _ _ _  hf hP hD hS (lv_sub hl [1, 2, 3, 0] rfl) hk
  have L4 : ∀ (x1 : Int32) (kx : Ca → Option (Int32 × Ca)) (k : Nat) (C : Ca) (x2 : Int32) (H : Heap) (locs : List Loc) (ls : Array Slot), fX0_nextWay_L4 R x1 kx k C x2 = some (r, C') → va_P g.1 vwK (wCa g c0 c1 c2 h0 h1 h2 h3 C R) H → va_D A (wCa g c0 c1 c2 h0 h1 h2 h3 C R) → va_S A s.heap H locs → lv_has ls 5 [(0, .ref c0), (1, .int x1), (2, .int x2)] → (∀ (C : Ca) (H : Heap) (locs : List Loc) (ls : Array Slot), kx C = some (r, C') → va_P g.1 vwK (wCa g c0 c1 c2 h0 h1 h2 h3 C R) H → va_D A (wCa g c0 c1 c2 h0 h1 h2 h3 C R) → va_S A s.heap H locs → lv_has ls 5 [] → W p l e (rmm 1 22) s m args below meth c H locs 0 0 (MQ below (QcG g (wCa g c0 c1 c2 h0 h1 h2 h3 C R) (wCa g c0 c1 c2 h0 h1 h2 h3 (C') R) (some (.int r)) s.heap.size) args s 0 0 A) (F0 m 63 ls [])) → W p l e (rmm 1 22) s m args below meth c H locs 0 0 (MQ below (QcG g (wCa g c0 c1 c2 h0 h1 h2 h3 C R) (wCa g c0 c1 c2 h0 h1 h2 h3 (C') R) (some (.int r)) s.heap.size) args s 0 0 A) (F0 m 4 ls []) := by
    intro x1 kx k
    induction k with
    | zero => intro C x2 H locs ls hf; exact nomatch (show (none : Option (Int32 × Ca)) = some _ from hf)
    | succ k ih =>
      intro C x2 H locs ls hf hP hD hS hl hk
      rw [fX0_nextWay_L4] at hf
      refine lv_iload_n hx hb dX0_nextWay_4 rfl (lv_at hl 2 rfl) ?_
      refine lv_if_lt (tgt := 63) hx hb dX0_nextWay_5 (by decide) (fun hc => ?_) (fun hc => ?_)
      · have hf := if_t hf hc
        exact hk _ _ _ _  hf hP hD hS (lv_sub hl [] rfl)
      · have hf := if_f hf hc
        refine lv_aload_n hx hb dX0_nextWay_8 rfl (lv_at hl 0 rfl) ?_
        refine va_get (D := g.1) (ci := 0) (v := .ref c2) (C := RX0) (T := TX0) (N := 3) hx hb hts i_X0_nextWay_X0 hown hE.1 hP 0 rfl rfl 2 (by decide) w1 (fun _ h9 => h9) rfl dX0_nextWay_9 ?_
        refine lv_iload_n hx hb dX0_nextWay_12 rfl (lv_at hl 2 rfl) ?_
        obtain ⟨x106, hg, hf⟩ := o1_s hf
        refine Ct.callSN (ws' := wCa g c0 c1 c2 h0 h1 h2 h3 C R) (As := [.ref c2, .int x2]) (rest := []) (st1 := [.int x106]) (c_X6_at l g c2 4 C.2 x2 hg) (⟨va_cnB 2 hts gX0_nextWay_X6_at_n42 rfl rfl rfl (hE.2.1 _ (List.mem_of_getElem? (i := 35) rfl)) w2 q_X6_at.2 ⟨Nat.le_of_ble_eq_true rfl, Nat.le_of_ble_eq_true rfl⟩, w3, trivial⟩) ⟨hx, hb, hml, hown, hts⟩ hE hP hD hS hA [2] rfl rfl rfl rfl rfl hl.1 rfl rfl (Nat.le_of_ble_eq_true rfl) dX0_nextWay_13 (fun H locs hP hD hS => ?_)
        refine lv_iconst (v := (1 : Int32)) hx hb dX0_nextWay_16 (by decide) ?_
        refine lv_iadd hx hb dX0_nextWay_17 ?_
        refine lv_istore_n (lv' := [(3, .int (x106 + (1 : Int32))), (0, .ref c0), (1, .int x1), (2, .int x2)]) hx hb dX0_nextWay_18 rfl hl (by decide) rfl (fun ls hl => ?_)
        refine lv_aload_n hx hb dX0_nextWay_19 rfl (lv_at hl 1 rfl) ?_
        refine va_get (D := g.1) (ci := 0) (v := .ref h0) (C := RX0) (T := TX0) (N := 3) hx hb hts i_X0_nextWay_X0 hown hE.1 hP 0 rfl rfl 0 (by decide) w4 (fun _ h9 => h9) rfl dX0_nextWay_20 ?_
        refine lv_iload_n hx hb dX0_nextWay_23 rfl (lv_at hl 0 rfl) ?_
        obtain ⟨x107, hg, hf⟩ := o1_s hf
        refine Ct.callV (ws' := wCa g c0 c1 c2 h0 h1 h2 h3 C R) (As := [.int (x106 + (1 : Int32))]) (rest := []) (st1 := [.int x107]) (c_X1_hasCistern l g h0 h1 h2 h3 R (x106 + (1 : Int32)) hg) (cwV 1 hts gX0_nextWay_X1_hasCistern rfl rfl rfl q_X1_hasCistern ⟨Nat.le_of_ble_eq_true rfl, Nat.le_of_ble_eq_true rfl⟩) ⟨hx, hb, hml, hown, hts⟩ hE hP hD hS hA [3, 4, 5, 6] rfl rfl rfl rfl 1 3 rfl rfl rfl rfl hl.1 rfl rfl (Nat.le_of_ble_eq_true rfl) dX0_nextWay_24 (fun H locs hP hD hS => ?_)
        refine lv_if_eq (tgt := 57) hx hb dX0_nextWay_27 (by decide) (fun hc => ?_) (fun hc => ?_)
        · have hf := if_t hf hc
          refine lv_iinc (v := (x2 + (-1 : Int32))) (lv' := [(2, .int (x2 + (-1 : Int32))), (3, .int (x106 + (1 : Int32))), (0, .ref c0), (1, .int x1)]) hx hb dX0_nextWay_57 hl (k := 3) rfl rfl (by decide) rfl (fun ls hl => ?_)
          refine lv_goto (tgt := 4) hx hb dX0_nextWay_60 (by decide) ?_
          exact ih _ _ _ _ _  hf hP hD hS (lv_sub hl [2, 3, 0] rfl) hk
        · have hf := if_f hf hc
          refine lv_iload_n hx hb dX0_nextWay_30 rfl (lv_at hl 3 rfl) ?_
          refine lv_istore (lv' := [(4, .int x2), (3, .int (x106 + (1 : Int32))), (0, .ref c0), (1, .int x1), (2, .int x2)]) hx hb dX0_nextWay_31 hl (by decide) rfl (fun ls hl => ?_)
          refine L33 _ _ _ _ _ _ _ _ _  hf hP hD hS (lv_sub hl [2, 3, 1, 0] rfl) (fun C108 H locs ls hf hP hD hS hl => ?_)
          refine lv_iconst (v := (1 : Int32)) hx hb dX0_nextWay_55 (by decide) ?_
          cases hf
          exact Ct.zret hx hb hr (by decide) hlocks hAe hP hD hS dX0_nextWay_56
  unfold fX0_nextWay at hf
  refine lv_iload_n hx hb dX0_nextWay_0 rfl (lv_at hl 1 rfl) ?_
  refine lv_iconst (v := (1 : Int32)) hx hb dX0_nextWay_1 (by decide) ?_
  refine lv_isub hx hb dX0_nextWay_2 ?_
  refine lv_istore_n (lv' := [(2, .int (a1 - (1 : Int32))), (0, .ref c0), (1, .int a1)]) hx hb dX0_nextWay_3 rfl hl (by decide) rfl (fun ls hl => ?_)
  refine L4 _ _ _ _ _ _ _ _  hf hP hD hS (lv_sub hl [1, 2, 0] rfl) (fun C109 H locs ls hf hP hD hS hl => ?_)
  refine lv_iconst (v := (0 : Int32)) hx hb dX0_nextWay_63 (by decide) ?_
  cases hf
  exact Ct.zret hx hb hr (by decide) hlocks hAe hP hD hS dX0_nextWay_64
def fX0_fewest_L27 (x1 : Int32) (kx : Ca → Rf → Option (Int32 × Ca × Rf)) : Nat → Ca → Rf → Int32 → Int32 → Option (Int32 × Ca × Rf)
  | 0, _, _, _, _ => none
  | k + 1, C, R, x2, x3 => if (1000 : Int32) ≤ x3 then (kx C R) else (if x2 = 0 then (kx C R) else (o2 (fX0_carryOnTrial C R x1) (fun x110 R111 => if x110 = 0 then (o2 (fX0_nextWay C R111 x1) (fun x112 C113 => fX0_fewest_L27 x1 kx k C113 R111 x112 (x3 + (1 : Int32)))) else (o1 (fX1_isOpen R111) (fun x114 => if x114 = 0 then (o2 (fX0_nextWay C R111 x1) (fun x115 C116 => fX0_fewest_L27 x1 kx k C116 R111 x115 (x3 + (1 : Int32)))) else (some (x1, C, R111)))))))
def fX0_fewest_L14 (kx : Ca → Rf → Option (Int32 × Ca × Rf)) : Nat → Ca → Rf → Int32 → Option (Int32 × Ca × Rf)
  | 0, _, _, _ => none
  | k + 1, C, R, x1 => if (4 : Int32) < x1 then (kx C R) else (o1 (fX0_beginWays C) (fun C119 => fX0_fewest_L27 x1 (fun C120 R121 => fX0_fewest_L14 kx k C120 R121 (x1 + (1 : Int32))) fu C119 R (1 : Int32) (0 : Int32)))
def fX0_fewest (C : Ca) (R : Rf) : Option (Int32 × Ca × Rf) := o1 (fX1_keepLevels R 8 C.1 (0 : Int32)) (fun f101 => fX0_fewest_L14 (fun C122 R123 => some ((-1 : Int32), C122, R123)) fu (f101, C.2) R (0 : Int32))
theorem q_X0_fewest : yX0_fewest.cls = RX0 ∧ yX0_fewest.cls ≠ "java/lang/invoke/MethodHandle" ∧ yX0_fewest.cls ≠ "java/lang/invoke/VarHandle" ∧ (parseMethodDescriptor yX0_fewest.desc).map (fun d => d.parameters.length) = some 0 := by decide +kernel
theorem i_X0_fewest_X0 : ∀ w ∈ u_ws RX0 TX0 3, w ∈ wsX0_fewest := fun _ h => List.mem_cons_of_mem _ (List.mem_append_left _ (List.mem_append_right _ (h)))
set_option maxHeartbeats 4000000 in
set_option maxRecDepth 100000 in
theorem c_X0_fewest (l : Launch) (g : gG) (c0 c1 c2 h0 h1 h2 h3 : Nat) (C : Ca) (R : Rf) {r : Int32} {C' : Ca} {R' : Rf} (hf : fX0_fewest C R = some (r, C', R')) : Ct l yX0_fewest wsX0_fewest (rmm 5 112) g (wCa g c0 c1 c2 h0 h1 h2 h3 C R) (wCa g c0 c1 c2 h0 h1 h2 h3 (C') (R')) [.ref c0] (some (.int r)) := by
  refine Ct.mk (by decide) rfl (Nat.le_of_ble_eq_true rfl) ?_
  intro p e s m args below meth c A ls hx hb hr hml hts hown hlocks hA hE hP hD hS hl hAe
  have hown : s.vm.findClass RX0 = some m.cls := hown
  have hl : lv_has ls 4 [(0, .ref c0)] := hl
  have w1 := hts (.fieldLink RX0 18 "RainVault$Carrier" "trial" "LRainVault$Roof;") (List.mem_of_getElem? (i := 1) rfl)
  have w2 := hts (.fieldLink RX0 9 "RainVault$Carrier" "levels" "[I") (List.mem_of_getElem? (i := 2) rfl)
  have L27 : ∀ (x1 : Int32) (kx : Ca → Rf → Option (Int32 × Ca × Rf)) (k : Nat) (C : Ca) (R : Rf) (x2 : Int32) (x3 : Int32) (H : Heap) (locs : List Loc) (ls : Array Slot), fX0_fewest_L27 x1 kx k C R x2 x3 = some (r, C', R') → va_P g.1 vwK (wCa g c0 c1 c2 h0 h1 h2 h3 C R) H → va_D A (wCa g c0 c1 c2 h0 h1 h2 h3 C R) → va_S A s.heap H locs → lv_has ls 4 [(0, .ref c0), (1, .int x1), (2, .int x2), (3, .int x3)] → (∀ (C : Ca) (R : Rf) (H : Heap) (locs : List Loc) (ls : Array Slot), kx C R = some (r, C', R') → va_P g.1 vwK (wCa g c0 c1 c2 h0 h1 h2 h3 C R) H → va_D A (wCa g c0 c1 c2 h0 h1 h2 h3 C R) → va_S A s.heap H locs → lv_has ls 4 [(0, .ref c0), (1, .int x1)] → W p l e (rmm 5 112) s m args below meth c H locs 0 0 (MQ below (QcG g (wCa g c0 c1 c2 h0 h1 h2 h3 C R) (wCa g c0 c1 c2 h0 h1 h2 h3 (C') (R')) (some (.int r)) s.heap.size) args s 0 0 A) (F0 m 70 ls [])) → W p l e (rmm 5 112) s m args below meth c H locs 0 0 (MQ below (QcG g (wCa g c0 c1 c2 h0 h1 h2 h3 C R) (wCa g c0 c1 c2 h0 h1 h2 h3 (C') (R')) (some (.int r)) s.heap.size) args s 0 0 A) (F0 m 27 ls []) := by
    intro x1 kx k
    induction k with
    | zero => intro C R x2 x3 H locs ls hf; exact nomatch (show (none : Option (Int32 × Ca × Rf)) = some _ from hf)
    | succ k ih =>
      intro C R x2 x3 H locs ls hf hP hD hS hl hk
      rw [fX0_fewest_L27] at hf
      refine lv_iload_n hx hb dX0_fewest_27 rfl (lv_at hl 3 rfl) ?_
      refine lv_sipush (v := (1000 : Int32)) hx hb dX0_fewest_28 (by decide) ?_
      refine lv_icmp_ge (tgt := 70) hx hb dX0_fewest_31 (by decide) (fun hc => ?_) (fun hc => ?_)
      · have hf := if_t hf hc
        exact hk _ _ _ _ _  hf hP hD hS (lv_sub hl [0, 1] rfl)
      · have hf := if_f hf hc
        refine lv_iload_n hx hb dX0_fewest_34 rfl (lv_at hl 2 rfl) ?_
        refine lv_if_eq (tgt := 70) hx hb dX0_fewest_35 (by decide) (fun hc => ?_) (fun hc => ?_)
        · have hf := if_t hf hc
          exact hk _ _ _ _ _  hf hP hD hS (lv_sub hl [0, 1] rfl)
        · have hf := if_f hf hc
          refine lv_aload_n hx hb dX0_fewest_38 rfl (lv_at hl 0 rfl) ?_
          refine lv_iload_n hx hb dX0_fewest_39 rfl (lv_at hl 1 rfl) ?_
          obtain ⟨x110, R111, hg, hf⟩ := o2_s hf
          refine Ct.callV (ws' := wCa g c0 c1 c2 h0 h1 h2 h3 C R111) (As := [.int x1]) (rest := []) (st1 := [.int x110]) (c_X0_carryOnTrial l g c0 c1 c2 h0 h1 h2 h3 C R x1 hg) (cwV 1 hts gX0_fewest_X0_carryOnTrial rfl rfl rfl q_X0_carryOnTrial ⟨Nat.le_of_ble_eq_true rfl, Nat.le_of_ble_eq_true rfl⟩) ⟨hx, hb, hml, hown, hts⟩ hE hP hD hS hA [0, 1, 2, 3, 4, 5, 6] rfl rfl rfl rfl 0 0 rfl rfl rfl rfl hl.1 rfl rfl (Nat.le_of_ble_eq_true rfl) dX0_fewest_40 (fun H locs hP hD hS => ?_)
          refine lv_if_eq (tgt := 58) hx hb dX0_fewest_43 (by decide) (fun hc => ?_) (fun hc => ?_)
          · have hf := if_t hf hc
            refine lv_aload_n hx hb dX0_fewest_58 rfl (lv_at hl 0 rfl) ?_
            refine lv_iload_n hx hb dX0_fewest_59 rfl (lv_at hl 1 rfl) ?_
            obtain ⟨x112, C113, hg, hf⟩ := o2_s hf
            refine Ct.callV (ws' := wCa g c0 c1 c2 h0 h1 h2 h3 C113 R111) (As := [.int x1]) (rest := []) (st1 := [.int x112]) (c_X0_nextWay l g c0 c1 c2 h0 h1 h2 h3 C R111 x1 hg) (cwV 1 hts gX0_fewest_X0_nextWay rfl rfl rfl q_X0_nextWay ⟨Nat.le_of_ble_eq_true rfl, Nat.le_of_ble_eq_true rfl⟩) ⟨hx, hb, hml, hown, hts⟩ hE hP hD hS hA [0, 1, 2, 3, 4, 5, 6] rfl rfl rfl rfl 0 0 rfl rfl rfl rfl hl.1 rfl rfl (Nat.le_of_ble_eq_true rfl) dX0_fewest_60 (fun H locs hP hD hS => ?_)
            refine lv_istore_n (lv' := [(2, .int x112), (0, .ref c0), (1, .int x1), (3, .int x3)]) hx hb dX0_fewest_63 rfl hl (by decide) rfl (fun ls hl => ?_)
            refine lv_iinc (v := (x3 + (1 : Int32))) (lv' := [(3, .int (x3 + (1 : Int32))), (2, .int x112), (0, .ref c0), (1, .int x1)]) hx hb dX0_fewest_64 hl (k := 3) rfl rfl (by decide) rfl (fun ls hl => ?_)
            refine lv_goto (tgt := 27) hx hb dX0_fewest_67 (by decide) ?_
            exact ih _ _ _ _ _ _ _  hf hP hD hS (lv_sub hl [2, 3, 1, 0] rfl) hk
          · have hf := if_f hf hc
            refine lv_aload_n hx hb dX0_fewest_46 rfl (lv_at hl 0 rfl) ?_
            refine va_get (D := g.1) (ci := 0) (v := .ref h0) (C := RX0) (T := TX0) (N := 3) hx hb hts i_X0_fewest_X0 hown hE.1 hP 0 rfl rfl 0 (by decide) w1 (fun _ h9 => h9) rfl dX0_fewest_47 ?_
            obtain ⟨x114, hg, hf⟩ := o1_s hf
            refine Ct.callV (ws' := wCa g c0 c1 c2 h0 h1 h2 h3 C R111) (As := []) (rest := []) (st1 := [.int x114]) (c_X1_isOpen l g h0 h1 h2 h3 R111 hg) (cwV 0 hts gX0_fewest_X1_isOpen rfl rfl rfl q_X1_isOpen ⟨Nat.le_of_ble_eq_true rfl, Nat.le_of_ble_eq_true rfl⟩) ⟨hx, hb, hml, hown, hts⟩ hE hP hD hS hA [3, 4, 5, 6] rfl rfl rfl rfl 1 3 rfl rfl rfl rfl hl.1 rfl rfl (Nat.le_of_ble_eq_true rfl) dX0_fewest_50 (fun H locs hP hD hS => ?_)
            refine lv_if_eq (tgt := 58) hx hb dX0_fewest_53 (by decide) (fun hc => ?_) (fun hc => ?_)
            · have hf := if_t hf hc
              refine lv_aload_n hx hb dX0_fewest_58 rfl (lv_at hl 0 rfl) ?_
              refine lv_iload_n hx hb dX0_fewest_59 rfl (lv_at hl 1 rfl) ?_
              obtain ⟨x115, C116, hg, hf⟩ := o2_s hf
              refine Ct.callV (ws' := wCa g c0 c1 c2 h0 h1 h2 h3 C116 R111) (As := [.int x1]) (rest := []) (st1 := [.int x115]) (c_X0_nextWay l g c0 c1 c2 h0 h1 h2 h3 C R111 x1 hg) (cwV 1 hts gX0_fewest_X0_nextWay rfl rfl rfl q_X0_nextWay ⟨Nat.le_of_ble_eq_true rfl, Nat.le_of_ble_eq_true rfl⟩) ⟨hx, hb, hml, hown, hts⟩ hE hP hD hS hA [0, 1, 2, 3, 4, 5, 6] rfl rfl rfl rfl 0 0 rfl rfl rfl rfl hl.1 rfl rfl (Nat.le_of_ble_eq_true rfl) dX0_fewest_60 (fun H locs hP hD hS => ?_)
              refine lv_istore_n (lv' := [(2, .int x115), (0, .ref c0), (1, .int x1), (3, .int x3)]) hx hb dX0_fewest_63 rfl hl (by decide) rfl (fun ls hl => ?_)
              refine lv_iinc (v := (x3 + (1 : Int32))) (lv' := [(3, .int (x3 + (1 : Int32))), (2, .int x115), (0, .ref c0), (1, .int x1)]) hx hb dX0_fewest_64 hl (k := 3) rfl rfl (by decide) rfl (fun ls hl => ?_)
              refine lv_goto (tgt := 27) hx hb dX0_fewest_67 (by decide) ?_
              exact ih _ _ _ _ _ _ _  hf hP hD hS (lv_sub hl [2, 3, 1, 0] rfl) hk
            · have hf := if_f hf hc
              refine lv_iload_n hx hb dX0_fewest_56 rfl (lv_at hl 1 rfl) ?_
              cases hf
              exact Ct.iret hx hb hr hlocks hAe hP hD hS dX0_fewest_57
  have L14 : ∀ (kx : Ca → Rf → Option (Int32 × Ca × Rf)) (k : Nat) (C : Ca) (R : Rf) (x1 : Int32) (H : Heap) (locs : List Loc) (ls : Array Slot), fX0_fewest_L14 kx k C R x1 = some (r, C', R') → va_P g.1 vwK (wCa g c0 c1 c2 h0 h1 h2 h3 C R) H → va_D A (wCa g c0 c1 c2 h0 h1 h2 h3 C R) → va_S A s.heap H locs → lv_has ls 4 [(0, .ref c0), (1, .int x1)] → (∀ (C : Ca) (R : Rf) (H : Heap) (locs : List Loc) (ls : Array Slot), kx C R = some (r, C', R') → va_P g.1 vwK (wCa g c0 c1 c2 h0 h1 h2 h3 C R) H → va_D A (wCa g c0 c1 c2 h0 h1 h2 h3 C R) → va_S A s.heap H locs → lv_has ls 4 [] → W p l e (rmm 5 112) s m args below meth c H locs 0 0 (MQ below (QcG g (wCa g c0 c1 c2 h0 h1 h2 h3 C R) (wCa g c0 c1 c2 h0 h1 h2 h3 (C') (R')) (some (.int r)) s.heap.size) args s 0 0 A) (F0 m 76 ls [])) → W p l e (rmm 5 112) s m args below meth c H locs 0 0 (MQ below (QcG g (wCa g c0 c1 c2 h0 h1 h2 h3 C R) (wCa g c0 c1 c2 h0 h1 h2 h3 (C') (R')) (some (.int r)) s.heap.size) args s 0 0 A) (F0 m 14 ls []) := by
    intro kx k
    induction k with
    | zero => intro C R x1 H locs ls hf; exact nomatch (show (none : Option (Int32 × Ca × Rf)) = some _ from hf)
    | succ k ih =>
      intro C R x1 H locs ls hf hP hD hS hl hk
      rw [fX0_fewest_L14] at hf
      refine lv_iload_n hx hb dX0_fewest_14 rfl (lv_at hl 1 rfl) ?_
      refine lv_iconst (v := (4 : Int32)) hx hb dX0_fewest_15 (by decide) ?_
      refine lv_icmp_gt (tgt := 76) hx hb dX0_fewest_16 (by decide) (fun hc => ?_) (fun hc => ?_)
      · have hf := if_t hf hc
        exact hk _ _ _ _ _  hf hP hD hS (lv_sub hl [] rfl)
      · have hf := if_f hf hc
        refine lv_iconst (v := (1 : Int32)) hx hb dX0_fewest_19 (by decide) ?_
        refine lv_istore_n (lv' := [(2, .int (1 : Int32)), (0, .ref c0), (1, .int x1)]) hx hb dX0_fewest_20 rfl hl (by decide) rfl (fun ls hl => ?_)
        refine lv_aload_n hx hb dX0_fewest_21 rfl (lv_at hl 1 rfl) ?_
        obtain ⟨C119, hg, hf⟩ := o1_s hf
        refine Ct.callV (ws' := wCa g c0 c1 c2 h0 h1 h2 h3 C119 R) (As := []) (rest := []) (st1 := []) (c_X0_beginWays l g c0 c1 c2 h0 h1 h2 h3 C R hg) (cwV 0 hts gX0_fewest_X0_beginWays rfl rfl rfl q_X0_beginWays ⟨Nat.le_of_ble_eq_true rfl, Nat.le_of_ble_eq_true rfl⟩) ⟨hx, hb, hml, hown, hts⟩ hE hP hD hS hA [0, 1, 2, 3, 4, 5, 6] rfl rfl rfl rfl 0 0 rfl rfl rfl rfl hl.1 rfl rfl (Nat.le_of_ble_eq_true rfl) dX0_fewest_22 (fun H locs hP hD hS => ?_)
        refine lv_iconst (v := (0 : Int32)) hx hb dX0_fewest_25 (by decide) ?_
        refine lv_istore_n (lv' := [(3, .int (0 : Int32)), (2, .int (1 : Int32)), (0, .ref c0), (1, .int x1)]) hx hb dX0_fewest_26 rfl hl (by decide) rfl (fun ls hl => ?_)
        refine L27 _ _ _ _ _ _ _ _ _ _  hf hP hD hS (lv_sub hl [2, 3, 1, 0] rfl) (fun C120 R121 H locs ls hf hP hD hS hl => ?_)
        refine lv_iinc (v := (x1 + (1 : Int32))) (lv' := [(1, .int (x1 + (1 : Int32))), (0, .ref c0)]) hx hb dX0_fewest_70 hl (k := 1) rfl rfl (by decide) rfl (fun ls hl => ?_)
        refine lv_goto (tgt := 14) hx hb dX0_fewest_73 (by decide) ?_
        exact ih _ _ _ _ _ _  hf hP hD hS (lv_sub hl [1, 0] rfl) hk
  unfold fX0_fewest at hf
  refine lv_aload_n hx hb dX0_fewest_0 rfl (lv_at hl 0 rfl) ?_
  refine va_get (D := g.1) (ci := 0) (v := .ref h0) (C := RX0) (T := TX0) (N := 3) hx hb hts i_X0_fewest_X0 hown hE.1 hP 0 rfl rfl 0 (by decide) w1 (fun _ h9 => h9) rfl dX0_fewest_1 ?_
  refine lv_aload_n hx hb dX0_fewest_4 rfl (lv_at hl 0 rfl) ?_
  refine va_get (D := g.1) (ci := 0) (v := .ref c1) (C := RX0) (T := TX0) (N := 3) hx hb hts i_X0_fewest_X0 hown hE.1 hP 0 rfl rfl 1 (by decide) w2 (fun _ h9 => h9) rfl dX0_fewest_5 ?_
  refine lv_iconst (v := (0 : Int32)) hx hb dX0_fewest_8 (by decide) ?_
  obtain ⟨f101, hg, hf⟩ := o1_s hf
  refine Ct.callV (ws' := wCa g c0 c1 c2 h0 h1 h2 h3 (f101, C.2) R) (As := [.ref c1, .int (0 : Int32)]) (rest := []) (st1 := []) (c_X1_keepLevels l g h0 h1 h2 h3 c1 R 8 C.1 (0 : Int32) hg) (cwV 2 hts gX0_fewest_X1_keepLevels rfl rfl rfl q_X1_keepLevels ⟨Nat.le_of_ble_eq_true rfl, Nat.le_of_ble_eq_true rfl⟩) ⟨hx, hb, hml, hown, hts⟩ hE hP hD hS hA [3, 4, 5, 6, 1] rfl rfl rfl rfl 1 3 rfl rfl rfl rfl hl.1 rfl rfl (Nat.le_of_ble_eq_true rfl) dX0_fewest_9 (fun H locs hP hD hS => ?_)
  refine lv_iconst (v := (0 : Int32)) hx hb dX0_fewest_12 (by decide) ?_
  refine lv_istore_n (lv' := [(1, .int (0 : Int32)), (0, .ref c0)]) hx hb dX0_fewest_13 rfl hl (by decide) rfl (fun ls hl => ?_)
  refine L14 _ _ _ _ _ _ _ _  hf hP hD hS (lv_sub hl [1, 0] rfl) (fun C122 R123 H locs ls hf hP hD hS hl => ?_)
  refine lv_iconst (v := (-1 : Int32)) hx hb dX0_fewest_76 (by decide) ?_
  cases hf
  exact Ct.iret hx hb hr hlocks hAe hP hD hS dX0_fewest_77
def fX1_become (R : Rf) (N : Rf) : Option (Rf) := o1 (fX6_copyRow 88 N.1) (fun f2101 => o1 (fX6_copyRow 24 N.2.1) (fun f2102 => o1 (fX6_copyRow 10 N.2.2.1) (fun f2103 => nb N.2.2.2.2.2.1 (some (f2101, f2102, f2103, N.2.2.2.1, N.2.2.2.2.1, N.2.2.2.2.2.1, N.2.2.2.2.2.2.1, N.2.2.2.2.2.2.2.1, N.2.2.2.2.2.2.2.2)))))
theorem q_X1_become : yX1_become.cls = RX1 ∧ yX1_become.cls ≠ "java/lang/invoke/MethodHandle" ∧ yX1_become.cls ≠ "java/lang/invoke/VarHandle" ∧ (parseMethodDescriptor yX1_become.desc).map (fun d => d.parameters.length) = some 1 := by decide +kernel
theorem i_X1_become_X1 : ∀ w ∈ u_ws RX1 TX1 9, w ∈ wsX1_become := fun _ h => List.mem_cons_of_mem _ (List.mem_append_right _ (h))
set_option maxHeartbeats 4000000 in
set_option maxRecDepth 100000 in
theorem c_X1_become (l : Launch) (g : gG) (h0 h1 h2 h3 i0 i1 i2 i3 : Nat) (R : Rf) (N : Rf) {R' : Rf} (hf : fX1_become R N = some R') : Ct l yX1_become wsX1_become (rmm 2 81) g (wRf2 g h0 h1 h2 h3 i0 i1 i2 i3 R N) (wRf2 g h0 h1 h2 h3 i0 i1 i2 i3 (R') N) [.ref h0, .ref i0] none := by
  refine Ct.mk (by decide) rfl (Nat.le_of_ble_eq_true rfl) ?_
  intro p e s m args below meth c A ls hx hb hr hml hts hown hlocks hA hE hP hD hS hl hAe
  have hown : s.vm.findClass RX1 = some m.cls := hown
  have hl : lv_has ls 2 [(0, .ref h0), (1, .ref i0)] := hl
  have w1 := hts (.fieldLink RX1 9 "RainVault$Roof" "facts" "[I") (List.mem_of_getElem? (i := 1) rfl)
  have w2 := hts (.initialized RX6) (List.mem_of_getElem? (i := 11) rfl)
  have w3 := hts (.static yX6_copyRow) (List.mem_of_getElem? (i := 10) rfl)
  have w4 := hts (.fieldLink RX1 15 "RainVault$Roof" "conditionFacts" "[I") (List.mem_of_getElem? (i := 2) rfl)
  have w5 := hts (.fieldLink RX1 18 "RainVault$Roof" "spots" "[I") (List.mem_of_getElem? (i := 3) rfl)
  have w6 := hts (.fieldLink RX1 21 "RainVault$Roof" "cisterns" "I") (List.mem_of_getElem? (i := 4) rfl)
  have w7 := hts (.fieldLink RX1 25 "RainVault$Roof" "conditions" "I") (List.mem_of_getElem? (i := 5) rfl)
  have w8 := hts (.fieldLink RX1 28 "RainVault$Roof" "isCold" "Z") (List.mem_of_getElem? (i := 6) rfl)
  have w9 := hts (.fieldLink RX1 32 "RainVault$Roof" "hour" "I") (List.mem_of_getElem? (i := 7) rfl)
  have w10 := hts (.fieldLink RX1 35 "RainVault$Roof" "ranOff" "I") (List.mem_of_getElem? (i := 8) rfl)
  have w11 := hts (.fieldLink RX1 38 "RainVault$Roof" "z" "I") (List.mem_of_getElem? (i := 9) rfl)
  unfold fX1_become at hf
  refine lv_aload_n hx hb dX1_become_0 rfl (lv_at hl 1 rfl) ?_
  refine va_get (D := g.1) (ci := 1) (v := .ref i1) (C := RX1) (T := TX1) (N := 9) hx hb hts i_X1_become_X1 hown hE.1 hP 4 rfl rfl 0 (by decide) w1 (fun _ h9 => h9) rfl dX1_become_1 ?_
  refine lv_aload_n hx hb dX1_become_4 rfl (lv_at hl 0 rfl) ?_
  refine va_get (D := g.1) (ci := 1) (v := .ref h1) (C := RX1) (T := TX1) (N := 9) hx hb hts i_X1_become_X1 hown hE.1 hP 0 rfl rfl 0 (by decide) w1 (fun _ h9 => h9) rfl dX1_become_5 ?_
  obtain ⟨f2101, hg, hf⟩ := o1_s hf
  refine Ct.callSN (ws' := wRf2 g h0 h1 h2 h3 i0 i1 i2 i3 (f2101, R.2.1, R.2.2.1, R.2.2.2.1, R.2.2.2.2.1, R.2.2.2.2.2.1, R.2.2.2.2.2.2.1, R.2.2.2.2.2.2.2.1, R.2.2.2.2.2.2.2.2) N) (As := [.ref i1, .ref h1]) (rest := []) (st1 := []) (c_X6_copyRow l g i1 h1 88 N.1 R.1 hg) (⟨va_cnB 2 hts gX1_become_X6_copyRow_n41 rfl rfl rfl (hE.2.1 _ (List.mem_of_getElem? (i := 30) rfl)) w2 q_X6_copyRow.2 ⟨Nat.le_of_ble_eq_true rfl, Nat.le_of_ble_eq_true rfl⟩, w3, trivial⟩) ⟨hx, hb, hml, hown, hts⟩ hE hP hD hS hA [5, 1] rfl rfl rfl rfl rfl hl.1 rfl rfl (Nat.le_of_ble_eq_true rfl) dX1_become_8 (fun H locs hP hD hS => ?_)
  refine lv_aload_n hx hb dX1_become_11 rfl (lv_at hl 1 rfl) ?_
  refine va_get (D := g.1) (ci := 1) (v := .ref i2) (C := RX1) (T := TX1) (N := 9) hx hb hts i_X1_become_X1 hown hE.1 hP 4 rfl rfl 1 (by decide) w4 (fun _ h9 => h9) rfl dX1_become_12 ?_
  refine lv_aload_n hx hb dX1_become_15 rfl (lv_at hl 0 rfl) ?_
  refine va_get (D := g.1) (ci := 1) (v := .ref h2) (C := RX1) (T := TX1) (N := 9) hx hb hts i_X1_become_X1 hown hE.1 hP 0 rfl rfl 1 (by decide) w4 (fun _ h9 => h9) rfl dX1_become_16 ?_
  obtain ⟨f2102, hg, hf⟩ := o1_s hf
  refine Ct.callSN (ws' := wRf2 g h0 h1 h2 h3 i0 i1 i2 i3 (f2101, f2102, R.2.2.1, R.2.2.2.1, R.2.2.2.2.1, R.2.2.2.2.2.1, R.2.2.2.2.2.2.1, R.2.2.2.2.2.2.2.1, R.2.2.2.2.2.2.2.2) N) (As := [.ref i2, .ref h2]) (rest := []) (st1 := []) (c_X6_copyRow l g i2 h2 24 N.2.1 R.2.1 hg) (⟨va_cnB 2 hts gX1_become_X6_copyRow_n41 rfl rfl rfl (hE.2.1 _ (List.mem_of_getElem? (i := 30) rfl)) w2 q_X6_copyRow.2 ⟨Nat.le_of_ble_eq_true rfl, Nat.le_of_ble_eq_true rfl⟩, w3, trivial⟩) ⟨hx, hb, hml, hown, hts⟩ hE hP hD hS hA [6, 2] rfl rfl rfl rfl rfl hl.1 rfl rfl (Nat.le_of_ble_eq_true rfl) dX1_become_19 (fun H locs hP hD hS => ?_)
  refine lv_aload_n hx hb dX1_become_22 rfl (lv_at hl 1 rfl) ?_
  refine va_get (D := g.1) (ci := 1) (v := .ref i3) (C := RX1) (T := TX1) (N := 9) hx hb hts i_X1_become_X1 hown hE.1 hP 4 rfl rfl 2 (by decide) w5 (fun _ h9 => h9) rfl dX1_become_23 ?_
  refine lv_aload_n hx hb dX1_become_26 rfl (lv_at hl 0 rfl) ?_
  refine va_get (D := g.1) (ci := 1) (v := .ref h3) (C := RX1) (T := TX1) (N := 9) hx hb hts i_X1_become_X1 hown hE.1 hP 0 rfl rfl 2 (by decide) w5 (fun _ h9 => h9) rfl dX1_become_27 ?_
  obtain ⟨f2103, hg, hf⟩ := o1_s hf
  refine Ct.callSN (ws' := wRf2 g h0 h1 h2 h3 i0 i1 i2 i3 (f2101, f2102, f2103, R.2.2.2.1, R.2.2.2.2.1, R.2.2.2.2.2.1, R.2.2.2.2.2.2.1, R.2.2.2.2.2.2.2.1, R.2.2.2.2.2.2.2.2) N) (As := [.ref i3, .ref h3]) (rest := []) (st1 := []) (c_X6_copyRow l g i3 h3 10 N.2.2.1 R.2.2.1 hg) (⟨va_cnB 2 hts gX1_become_X6_copyRow_n41 rfl rfl rfl (hE.2.1 _ (List.mem_of_getElem? (i := 30) rfl)) w2 q_X6_copyRow.2 ⟨Nat.le_of_ble_eq_true rfl, Nat.le_of_ble_eq_true rfl⟩, w3, trivial⟩) ⟨hx, hb, hml, hown, hts⟩ hE hP hD hS hA [7, 3] rfl rfl rfl rfl rfl hl.1 rfl rfl (Nat.le_of_ble_eq_true rfl) dX1_become_30 (fun H locs hP hD hS => ?_)
  refine lv_aload_n hx hb dX1_become_33 rfl (lv_at hl 0 rfl) ?_
  refine lv_aload_n hx hb dX1_become_34 rfl (lv_at hl 1 rfl) ?_
  refine va_get (D := g.1) (ci := 1) (v := .int N.2.2.2.1) (C := RX1) (T := TX1) (N := 9) hx hb hts i_X1_become_X1 hown hE.1 hP 4 rfl rfl 3 (by decide) w6 (fun _ h9 => h9) rfl dX1_become_35 ?_
  refine va_put (D := g.1) (ci := 1) (v := .int N.2.2.2.1) (ty := .int) (C := RX1) (T := TX1) (N := 9) hx hb hts i_X1_become_X1 tyX1 tyX1_ok nmX1 hown hE.1 hP hD hS 0 rfl rfl 3 (by decide) w6 (fun _ h9 => h9) rfl (by decide +kernel) rfl rfl (by decide) dX1_become_38 (fun H locs hP hD hS => ?_)
  have hP : va_P g.1 vwK (wRf2 g h0 h1 h2 h3 i0 i1 i2 i3 (f2101, f2102, f2103, N.2.2.2.1, R.2.2.2.2.1, R.2.2.2.2.2.1, R.2.2.2.2.2.2.1, R.2.2.2.2.2.2.2.1, R.2.2.2.2.2.2.2.2) N) H := hP
  have hD : va_D A (wRf2 g h0 h1 h2 h3 i0 i1 i2 i3 (f2101, f2102, f2103, N.2.2.2.1, R.2.2.2.2.1, R.2.2.2.2.2.1, R.2.2.2.2.2.2.1, R.2.2.2.2.2.2.2.1, R.2.2.2.2.2.2.2.2) N) := hD
  refine lv_aload_n hx hb dX1_become_41 rfl (lv_at hl 0 rfl) ?_
  refine lv_aload_n hx hb dX1_become_42 rfl (lv_at hl 1 rfl) ?_
  refine va_get (D := g.1) (ci := 1) (v := .int N.2.2.2.2.1) (C := RX1) (T := TX1) (N := 9) hx hb hts i_X1_become_X1 hown hE.1 hP 4 rfl rfl 4 (by decide) w7 (fun _ h9 => h9) rfl dX1_become_43 ?_
  refine va_put (D := g.1) (ci := 1) (v := .int N.2.2.2.2.1) (ty := .int) (C := RX1) (T := TX1) (N := 9) hx hb hts i_X1_become_X1 tyX1 tyX1_ok nmX1 hown hE.1 hP hD hS 0 rfl rfl 4 (by decide) w7 (fun _ h9 => h9) rfl (by decide +kernel) rfl rfl (by decide) dX1_become_46 (fun H locs hP hD hS => ?_)
  have hP : va_P g.1 vwK (wRf2 g h0 h1 h2 h3 i0 i1 i2 i3 (f2101, f2102, f2103, N.2.2.2.1, N.2.2.2.2.1, R.2.2.2.2.2.1, R.2.2.2.2.2.2.1, R.2.2.2.2.2.2.2.1, R.2.2.2.2.2.2.2.2) N) H := hP
  have hD : va_D A (wRf2 g h0 h1 h2 h3 i0 i1 i2 i3 (f2101, f2102, f2103, N.2.2.2.1, N.2.2.2.2.1, R.2.2.2.2.2.1, R.2.2.2.2.2.2.1, R.2.2.2.2.2.2.2.1, R.2.2.2.2.2.2.2.2) N) := hD
  refine lv_aload_n hx hb dX1_become_49 rfl (lv_at hl 0 rfl) ?_
  refine lv_aload_n hx hb dX1_become_50 rfl (lv_at hl 1 rfl) ?_
  refine va_get (D := g.1) (ci := 1) (v := .int N.2.2.2.2.2.1) (C := RX1) (T := TX1) (N := 9) hx hb hts i_X1_become_X1 hown hE.1 hP 4 rfl rfl 5 (by decide) w8 (fun _ h9 => h9) rfl dX1_become_51 ?_
  obtain ⟨hn, hf⟩ := nb_s hf
  refine va_put (D := g.1) (ci := 1) (v := .int N.2.2.2.2.2.1) (ty := .boolean) (C := RX1) (T := TX1) (N := 9) hx hb hts i_X1_become_X1 tyX1 tyX1_ok nmX1 hown hE.1 hP hD hS 0 rfl rfl 5 (by decide) w8 (fun _ h9 => h9) rfl (by decide +kernel) (show Value.int (_ &&& 1) = Value.int _ by rw [hn]) rfl (by decide) dX1_become_54 (fun H locs hP hD hS => ?_)
  have hP : va_P g.1 vwK (wRf2 g h0 h1 h2 h3 i0 i1 i2 i3 (f2101, f2102, f2103, N.2.2.2.1, N.2.2.2.2.1, N.2.2.2.2.2.1, R.2.2.2.2.2.2.1, R.2.2.2.2.2.2.2.1, R.2.2.2.2.2.2.2.2) N) H := hP
  have hD : va_D A (wRf2 g h0 h1 h2 h3 i0 i1 i2 i3 (f2101, f2102, f2103, N.2.2.2.1, N.2.2.2.2.1, N.2.2.2.2.2.1, R.2.2.2.2.2.2.1, R.2.2.2.2.2.2.2.1, R.2.2.2.2.2.2.2.2) N) := hD
  refine lv_aload_n hx hb dX1_become_57 rfl (lv_at hl 0 rfl) ?_
  refine lv_aload_n hx hb dX1_become_58 rfl (lv_at hl 1 rfl) ?_
  refine va_get (D := g.1) (ci := 1) (v := .int N.2.2.2.2.2.2.1) (C := RX1) (T := TX1) (N := 9) hx hb hts i_X1_become_X1 hown hE.1 hP 4 rfl rfl 6 (by decide) w9 (fun _ h9 => h9) rfl dX1_become_59 ?_
  refine va_put (D := g.1) (ci := 1) (v := .int N.2.2.2.2.2.2.1) (ty := .int) (C := RX1) (T := TX1) (N := 9) hx hb hts i_X1_become_X1 tyX1 tyX1_ok nmX1 hown hE.1 hP hD hS 0 rfl rfl 6 (by decide) w9 (fun _ h9 => h9) rfl (by decide +kernel) rfl rfl (by decide) dX1_become_62 (fun H locs hP hD hS => ?_)
  have hP : va_P g.1 vwK (wRf2 g h0 h1 h2 h3 i0 i1 i2 i3 (f2101, f2102, f2103, N.2.2.2.1, N.2.2.2.2.1, N.2.2.2.2.2.1, N.2.2.2.2.2.2.1, R.2.2.2.2.2.2.2.1, R.2.2.2.2.2.2.2.2) N) H := hP
  have hD : va_D A (wRf2 g h0 h1 h2 h3 i0 i1 i2 i3 (f2101, f2102, f2103, N.2.2.2.1, N.2.2.2.2.1, N.2.2.2.2.2.1, N.2.2.2.2.2.2.1, R.2.2.2.2.2.2.2.1, R.2.2.2.2.2.2.2.2) N) := hD
  refine lv_aload_n hx hb dX1_become_65 rfl (lv_at hl 0 rfl) ?_
  refine lv_aload_n hx hb dX1_become_66 rfl (lv_at hl 1 rfl) ?_
  refine va_get (D := g.1) (ci := 1) (v := .int N.2.2.2.2.2.2.2.1) (C := RX1) (T := TX1) (N := 9) hx hb hts i_X1_become_X1 hown hE.1 hP 4 rfl rfl 7 (by decide) w10 (fun _ h9 => h9) rfl dX1_become_67 ?_
  refine va_put (D := g.1) (ci := 1) (v := .int N.2.2.2.2.2.2.2.1) (ty := .int) (C := RX1) (T := TX1) (N := 9) hx hb hts i_X1_become_X1 tyX1 tyX1_ok nmX1 hown hE.1 hP hD hS 0 rfl rfl 7 (by decide) w10 (fun _ h9 => h9) rfl (by decide +kernel) rfl rfl (by decide) dX1_become_70 (fun H locs hP hD hS => ?_)
  have hP : va_P g.1 vwK (wRf2 g h0 h1 h2 h3 i0 i1 i2 i3 (f2101, f2102, f2103, N.2.2.2.1, N.2.2.2.2.1, N.2.2.2.2.2.1, N.2.2.2.2.2.2.1, N.2.2.2.2.2.2.2.1, R.2.2.2.2.2.2.2.2) N) H := hP
  have hD : va_D A (wRf2 g h0 h1 h2 h3 i0 i1 i2 i3 (f2101, f2102, f2103, N.2.2.2.1, N.2.2.2.2.1, N.2.2.2.2.2.1, N.2.2.2.2.2.2.1, N.2.2.2.2.2.2.2.1, R.2.2.2.2.2.2.2.2) N) := hD
  refine lv_aload_n hx hb dX1_become_73 rfl (lv_at hl 0 rfl) ?_
  refine lv_aload_n hx hb dX1_become_74 rfl (lv_at hl 1 rfl) ?_
  refine va_get (D := g.1) (ci := 1) (v := .int N.2.2.2.2.2.2.2.2) (C := RX1) (T := TX1) (N := 9) hx hb hts i_X1_become_X1 hown hE.1 hP 4 rfl rfl 8 (by decide) w11 (fun _ h9 => h9) rfl dX1_become_75 ?_
  refine va_put (D := g.1) (ci := 1) (v := .int N.2.2.2.2.2.2.2.2) (ty := .int) (C := RX1) (T := TX1) (N := 9) hx hb hts i_X1_become_X1 tyX1 tyX1_ok nmX1 hown hE.1 hP hD hS 0 rfl rfl 8 (by decide) w11 (fun _ h9 => h9) rfl (by decide +kernel) rfl rfl (by decide) dX1_become_78 (fun H locs hP hD hS => ?_)
  have hP : va_P g.1 vwK (wRf2 g h0 h1 h2 h3 i0 i1 i2 i3 (f2101, f2102, f2103, N.2.2.2.1, N.2.2.2.2.1, N.2.2.2.2.2.1, N.2.2.2.2.2.2.1, N.2.2.2.2.2.2.2.1, N.2.2.2.2.2.2.2.2) N) H := hP
  have hD : va_D A (wRf2 g h0 h1 h2 h3 i0 i1 i2 i3 (f2101, f2102, f2103, N.2.2.2.1, N.2.2.2.2.1, N.2.2.2.2.2.1, N.2.2.2.2.2.2.1, N.2.2.2.2.2.2.2.1, N.2.2.2.2.2.2.2.2) N) := hD
  cases hf
  exact Ct.vret hx hb hr hlocks hAe hP hD hS dX1_become_81
def fX1_addCistern_L60 (x3 : Int32) (kx : Rf → Option (Int32 × Rf)) : Nat → Rf → Int32 → Option (Int32 × Rf)
  | 0, _, _ => none
  | k + 1, R, x4 => if (4 : Int32) ≤ x4 then (kx R) else (o1 (fX1_set R x3 ((7 : Int32) + x4) (1 : Int32)) (fun R108 => fX1_addCistern_L60 x3 kx k R108 (x4 + (1 : Int32))))
def fX1_addCistern (R : Rf) (a1 : Int32) (a2 : Int32) : Option (Int32 × Rf) := o1 (fX1_set (R.1, R.2.1, R.2.2.1, (R.2.2.2.1 + (1 : Int32)), R.2.2.2.2.1, R.2.2.2.2.2.1, R.2.2.2.2.2.2.1, R.2.2.2.2.2.2.2.1, R.2.2.2.2.2.2.2.2) R.2.2.2.1 (0 : Int32) a1) (fun R101 => o1 (fX1_set R101 R.2.2.2.1 (1 : Int32) a2) (fun R102 => o1 (fX1_set R102 R.2.2.2.1 (2 : Int32) (0 : Int32)) (fun R103 => o1 (fX1_set R103 R.2.2.2.1 (3 : Int32) (1 : Int32)) (fun R104 => o1 (fX1_set R104 R.2.2.2.1 (4 : Int32) (-1 : Int32)) (fun R105 => o1 (fX1_set R105 R.2.2.2.1 (5 : Int32) (0 : Int32)) (fun R106 => fX1_addCistern_L60 R.2.2.2.1 (fun R109 => some (R.2.2.2.1, R109)) fu R106 (0 : Int32)))))))
theorem q_X1_addCistern : yX1_addCistern.cls = RX1 ∧ yX1_addCistern.cls ≠ "java/lang/invoke/MethodHandle" ∧ yX1_addCistern.cls ≠ "java/lang/invoke/VarHandle" ∧ (parseMethodDescriptor yX1_addCistern.desc).map (fun d => d.parameters.length) = some 2 := by decide +kernel
theorem i_X1_addCistern_X1 : ∀ w ∈ u_ws RX1 TX1 9, w ∈ wsX1_addCistern := fun _ h => List.mem_cons_of_mem _ (List.mem_append_right _ (h))
set_option maxHeartbeats 4000000 in
set_option maxRecDepth 100000 in
theorem c_X1_addCistern (l : Launch) (g : gG) (h0 h1 h2 h3 : Nat) (R : Rf) (a1 : Int32) (a2 : Int32) {r : Int32} {R' : Rf} (hf : fX1_addCistern R a1 a2 = some (r, R')) : Ct l yX1_addCistern wsX1_addCistern (rmm 1 24) g (wRf g h0 h1 h2 h3 R) (wRf g h0 h1 h2 h3 (R')) [.ref h0, .int a1, .int a2] (some (.int r)) := by
  refine Ct.mk (by decide) rfl (Nat.le_of_ble_eq_true rfl) ?_
  intro p e s m args below meth c A ls hx hb hr hml hts hown hlocks hA hE hP hD hS hl hAe
  have hown : s.vm.findClass RX1 = some m.cls := hown
  have hl : lv_has ls 5 [(0, .ref h0), (1, .int a1), (2, .int a2)] := hl
  have w1 := hts (.fieldLink RX1 21 "RainVault$Roof" "cisterns" "I") (List.mem_of_getElem? (i := 1) rfl)
  have L60 : ∀ (x3 : Int32) (kx : Rf → Option (Int32 × Rf)) (k : Nat) (R : Rf) (x4 : Int32) (H : Heap) (locs : List Loc) (ls : Array Slot), fX1_addCistern_L60 x3 kx k R x4 = some (r, R') → va_P g.1 vwK (wRf g h0 h1 h2 h3 R) H → va_D A (wRf g h0 h1 h2 h3 R) → va_S A s.heap H locs → lv_has ls 5 [(0, .ref h0), (3, .int x3), (4, .int x4)] → (∀ (R : Rf) (H : Heap) (locs : List Loc) (ls : Array Slot), kx R = some (r, R') → va_P g.1 vwK (wRf g h0 h1 h2 h3 R) H → va_D A (wRf g h0 h1 h2 h3 R) → va_S A s.heap H locs → lv_has ls 5 [(3, .int x3)] → W p l e (rmm 1 24) s m args below meth c H locs 0 0 (MQ below (QcG g (wRf g h0 h1 h2 h3 R) (wRf g h0 h1 h2 h3 (R')) (some (.int r)) s.heap.size) args s 0 0 A) (F0 m 83 ls [])) → W p l e (rmm 1 24) s m args below meth c H locs 0 0 (MQ below (QcG g (wRf g h0 h1 h2 h3 R) (wRf g h0 h1 h2 h3 (R')) (some (.int r)) s.heap.size) args s 0 0 A) (F0 m 60 ls []) := by
    intro x3 kx k
    induction k with
    | zero => intro R x4 H locs ls hf; exact nomatch (show (none : Option (Int32 × Rf)) = some _ from hf)
    | succ k ih =>
      intro R x4 H locs ls hf hP hD hS hl hk
      rw [fX1_addCistern_L60] at hf
      refine lv_iload hx hb dX1_addCistern_60 (lv_at hl 2 rfl) ?_
      refine lv_iconst (v := (4 : Int32)) hx hb dX1_addCistern_62 (by decide) ?_
      refine lv_icmp_ge (tgt := 83) hx hb dX1_addCistern_63 (by decide) (fun hc => ?_) (fun hc => ?_)
      · have hf := if_t hf hc
        exact hk _ _ _ _  hf hP hD hS (lv_sub hl [1] rfl)
      · have hf := if_f hf hc
        refine lv_aload_n hx hb dX1_addCistern_66 rfl (lv_at hl 0 rfl) ?_
        refine lv_iload_n hx hb dX1_addCistern_67 rfl (lv_at hl 1 rfl) ?_
        refine lv_bipush (v := (7 : Int32)) hx hb dX1_addCistern_68 (by decide) ?_
        refine lv_iload hx hb dX1_addCistern_70 (lv_at hl 2 rfl) ?_
        refine lv_iadd hx hb dX1_addCistern_72 ?_
        refine lv_iconst (v := (1 : Int32)) hx hb dX1_addCistern_73 (by decide) ?_
        obtain ⟨R108, hg, hf⟩ := o1_s hf
        refine Ct.callV (ws' := wRf g h0 h1 h2 h3 R108) (As := [.int x3, .int ((7 : Int32) + x4), .int (1 : Int32)]) (rest := []) (st1 := []) (c_X1_set l g h0 h1 h2 h3 R x3 ((7 : Int32) + x4) (1 : Int32) hg) (cwV 3 hts gX1_addCistern_X1_set rfl rfl rfl q_X1_set ⟨Nat.le_of_ble_eq_true rfl, Nat.le_of_ble_eq_true rfl⟩) ⟨hx, hb, hml, hown, hts⟩ hE hP hD hS hA [0, 1, 2, 3] rfl rfl rfl rfl 1 0 rfl rfl rfl rfl hl.1 rfl rfl (Nat.le_of_ble_eq_true rfl) dX1_addCistern_74 (fun H locs hP hD hS => ?_)
        refine lv_iinc (v := (x4 + (1 : Int32))) (lv' := [(4, .int (x4 + (1 : Int32))), (0, .ref h0), (3, .int x3)]) hx hb dX1_addCistern_77 hl (k := 2) rfl rfl (by decide) rfl (fun ls hl => ?_)
        refine lv_goto (tgt := 60) hx hb dX1_addCistern_80 (by decide) ?_
        exact ih _ _ _ _ _  hf hP hD hS (lv_sub hl [1, 2, 0] rfl) hk
  unfold fX1_addCistern at hf
  refine lv_aload_n hx hb dX1_addCistern_0 rfl (lv_at hl 0 rfl) ?_
  refine va_get (D := g.1) (ci := 1) (v := .int R.2.2.2.1) (C := RX1) (T := TX1) (N := 9) hx hb hts i_X1_addCistern_X1 hown hE.1 hP 0 rfl rfl 3 (by decide) w1 (fun _ h9 => h9) rfl dX1_addCistern_1 ?_
  refine lv_istore_n (lv' := [(3, .int R.2.2.2.1), (0, .ref h0), (1, .int a1), (2, .int a2)]) hx hb dX1_addCistern_4 rfl hl (by decide) rfl (fun ls hl => ?_)
  refine lv_aload_n hx hb dX1_addCistern_5 rfl (lv_at hl 1 rfl) ?_
  refine lv_dup hx hb dX1_addCistern_6 rfl ?_
  refine va_get (D := g.1) (ci := 1) (v := .int R.2.2.2.1) (C := RX1) (T := TX1) (N := 9) hx hb hts i_X1_addCistern_X1 hown hE.1 hP 0 rfl rfl 3 (by decide) w1 (fun _ h9 => h9) rfl dX1_addCistern_7 ?_
  refine lv_iconst (v := (1 : Int32)) hx hb dX1_addCistern_10 (by decide) ?_
  refine lv_iadd hx hb dX1_addCistern_11 ?_
  refine va_put (D := g.1) (ci := 1) (v := .int (R.2.2.2.1 + (1 : Int32))) (ty := .int) (C := RX1) (T := TX1) (N := 9) hx hb hts i_X1_addCistern_X1 tyX1 tyX1_ok nmX1 hown hE.1 hP hD hS 0 rfl rfl 3 (by decide) w1 (fun _ h9 => h9) rfl (by decide +kernel) rfl rfl (by decide) dX1_addCistern_12 (fun H locs hP hD hS => ?_)
  have hP : va_P g.1 vwK (wRf g h0 h1 h2 h3 (R.1, R.2.1, R.2.2.1, (R.2.2.2.1 + (1 : Int32)), R.2.2.2.2.1, R.2.2.2.2.2.1, R.2.2.2.2.2.2.1, R.2.2.2.2.2.2.2.1, R.2.2.2.2.2.2.2.2)) H := hP
  have hD : va_D A (wRf g h0 h1 h2 h3 (R.1, R.2.1, R.2.2.1, (R.2.2.2.1 + (1 : Int32)), R.2.2.2.2.1, R.2.2.2.2.2.1, R.2.2.2.2.2.2.1, R.2.2.2.2.2.2.2.1, R.2.2.2.2.2.2.2.2)) := hD
  refine lv_aload_n hx hb dX1_addCistern_15 rfl (lv_at hl 1 rfl) ?_
  refine lv_iload_n hx hb dX1_addCistern_16 rfl (lv_at hl 0 rfl) ?_
  refine lv_iconst (v := (0 : Int32)) hx hb dX1_addCistern_17 (by decide) ?_
  refine lv_iload_n hx hb dX1_addCistern_18 rfl (lv_at hl 2 rfl) ?_
  obtain ⟨R101, hg, hf⟩ := o1_s hf
  refine Ct.callV (ws' := wRf g h0 h1 h2 h3 R101) (As := [.int R.2.2.2.1, .int (0 : Int32), .int a1]) (rest := []) (st1 := []) (c_X1_set l g h0 h1 h2 h3 (R.1, R.2.1, R.2.2.1, (R.2.2.2.1 + (1 : Int32)), R.2.2.2.2.1, R.2.2.2.2.2.1, R.2.2.2.2.2.2.1, R.2.2.2.2.2.2.2.1, R.2.2.2.2.2.2.2.2) R.2.2.2.1 (0 : Int32) a1 hg) (cwV 3 hts gX1_addCistern_X1_set rfl rfl rfl q_X1_set ⟨Nat.le_of_ble_eq_true rfl, Nat.le_of_ble_eq_true rfl⟩) ⟨hx, hb, hml, hown, hts⟩ hE hP hD hS hA [0, 1, 2, 3] rfl rfl rfl rfl 1 0 rfl rfl rfl rfl hl.1 rfl rfl (Nat.le_of_ble_eq_true rfl) dX1_addCistern_19 (fun H locs hP hD hS => ?_)
  refine lv_aload_n hx hb dX1_addCistern_22 rfl (lv_at hl 1 rfl) ?_
  refine lv_iload_n hx hb dX1_addCistern_23 rfl (lv_at hl 0 rfl) ?_
  refine lv_iconst (v := (1 : Int32)) hx hb dX1_addCistern_24 (by decide) ?_
  refine lv_iload_n hx hb dX1_addCistern_25 rfl (lv_at hl 3 rfl) ?_
  obtain ⟨R102, hg, hf⟩ := o1_s hf
  refine Ct.callV (ws' := wRf g h0 h1 h2 h3 R102) (As := [.int R.2.2.2.1, .int (1 : Int32), .int a2]) (rest := []) (st1 := []) (c_X1_set l g h0 h1 h2 h3 R101 R.2.2.2.1 (1 : Int32) a2 hg) (cwV 3 hts gX1_addCistern_X1_set rfl rfl rfl q_X1_set ⟨Nat.le_of_ble_eq_true rfl, Nat.le_of_ble_eq_true rfl⟩) ⟨hx, hb, hml, hown, hts⟩ hE hP hD hS hA [0, 1, 2, 3] rfl rfl rfl rfl 1 0 rfl rfl rfl rfl hl.1 rfl rfl (Nat.le_of_ble_eq_true rfl) dX1_addCistern_26 (fun H locs hP hD hS => ?_)
  refine lv_aload_n hx hb dX1_addCistern_29 rfl (lv_at hl 1 rfl) ?_
  refine lv_iload_n hx hb dX1_addCistern_30 rfl (lv_at hl 0 rfl) ?_
  refine lv_iconst (v := (2 : Int32)) hx hb dX1_addCistern_31 (by decide) ?_
  refine lv_iconst (v := (0 : Int32)) hx hb dX1_addCistern_32 (by decide) ?_
  obtain ⟨R103, hg, hf⟩ := o1_s hf
  refine Ct.callV (ws' := wRf g h0 h1 h2 h3 R103) (As := [.int R.2.2.2.1, .int (2 : Int32), .int (0 : Int32)]) (rest := []) (st1 := []) (c_X1_set l g h0 h1 h2 h3 R102 R.2.2.2.1 (2 : Int32) (0 : Int32) hg) (cwV 3 hts gX1_addCistern_X1_set rfl rfl rfl q_X1_set ⟨Nat.le_of_ble_eq_true rfl, Nat.le_of_ble_eq_true rfl⟩) ⟨hx, hb, hml, hown, hts⟩ hE hP hD hS hA [0, 1, 2, 3] rfl rfl rfl rfl 1 0 rfl rfl rfl rfl hl.1 rfl rfl (Nat.le_of_ble_eq_true rfl) dX1_addCistern_33 (fun H locs hP hD hS => ?_)
  refine lv_aload_n hx hb dX1_addCistern_36 rfl (lv_at hl 1 rfl) ?_
  refine lv_iload_n hx hb dX1_addCistern_37 rfl (lv_at hl 0 rfl) ?_
  refine lv_iconst (v := (3 : Int32)) hx hb dX1_addCistern_38 (by decide) ?_
  refine lv_iconst (v := (1 : Int32)) hx hb dX1_addCistern_39 (by decide) ?_
  obtain ⟨R104, hg, hf⟩ := o1_s hf
  refine Ct.callV (ws' := wRf g h0 h1 h2 h3 R104) (As := [.int R.2.2.2.1, .int (3 : Int32), .int (1 : Int32)]) (rest := []) (st1 := []) (c_X1_set l g h0 h1 h2 h3 R103 R.2.2.2.1 (3 : Int32) (1 : Int32) hg) (cwV 3 hts gX1_addCistern_X1_set rfl rfl rfl q_X1_set ⟨Nat.le_of_ble_eq_true rfl, Nat.le_of_ble_eq_true rfl⟩) ⟨hx, hb, hml, hown, hts⟩ hE hP hD hS hA [0, 1, 2, 3] rfl rfl rfl rfl 1 0 rfl rfl rfl rfl hl.1 rfl rfl (Nat.le_of_ble_eq_true rfl) dX1_addCistern_40 (fun H locs hP hD hS => ?_)
  refine lv_aload_n hx hb dX1_addCistern_43 rfl (lv_at hl 1 rfl) ?_
  refine lv_iload_n hx hb dX1_addCistern_44 rfl (lv_at hl 0 rfl) ?_
  refine lv_iconst (v := (4 : Int32)) hx hb dX1_addCistern_45 (by decide) ?_
  refine lv_iconst (v := (-1 : Int32)) hx hb dX1_addCistern_46 (by decide) ?_
  obtain ⟨R105, hg, hf⟩ := o1_s hf
  refine Ct.callV (ws' := wRf g h0 h1 h2 h3 R105) (As := [.int R.2.2.2.1, .int (4 : Int32), .int (-1 : Int32)]) (rest := []) (st1 := []) (c_X1_set l g h0 h1 h2 h3 R104 R.2.2.2.1 (4 : Int32) (-1 : Int32) hg) (cwV 3 hts gX1_addCistern_X1_set rfl rfl rfl q_X1_set ⟨Nat.le_of_ble_eq_true rfl, Nat.le_of_ble_eq_true rfl⟩) ⟨hx, hb, hml, hown, hts⟩ hE hP hD hS hA [0, 1, 2, 3] rfl rfl rfl rfl 1 0 rfl rfl rfl rfl hl.1 rfl rfl (Nat.le_of_ble_eq_true rfl) dX1_addCistern_47 (fun H locs hP hD hS => ?_)
  refine lv_aload_n hx hb dX1_addCistern_50 rfl (lv_at hl 1 rfl) ?_
  refine lv_iload_n hx hb dX1_addCistern_51 rfl (lv_at hl 0 rfl) ?_
  refine lv_iconst (v := (5 : Int32)) hx hb dX1_addCistern_52 (by decide) ?_
  refine lv_iconst (v := (0 : Int32)) hx hb dX1_addCistern_53 (by decide) ?_
  obtain ⟨R106, hg, hf⟩ := o1_s hf
  refine Ct.callV (ws' := wRf g h0 h1 h2 h3 R106) (As := [.int R.2.2.2.1, .int (5 : Int32), .int (0 : Int32)]) (rest := []) (st1 := []) (c_X1_set l g h0 h1 h2 h3 R105 R.2.2.2.1 (5 : Int32) (0 : Int32) hg) (cwV 3 hts gX1_addCistern_X1_set rfl rfl rfl q_X1_set ⟨Nat.le_of_ble_eq_true rfl, Nat.le_of_ble_eq_true rfl⟩) ⟨hx, hb, hml, hown, hts⟩ hE hP hD hS hA [0, 1, 2, 3] rfl rfl rfl rfl 1 0 rfl rfl rfl rfl hl.1 rfl rfl (Nat.le_of_ble_eq_true rfl) dX1_addCistern_54 (fun H locs hP hD hS => ?_)
  refine lv_iconst (v := (0 : Int32)) hx hb dX1_addCistern_57 (by decide) ?_
  refine lv_istore (lv' := [(4, .int (0 : Int32)), (3, .int R.2.2.2.1), (0, .ref h0), (1, .int a1), (2, .int a2)]) hx hb dX1_addCistern_58 hl (by decide) rfl (fun ls hl => ?_)
  refine L60 _ _ _ _ _ _ _ _  hf hP hD hS (lv_sub hl [2, 1, 0] rfl) (fun R109 H locs ls hf hP hD hS hl => ?_)
  refine lv_iload_n hx hb dX1_addCistern_83 rfl (lv_at hl 0 rfl) ?_
  cases hf
  exact Ct.iret hx hb hr hlocks hAe hP hD hS dX1_addCistern_84
def fX6_isWithin (a1 : Int32) (a2 : Int32) (a3 : Int32) : Option (Int32) := if a1 < a2 then (some (0 : Int32)) else (if a3 < a1 then (some (0 : Int32)) else (some (1 : Int32)))
theorem q_X6_isWithin : yX6_isWithin.cls = RX6 ∧ yX6_isWithin.cls ≠ "java/lang/invoke/MethodHandle" ∧ yX6_isWithin.cls ≠ "java/lang/invoke/VarHandle" ∧ (parseMethodDescriptor yX6_isWithin.desc).map (fun d => d.parameters.length) = some 3 := by decide +kernel
set_option maxHeartbeats 4000000 in
set_option maxRecDepth 100000 in
theorem c_X6_isWithin (l : Launch) (g : gG) (a1 : Int32) (a2 : Int32) (a3 : Int32) {r : Int32} (hf : fX6_isWithin a1 a2 a3 = some r) : Ct l yX6_isWithin wsX6_isWithin (rmm 0 0) g (wNil g  ) (wNil g  ) [.int a1, .int a2, .int a3] (some (.int r)) := by
  refine Ct.mk (by decide) rfl (Nat.le_of_ble_eq_true rfl) ?_
  intro p e s m args below meth c A ls hx hb hr hml hts hown hlocks hA hE hP hD hS hl hAe
  have hown : s.vm.findClass RX6 = some m.cls := hown
  have hl : lv_has ls 3 [(0, .int a1), (1, .int a2), (2, .int a3)] := hl
  unfold fX6_isWithin at hf
  refine lv_iload_n hx hb dX6_isWithin_0 rfl (lv_at hl 0 rfl) ?_
  refine lv_iload_n hx hb dX6_isWithin_1 rfl (lv_at hl 1 rfl) ?_
  refine lv_icmp_lt (tgt := 14) hx hb dX6_isWithin_2 (by decide) (fun hc => ?_) (fun hc => ?_)
  · have hf := if_t hf hc
    refine lv_iconst (v := (0 : Int32)) hx hb dX6_isWithin_14 (by decide) ?_
    cases hf
    exact Ct.zret hx hb hr (by decide) hlocks hAe hP hD hS dX6_isWithin_15
  · have hf := if_f hf hc
    refine lv_iload_n hx hb dX6_isWithin_5 rfl (lv_at hl 0 rfl) ?_
    refine lv_iload_n hx hb dX6_isWithin_6 rfl (lv_at hl 2 rfl) ?_
    refine lv_icmp_gt (tgt := 14) hx hb dX6_isWithin_7 (by decide) (fun hc => ?_) (fun hc => ?_)
    · have hf := if_t hf hc
      refine lv_iconst (v := (0 : Int32)) hx hb dX6_isWithin_14 (by decide) ?_
      cases hf
      exact Ct.zret hx hb hr (by decide) hlocks hAe hP hD hS dX6_isWithin_15
    · have hf := if_f hf hc
      refine lv_iconst (v := (1 : Int32)) hx hb dX6_isWithin_10 (by decide) ?_
      refine lv_goto (tgt := 15) hx hb dX6_isWithin_11 (by decide) ?_
      cases hf
      exact Ct.zret hx hb hr (by decide) hlocks hAe hP hD hS dX6_isWithin_15
def fX1_mayBecome_J25 (R : Rf) (x1 : Int32) (x2 : Int32) (x3 : Int32) (y0 : Int32) : Option (Int32) := if x2 = (2 : Int32) then (o1 (fX1_get R x1 (1 : Int32)) (fun x104 => if x2 = (6 : Int32) then (some (0 : Int32)) else (o1 (fX6_isWithin x3 y0 x104) (fun x105 => if x105 = 0 then (some (0 : Int32)) else (some (1 : Int32)))))) else (o1 (fX6_at_K1 x2) (fun x102 => if x2 = (6 : Int32) then (some (0 : Int32)) else (o1 (fX6_isWithin x3 y0 x102) (fun x103 => if x103 = 0 then (some (0 : Int32)) else (some (1 : Int32))))))
def fX1_mayBecome (R : Rf) (a1 : Int32) (a2 : Int32) (a3 : Int32) : Option (Int32) := if a2 = (1 : Int32) then (o1 (fX1_get R a1 (2 : Int32)) (fun x106 => fX1_mayBecome_J25 R a1 a2 a3 (if (1 : Int32) < x106 then x106 else (1 : Int32)))) else (o1 (fX6_at_K0 a2) (fun x101 => fX1_mayBecome_J25 R a1 a2 a3 x101))
theorem q_X1_mayBecome : yX1_mayBecome.cls = RX1 ∧ yX1_mayBecome.cls ≠ "java/lang/invoke/MethodHandle" ∧ yX1_mayBecome.cls ≠ "java/lang/invoke/VarHandle" ∧ (parseMethodDescriptor yX1_mayBecome.desc).map (fun d => d.parameters.length) = some 3 := by decide +kernel
set_option maxHeartbeats 4000000 in
set_option maxRecDepth 100000 in
theorem c_X1_mayBecome (l : Launch) (g : gG) (h0 h1 h2 h3 : Nat) (R : Rf) (a1 : Int32) (a2 : Int32) (a3 : Int32) {r : Int32} (hf : fX1_mayBecome R a1 a2 a3 = some r) : Ct l yX1_mayBecome wsX1_mayBecome (rmm 1 40) g (wRf g h0 h1 h2 h3 R) (wRf g h0 h1 h2 h3 R) [.ref h0, .int a1, .int a2, .int a3] (some (.int r)) := by
  refine Ct.mk (by decide) rfl (Nat.le_of_ble_eq_true rfl) ?_
  intro p e s m args below meth c A ls hx hb hr hml hts hown hlocks hA hE hP hD hS hl hAe
  have hown : s.vm.findClass RX1 = some m.cls := hown
  have hl : lv_has ls 6 [(0, .ref h0), (1, .int a1), (2, .int a2), (3, .int a3)] := hl
  have w1 := hts (.initialized RX6) (List.mem_of_getElem? (i := 12) rfl)
  have w2 := hts (.static yX6_at) (List.mem_of_getElem? (i := 11) rfl)
  have w3 := hts (.static yX6_isWithin) (List.mem_of_getElem? (i := 14) rfl)
  have w4 := hts (.methodLink RX1 53 Lib.Math.max.name) (List.mem_of_getElem? (i := 1) rfl)
  have w5 := hts (.static Lib.Math.max.name) (List.mem_of_getElem? (i := 2) rfl)
  have w6 := hts (.initialized "java/lang/Math") (List.mem_of_getElem? (i := 3) rfl)
  have w7 := hts (.code Lib.Math.max.name Lib.Math.max.code 2 (some .int)) (List.mem_of_getElem? (i := 4) rfl)
  have J25 : ∀ (x1 : Int32) (x2 : Int32) (x3 : Int32) (y0 : Int32) (H : Heap) (locs : List Loc) (ls : Array Slot), fX1_mayBecome_J25 R x1 x2 x3 y0 = some r → va_P g.1 vwK (wRf g h0 h1 h2 h3 R) H → va_D A (wRf g h0 h1 h2 h3 R) → va_S A s.heap H locs → lv_has ls 6 [(0, .ref h0), (1, .int x1), (2, .int x2), (3, .int x3)] → W p l e (rmm 1 40) s m args below meth c H locs 0 0 (MQ below (QcG g (wRf g h0 h1 h2 h3 R) (wRf g h0 h1 h2 h3 R) (some (.int r)) s.heap.size) args s 0 0 A) (F0 m 25 ls [.int y0]) := by
    intro x1 x2 x3 y0 H locs ls hf hP hD hS hl
    unfold fX1_mayBecome_J25 at hf
    refine lv_istore (lv' := [(4, .int y0), (0, .ref h0), (1, .int x1), (2, .int x2), (3, .int x3)]) hx hb dX1_mayBecome_25 hl (by decide) rfl (fun ls hl => ?_)
    refine lv_iload_n hx hb dX1_mayBecome_27 rfl (lv_at hl 3 rfl) ?_
    refine lv_iconst (v := (2 : Int32)) hx hb dX1_mayBecome_28 (by decide) ?_
    refine lv_icmp_ne (tgt := 41) hx hb dX1_mayBecome_29 (by decide) (fun hc => ?_) (fun hc => ?_)
    · have hf := if_f hf hc
      refine va_getsN hx hb hE.2.2.2.2.1.2.1 hS hown (va_Nw.use rfl (hE.2.1 _ (List.mem_of_getElem? (i := 23) rfl))) (fun _ h9 => h9) dX1_mayBecome_41 ?_
      refine lv_iload_n hx hb dX1_mayBecome_44 rfl (lv_at hl 3 rfl) ?_
      obtain ⟨x102, hg, hf⟩ := o1_s hf
      refine Ct.callSN (ws' := wRf g h0 h1 h2 h3 R) (As := [.ref (g.2.2 1), .int x2]) (rest := []) (st1 := [.int x102]) (c_X6_at_K1 l g x2 hg) (⟨va_cnB 2 hts gX1_mayBecome_X6_at_n61 rfl rfl rfl (hE.2.1 _ (List.mem_of_getElem? (i := 26) rfl)) w1 q_X6_at.2 ⟨Nat.le_of_ble_eq_true rfl, Nat.le_of_ble_eq_true rfl⟩, w2, trivial⟩) ⟨hx, hb, hml, hown, hts⟩ hE hP hD hS hA [] rfl rfl rfl rfl rfl hl.1 rfl rfl (Nat.le_of_ble_eq_true rfl) dX1_mayBecome_45 (fun H locs hP hD hS => ?_)
      refine lv_istore (lv' := [(5, .int x102), (4, .int y0), (0, .ref h0), (1, .int x1), (2, .int x2), (3, .int x3)]) hx hb dX1_mayBecome_48 hl (by decide) rfl (fun ls hl => ?_)
      refine lv_iload_n hx hb dX1_mayBecome_50 rfl (lv_at hl 4 rfl) ?_
      refine lv_bipush (v := (6 : Int32)) hx hb dX1_mayBecome_51 (by decide) ?_
      refine lv_icmp_eq (tgt := 71) hx hb dX1_mayBecome_53 (by decide) (fun hc => ?_) (fun hc => ?_)
      · have hf := if_t hf hc
        refine lv_iconst (v := (0 : Int32)) hx hb dX1_mayBecome_71 (by decide) ?_
        cases hf
        exact Ct.zret hx hb hr (by decide) hlocks hAe hP hD hS dX1_mayBecome_72
      · have hf := if_f hf hc
        refine lv_iload_n hx hb dX1_mayBecome_56 rfl (lv_at hl 5 rfl) ?_
        refine lv_iload hx hb dX1_mayBecome_57 (lv_at hl 1 rfl) ?_
        refine lv_iload hx hb dX1_mayBecome_59 (lv_at hl 0 rfl) ?_
        obtain ⟨x103, hg, hf⟩ := o1_s hf
        refine Ct.callSN (ws' := wRf g h0 h1 h2 h3 R) (As := [.int x3, .int y0, .int x102]) (rest := []) (st1 := [.int x103]) (c_X6_isWithin l g x3 y0 x102 hg) (⟨va_cnB 3 hts gX1_mayBecome_X6_isWithin_n68 rfl rfl rfl (hE.2.1 _ (List.mem_of_getElem? (i := 27) rfl)) w1 q_X6_isWithin.2 ⟨Nat.le_of_ble_eq_true rfl, Nat.le_of_ble_eq_true rfl⟩, w3, trivial⟩) ⟨hx, hb, hml, hown, hts⟩ hE hP hD hS hA [] rfl rfl rfl rfl rfl hl.1 rfl rfl (Nat.le_of_ble_eq_true rfl) dX1_mayBecome_61 (fun H locs hP hD hS => ?_)
        refine lv_if_eq (tgt := 71) hx hb dX1_mayBecome_64 (by decide) (fun hc => ?_) (fun hc => ?_)
        · have hf := if_t hf hc
          refine lv_iconst (v := (0 : Int32)) hx hb dX1_mayBecome_71 (by decide) ?_
          cases hf
          exact Ct.zret hx hb hr (by decide) hlocks hAe hP hD hS dX1_mayBecome_72
        · have hf := if_f hf hc
          refine lv_iconst (v := (1 : Int32)) hx hb dX1_mayBecome_67 (by decide) ?_
          refine lv_goto (tgt := 72) hx hb dX1_mayBecome_68 (by decide) ?_
          cases hf
          exact Ct.zret hx hb hr (by decide) hlocks hAe hP hD hS dX1_mayBecome_72
    · have hf := if_t hf hc
      refine lv_aload_n hx hb dX1_mayBecome_32 rfl (lv_at hl 1 rfl) ?_
      refine lv_iload_n hx hb dX1_mayBecome_33 rfl (lv_at hl 2 rfl) ?_
      refine lv_iconst (v := (1 : Int32)) hx hb dX1_mayBecome_34 (by decide) ?_
      obtain ⟨x104, hg, hf⟩ := o1_s hf
      refine Ct.callV (ws' := wRf g h0 h1 h2 h3 R) (As := [.int x1, .int (1 : Int32)]) (rest := []) (st1 := [.int x104]) (c_X1_get l g h0 h1 h2 h3 R x1 (1 : Int32) hg) (cwV 2 hts gX1_mayBecome_X1_get rfl rfl rfl q_X1_get ⟨Nat.le_of_ble_eq_true rfl, Nat.le_of_ble_eq_true rfl⟩) ⟨hx, hb, hml, hown, hts⟩ hE hP hD hS hA [0, 1, 2, 3] rfl rfl rfl rfl 1 0 rfl rfl rfl rfl hl.1 rfl rfl (Nat.le_of_ble_eq_true rfl) dX1_mayBecome_35 (fun H locs hP hD hS => ?_)
      refine lv_goto (tgt := 48) hx hb dX1_mayBecome_38 (by decide) ?_
      refine lv_istore (lv' := [(5, .int x104), (4, .int y0), (0, .ref h0), (1, .int x1), (2, .int x2), (3, .int x3)]) hx hb dX1_mayBecome_48 hl (by decide) rfl (fun ls hl => ?_)
      refine lv_iload_n hx hb dX1_mayBecome_50 rfl (lv_at hl 4 rfl) ?_
      refine lv_bipush (v := (6 : Int32)) hx hb dX1_mayBecome_51 (by decide) ?_
      refine lv_icmp_eq (tgt := 71) hx hb dX1_mayBecome_53 (by decide) (fun hc => ?_) (fun hc => ?_)
      · have hf := if_t hf hc
        refine lv_iconst (v := (0 : Int32)) hx hb dX1_mayBecome_71 (by decide) ?_
        cases hf
        exact Ct.zret hx hb hr (by decide) hlocks hAe hP hD hS dX1_mayBecome_72
      · have hf := if_f hf hc
        refine lv_iload_n hx hb dX1_mayBecome_56 rfl (lv_at hl 5 rfl) ?_
        refine lv_iload hx hb dX1_mayBecome_57 (lv_at hl 1 rfl) ?_
        refine lv_iload hx hb dX1_mayBecome_59 (lv_at hl 0 rfl) ?_
        obtain ⟨x105, hg, hf⟩ := o1_s hf
        refine Ct.callSN (ws' := wRf g h0 h1 h2 h3 R) (As := [.int x3, .int y0, .int x104]) (rest := []) (st1 := [.int x105]) (c_X6_isWithin l g x3 y0 x104 hg) (⟨va_cnB 3 hts gX1_mayBecome_X6_isWithin_n68 rfl rfl rfl (hE.2.1 _ (List.mem_of_getElem? (i := 27) rfl)) w1 q_X6_isWithin.2 ⟨Nat.le_of_ble_eq_true rfl, Nat.le_of_ble_eq_true rfl⟩, w3, trivial⟩) ⟨hx, hb, hml, hown, hts⟩ hE hP hD hS hA [] rfl rfl rfl rfl rfl hl.1 rfl rfl (Nat.le_of_ble_eq_true rfl) dX1_mayBecome_61 (fun H locs hP hD hS => ?_)
        refine lv_if_eq (tgt := 71) hx hb dX1_mayBecome_64 (by decide) (fun hc => ?_) (fun hc => ?_)
        · have hf := if_t hf hc
          refine lv_iconst (v := (0 : Int32)) hx hb dX1_mayBecome_71 (by decide) ?_
          cases hf
          exact Ct.zret hx hb hr (by decide) hlocks hAe hP hD hS dX1_mayBecome_72
        · have hf := if_f hf hc
          refine lv_iconst (v := (1 : Int32)) hx hb dX1_mayBecome_67 (by decide) ?_
          refine lv_goto (tgt := 72) hx hb dX1_mayBecome_68 (by decide) ?_
          cases hf
          exact Ct.zret hx hb hr (by decide) hlocks hAe hP hD hS dX1_mayBecome_72
  unfold fX1_mayBecome at hf
  refine lv_iload_n hx hb dX1_mayBecome_0 rfl (lv_at hl 2 rfl) ?_
  refine lv_iconst (v := (1 : Int32)) hx hb dX1_mayBecome_1 (by decide) ?_
  refine lv_icmp_ne (tgt := 18) hx hb dX1_mayBecome_2 (by decide) (fun hc => ?_) (fun hc => ?_)
  · have hf := if_f hf hc
    refine va_getsN hx hb hE.2.2.2.2.1.1 hS hown (va_Nw.use rfl (hE.2.1 _ (List.mem_of_getElem? (i := 22) rfl))) (fun _ h9 => h9) dX1_mayBecome_18 ?_
    refine lv_iload_n hx hb dX1_mayBecome_21 rfl (lv_at hl 2 rfl) ?_
    obtain ⟨x101, hg, hf⟩ := o1_s hf
    refine Ct.callSN (ws' := wRf g h0 h1 h2 h3 R) (As := [.ref (g.2.2 0), .int a2]) (rest := []) (st1 := [.int x101]) (c_X6_at_K0 l g a2 hg) (⟨va_cnB 2 hts gX1_mayBecome_X6_at_n61 rfl rfl rfl (hE.2.1 _ (List.mem_of_getElem? (i := 26) rfl)) w1 q_X6_at.2 ⟨Nat.le_of_ble_eq_true rfl, Nat.le_of_ble_eq_true rfl⟩, w2, trivial⟩) ⟨hx, hb, hml, hown, hts⟩ hE hP hD hS hA [] rfl rfl rfl rfl rfl hl.1 rfl rfl (Nat.le_of_ble_eq_true rfl) dX1_mayBecome_22 (fun H locs hP hD hS => ?_)
    exact J25 _ _ _ _ _ _ _  hf hP hD hS (lv_sub hl [0, 1, 2, 3] rfl)
  · have hf := if_t hf hc
    refine lv_iconst (v := (1 : Int32)) hx hb dX1_mayBecome_5 (by decide) ?_
    refine lv_aload_n hx hb dX1_mayBecome_6 rfl (lv_at hl 0 rfl) ?_
    refine lv_iload_n hx hb dX1_mayBecome_7 rfl (lv_at hl 1 rfl) ?_
    refine lv_iconst (v := (2 : Int32)) hx hb dX1_mayBecome_8 (by decide) ?_
    obtain ⟨x106, hg, hf⟩ := o1_s hf
    refine Ct.callV (ws' := wRf g h0 h1 h2 h3 R) (As := [.int a1, .int (2 : Int32)]) (rest := [.int (1 : Int32)]) (st1 := [.int x106, .int (1 : Int32)]) (c_X1_get l g h0 h1 h2 h3 R a1 (2 : Int32) hg) (cwV 2 hts gX1_mayBecome_X1_get rfl rfl rfl q_X1_get ⟨Nat.le_of_ble_eq_true rfl, Nat.le_of_ble_eq_true rfl⟩) ⟨hx, hb, hml, hown, hts⟩ hE hP hD hS hA [0, 1, 2, 3] rfl rfl rfl rfl 1 0 rfl rfl rfl rfl hl.1 rfl rfl (Nat.le_of_ble_eq_true rfl) dX1_mayBecome_9 (fun H locs hP hD hS => ?_)
    refine va_mmax hx hb (hml.trans hl.1.symm) hown w4 w5 w6 w7 (Nat.le_of_ble_eq_true rfl) (Nat.le_of_ble_eq_true rfl) (Nat.zero_le _) (Nat.zero_le _) dX1_mayBecome_12 ?_
    refine lv_goto (tgt := 25) hx hb dX1_mayBecome_15 (by decide) ?_
    exact J25 _ _ _ _ _ _ _  hf hP hD hS (lv_sub hl [0, 1, 2, 3] rfl)
def fX1_caught_J28 (R : Rf) (x1 : Int32) (x2 : Int32) (x3 : Int32) : Option (Int32) := o1 (fX1_get R x1 ((7 : Int32) + x2)) (fun x102 => o1 (fX1_isOf R x1 (2 : Int32)) (fun x103 => if x103 = 0 then (some (x3 * x102)) else (some ((x3 * x102) / (2 : Int32)))))
def fX1_caught (R : Rf) (a1 : Int32) (a2 : Int32) (a3 : Int32) : Option (Int32) := o1 (fX1_get R a1 (5 : Int32)) (fun x101 => if x101 = (1 : Int32) then (some (0 : Int32)) else (if R.2.2.2.2.2.1 = 0 then (fX1_caught_J28 R a1 a2 a3) else (o1 (fX1_isOf R a1 (5 : Int32)) (fun x104 => if x104 = 0 then (fX1_caught_J28 R a1 a2 a3) else (some (0 : Int32))))))
theorem q_X1_caught : yX1_caught.cls = RX1 ∧ yX1_caught.cls ≠ "java/lang/invoke/MethodHandle" ∧ yX1_caught.cls ≠ "java/lang/invoke/VarHandle" ∧ (parseMethodDescriptor yX1_caught.desc).map (fun d => d.parameters.length) = some 3 := by decide +kernel
theorem i_X1_caught_X1 : ∀ w ∈ u_ws RX1 TX1 9, w ∈ wsX1_caught := fun _ h => List.mem_cons_of_mem _ (List.mem_append_right _ (h))
set_option maxHeartbeats 4000000 in
set_option maxRecDepth 100000 in
theorem c_X1_caught (l : Launch) (g : gG) (h0 h1 h2 h3 : Nat) (R : Rf) (a1 : Int32) (a2 : Int32) (a3 : Int32) {r : Int32} (hf : fX1_caught R a1 a2 a3 = some r) : Ct l yX1_caught wsX1_caught (rmm 2 46) g (wRf g h0 h1 h2 h3 R) (wRf g h0 h1 h2 h3 R) [.ref h0, .int a1, .int a2, .int a3] (some (.int r)) := by
  refine Ct.mk (by decide) rfl (Nat.le_of_ble_eq_true rfl) ?_
  intro p e s m args below meth c A ls hx hb hr hml hts hown hlocks hA hE hP hD hS hl hAe
  have hown : s.vm.findClass RX1 = some m.cls := hown
  have hl : lv_has ls 5 [(0, .ref h0), (1, .int a1), (2, .int a2), (3, .int a3)] := hl
  have w1 := hts (.fieldLink RX1 28 "RainVault$Roof" "isCold" "Z") (List.mem_of_getElem? (i := 1) rfl)
  have J28 : ∀ (x1 : Int32) (x2 : Int32) (x3 : Int32) (H : Heap) (locs : List Loc) (ls : Array Slot), fX1_caught_J28 R x1 x2 x3 = some r → va_P g.1 vwK (wRf g h0 h1 h2 h3 R) H → va_D A (wRf g h0 h1 h2 h3 R) → va_S A s.heap H locs → lv_has ls 5 [(0, .ref h0), (1, .int x1), (2, .int x2), (3, .int x3)] → W p l e (rmm 2 46) s m args below meth c H locs 0 0 (MQ below (QcG g (wRf g h0 h1 h2 h3 R) (wRf g h0 h1 h2 h3 R) (some (.int r)) s.heap.size) args s 0 0 A) (F0 m 28 ls []) := by
    intro x1 x2 x3 H locs ls hf hP hD hS hl
    unfold fX1_caught_J28 at hf
    refine lv_iload_n hx hb dX1_caught_28 rfl (lv_at hl 3 rfl) ?_
    refine lv_aload_n hx hb dX1_caught_29 rfl (lv_at hl 0 rfl) ?_
    refine lv_iload_n hx hb dX1_caught_30 rfl (lv_at hl 1 rfl) ?_
    refine lv_bipush (v := (7 : Int32)) hx hb dX1_caught_31 (by decide) ?_
    refine lv_iload_n hx hb dX1_caught_33 rfl (lv_at hl 2 rfl) ?_
    refine lv_iadd hx hb dX1_caught_34 ?_
    obtain ⟨x102, hg, hf⟩ := o1_s hf
    refine Ct.callV (ws' := wRf g h0 h1 h2 h3 R) (As := [.int x1, .int ((7 : Int32) + x2)]) (rest := [.int x3]) (st1 := [.int x102, .int x3]) (c_X1_get l g h0 h1 h2 h3 R x1 ((7 : Int32) + x2) hg) (cwV 2 hts gX1_caught_X1_get rfl rfl rfl q_X1_get ⟨Nat.le_of_ble_eq_true rfl, Nat.le_of_ble_eq_true rfl⟩) ⟨hx, hb, hml, hown, hts⟩ hE hP hD hS hA [0, 1, 2, 3] rfl rfl rfl rfl 1 0 rfl rfl rfl rfl hl.1 rfl rfl (Nat.le_of_ble_eq_true rfl) dX1_caught_35 (fun H locs hP hD hS => ?_)
    refine lv_imul hx hb dX1_caught_38 ?_
    refine lv_istore (lv' := [(4, .int (x3 * x102)), (0, .ref h0), (1, .int x1), (2, .int x2), (3, .int x3)]) hx hb dX1_caught_39 hl (by decide) rfl (fun ls hl => ?_)
    refine lv_aload_n hx hb dX1_caught_41 rfl (lv_at hl 1 rfl) ?_
    refine lv_iload_n hx hb dX1_caught_42 rfl (lv_at hl 2 rfl) ?_
    refine lv_iconst (v := (2 : Int32)) hx hb dX1_caught_43 (by decide) ?_
    obtain ⟨x103, hg, hf⟩ := o1_s hf
    refine Ct.callV (ws' := wRf g h0 h1 h2 h3 R) (As := [.int x1, .int (2 : Int32)]) (rest := []) (st1 := [.int x103]) (c_X1_isOf l g h0 h1 h2 h3 R x1 (2 : Int32) hg) (cwV 2 hts gX1_caught_X1_isOf rfl rfl rfl q_X1_isOf ⟨Nat.le_of_ble_eq_true rfl, Nat.le_of_ble_eq_true rfl⟩) ⟨hx, hb, hml, hown, hts⟩ hE hP hD hS hA [0, 1, 2, 3] rfl rfl rfl rfl 1 0 rfl rfl rfl rfl hl.1 rfl rfl (Nat.le_of_ble_eq_true rfl) dX1_caught_44 (fun H locs hP hD hS => ?_)
    refine lv_if_eq (tgt := 57) hx hb dX1_caught_47 (by decide) (fun hc => ?_) (fun hc => ?_)
    · have hf := if_t hf hc
      refine lv_iload hx hb dX1_caught_57 (lv_at hl 0 rfl) ?_
      cases hf
      exact Ct.iret hx hb hr hlocks hAe hP hD hS dX1_caught_59
    · have hf := if_f hf hc
      refine lv_iload hx hb dX1_caught_50 (lv_at hl 0 rfl) ?_
      refine lv_iconst (v := (2 : Int32)) hx hb dX1_caught_52 (by decide) ?_
      refine lv_idiv hx hb dX1_caught_53 (by decide) ?_
      refine lv_goto (tgt := 59) hx hb dX1_caught_54 (by decide) ?_
      cases hf
      exact Ct.iret hx hb hr hlocks hAe hP hD hS dX1_caught_59
  unfold fX1_caught at hf
  refine lv_aload_n hx hb dX1_caught_0 rfl (lv_at hl 0 rfl) ?_
  refine lv_iload_n hx hb dX1_caught_1 rfl (lv_at hl 1 rfl) ?_
  refine lv_iconst (v := (5 : Int32)) hx hb dX1_caught_2 (by decide) ?_
  obtain ⟨x101, hg, hf⟩ := o1_s hf
  refine Ct.callV (ws' := wRf g h0 h1 h2 h3 R) (As := [.int a1, .int (5 : Int32)]) (rest := []) (st1 := [.int x101]) (c_X1_get l g h0 h1 h2 h3 R a1 (5 : Int32) hg) (cwV 2 hts gX1_caught_X1_get rfl rfl rfl q_X1_get ⟨Nat.le_of_ble_eq_true rfl, Nat.le_of_ble_eq_true rfl⟩) ⟨hx, hb, hml, hown, hts⟩ hE hP hD hS hA [0, 1, 2, 3] rfl rfl rfl rfl 1 0 rfl rfl rfl rfl hl.1 rfl rfl (Nat.le_of_ble_eq_true rfl) dX1_caught_3 (fun H locs hP hD hS => ?_)
  refine lv_iconst (v := (1 : Int32)) hx hb dX1_caught_6 (by decide) ?_
  refine lv_icmp_eq (tgt := 26) hx hb dX1_caught_7 (by decide) (fun hc => ?_) (fun hc => ?_)
  · have hf := if_t hf hc
    refine lv_iconst (v := (0 : Int32)) hx hb dX1_caught_26 (by decide) ?_
    cases hf
    exact Ct.iret hx hb hr hlocks hAe hP hD hS dX1_caught_27
  · have hf := if_f hf hc
    refine lv_aload_n hx hb dX1_caught_10 rfl (lv_at hl 0 rfl) ?_
    refine va_get (D := g.1) (ci := 1) (v := .int R.2.2.2.2.2.1) (C := RX1) (T := TX1) (N := 9) hx hb hts i_X1_caught_X1 hown hE.1 hP 0 rfl rfl 5 (by decide) w1 (fun _ h9 => h9) rfl dX1_caught_11 ?_
    refine lv_if_eq (tgt := 28) hx hb dX1_caught_14 (by decide) (fun hc => ?_) (fun hc => ?_)
    · have hf := if_t hf hc
      exact J28 _ _ _ _ _ _  hf hP hD hS (lv_sub hl [0, 1, 2, 3] rfl)
    · have hf := if_f hf hc
      refine lv_aload_n hx hb dX1_caught_17 rfl (lv_at hl 0 rfl) ?_
      refine lv_iload_n hx hb dX1_caught_18 rfl (lv_at hl 1 rfl) ?_
      refine lv_iconst (v := (5 : Int32)) hx hb dX1_caught_19 (by decide) ?_
      obtain ⟨x104, hg, hf⟩ := o1_s hf
      refine Ct.callV (ws' := wRf g h0 h1 h2 h3 R) (As := [.int a1, .int (5 : Int32)]) (rest := []) (st1 := [.int x104]) (c_X1_isOf l g h0 h1 h2 h3 R a1 (5 : Int32) hg) (cwV 2 hts gX1_caught_X1_isOf rfl rfl rfl q_X1_isOf ⟨Nat.le_of_ble_eq_true rfl, Nat.le_of_ble_eq_true rfl⟩) ⟨hx, hb, hml, hown, hts⟩ hE hP hD hS hA [0, 1, 2, 3] rfl rfl rfl rfl 1 0 rfl rfl rfl rfl hl.1 rfl rfl (Nat.le_of_ble_eq_true rfl) dX1_caught_20 (fun H locs hP hD hS => ?_)
      refine lv_if_eq (tgt := 28) hx hb dX1_caught_23 (by decide) (fun hc => ?_) (fun hc => ?_)
      · have hf := if_t hf hc
        exact J28 _ _ _ _ _ _  hf hP hD hS (lv_sub hl [0, 1, 2, 3] rfl)
      · have hf := if_f hf hc
        refine lv_iconst (v := (0 : Int32)) hx hb dX1_caught_26 (by decide) ?_
        cases hf
        exact Ct.iret hx hb hr hlocks hAe hP hD hS dX1_caught_27
def fX1_leaked (R : Rf) (a1 : Int32) : Option (Int32) := o1 (fX1_isOf R a1 (6 : Int32)) (fun x101 => if x101 = 0 then (if R.2.2.2.2.2.1 = 0 then (o1 (fX1_get R a1 (3 : Int32)) (fun x102 => o1 (fX1_get R a1 (2 : Int32)) (fun x103 => some (if x103 < x102 then x103 else x102)))) else (o1 (fX1_isOf R a1 (5 : Int32)) (fun x104 => if x104 = 0 then (o1 (fX1_get R a1 (3 : Int32)) (fun x105 => o1 (fX1_get R a1 (2 : Int32)) (fun x106 => some (if x106 < x105 then x106 else x105)))) else (some (0 : Int32))))) else (some (0 : Int32)))
theorem q_X1_leaked : yX1_leaked.cls = RX1 ∧ yX1_leaked.cls ≠ "java/lang/invoke/MethodHandle" ∧ yX1_leaked.cls ≠ "java/lang/invoke/VarHandle" ∧ (parseMethodDescriptor yX1_leaked.desc).map (fun d => d.parameters.length) = some 1 := by decide +kernel
theorem i_X1_leaked_X1 : ∀ w ∈ u_ws RX1 TX1 9, w ∈ wsX1_leaked := fun _ h => List.mem_cons_of_mem _ (List.mem_append_right _ (h))
set_option maxHeartbeats 4000000 in
set_option maxRecDepth 100000 in
theorem c_X1_leaked (l : Launch) (g : gG) (h0 h1 h2 h3 : Nat) (R : Rf) (a1 : Int32) {r : Int32} (hf : fX1_leaked R a1 = some r) : Ct l yX1_leaked wsX1_leaked (rmm 2 46) g (wRf g h0 h1 h2 h3 R) (wRf g h0 h1 h2 h3 R) [.ref h0, .int a1] (some (.int r)) := by
  refine Ct.mk (by decide) rfl (Nat.le_of_ble_eq_true rfl) ?_
  intro p e s m args below meth c A ls hx hb hr hml hts hown hlocks hA hE hP hD hS hl hAe
  have hown : s.vm.findClass RX1 = some m.cls := hown
  have hl : lv_has ls 2 [(0, .ref h0), (1, .int a1)] := hl
  have w1 := hts (.fieldLink RX1 28 "RainVault$Roof" "isCold" "Z") (List.mem_of_getElem? (i := 1) rfl)
  have w2 := hts (.methodLink RX1 79 Lib.Math.min.name) (List.mem_of_getElem? (i := 2) rfl)
  have w3 := hts (.static Lib.Math.min.name) (List.mem_of_getElem? (i := 3) rfl)
  have w4 := hts (.initialized "java/lang/Math") (List.mem_of_getElem? (i := 4) rfl)
  have w5 := hts (.code Lib.Math.min.name Lib.Math.min.code 2 (some .int)) (List.mem_of_getElem? (i := 5) rfl)
  unfold fX1_leaked at hf
  refine lv_aload_n hx hb dX1_leaked_0 rfl (lv_at hl 0 rfl) ?_
  refine lv_iload_n hx hb dX1_leaked_1 rfl (lv_at hl 1 rfl) ?_
  refine lv_bipush (v := (6 : Int32)) hx hb dX1_leaked_2 (by decide) ?_
  obtain ⟨x101, hg, hf⟩ := o1_s hf
  refine Ct.callV (ws' := wRf g h0 h1 h2 h3 R) (As := [.int a1, .int (6 : Int32)]) (rest := []) (st1 := [.int x101]) (c_X1_isOf l g h0 h1 h2 h3 R a1 (6 : Int32) hg) (cwV 2 hts gX1_leaked_X1_isOf rfl rfl rfl q_X1_isOf ⟨Nat.le_of_ble_eq_true rfl, Nat.le_of_ble_eq_true rfl⟩) ⟨hx, hb, hml, hown, hts⟩ hE hP hD hS hA [0, 1, 2, 3] rfl rfl rfl rfl 1 0 rfl rfl rfl rfl hl.1 rfl rfl (Nat.le_of_ble_eq_true rfl) dX1_leaked_4 (fun H locs hP hD hS => ?_)
  refine lv_if_ne (tgt := 26) hx hb dX1_leaked_7 (by decide) (fun hc => ?_) (fun hc => ?_)
  · have hf := if_f hf hc
    refine lv_iconst (v := (0 : Int32)) hx hb dX1_leaked_26 (by decide) ?_
    cases hf
    exact Ct.iret hx hb hr hlocks hAe hP hD hS dX1_leaked_27
  · have hf := if_t hf hc
    refine lv_aload_n hx hb dX1_leaked_10 rfl (lv_at hl 0 rfl) ?_
    refine va_get (D := g.1) (ci := 1) (v := .int R.2.2.2.2.2.1) (C := RX1) (T := TX1) (N := 9) hx hb hts i_X1_leaked_X1 hown hE.1 hP 0 rfl rfl 5 (by decide) w1 (fun _ h9 => h9) rfl dX1_leaked_11 ?_
    refine lv_if_eq (tgt := 28) hx hb dX1_leaked_14 (by decide) (fun hc => ?_) (fun hc => ?_)
    · have hf := if_t hf hc
      refine lv_aload_n hx hb dX1_leaked_28 rfl (lv_at hl 0 rfl) ?_
      refine lv_iload_n hx hb dX1_leaked_29 rfl (lv_at hl 1 rfl) ?_
      refine lv_iconst (v := (3 : Int32)) hx hb dX1_leaked_30 (by decide) ?_
      obtain ⟨x102, hg, hf⟩ := o1_s hf
      refine Ct.callV (ws' := wRf g h0 h1 h2 h3 R) (As := [.int a1, .int (3 : Int32)]) (rest := []) (st1 := [.int x102]) (c_X1_get l g h0 h1 h2 h3 R a1 (3 : Int32) hg) (cwV 2 hts gX1_leaked_X1_get rfl rfl rfl q_X1_get ⟨Nat.le_of_ble_eq_true rfl, Nat.le_of_ble_eq_true rfl⟩) ⟨hx, hb, hml, hown, hts⟩ hE hP hD hS hA [0, 1, 2, 3] rfl rfl rfl rfl 1 0 rfl rfl rfl rfl hl.1 rfl rfl (Nat.le_of_ble_eq_true rfl) dX1_leaked_31 (fun H locs hP hD hS => ?_)
      refine lv_aload_n hx hb dX1_leaked_34 rfl (lv_at hl 0 rfl) ?_
      refine lv_iload_n hx hb dX1_leaked_35 rfl (lv_at hl 1 rfl) ?_
      refine lv_iconst (v := (2 : Int32)) hx hb dX1_leaked_36 (by decide) ?_
      obtain ⟨x103, hg, hf⟩ := o1_s hf
      refine Ct.callV (ws' := wRf g h0 h1 h2 h3 R) (As := [.int a1, .int (2 : Int32)]) (rest := [.int x102]) (st1 := [.int x103, .int x102]) (c_X1_get l g h0 h1 h2 h3 R a1 (2 : Int32) hg) (cwV 2 hts gX1_leaked_X1_get rfl rfl rfl q_X1_get ⟨Nat.le_of_ble_eq_true rfl, Nat.le_of_ble_eq_true rfl⟩) ⟨hx, hb, hml, hown, hts⟩ hE hP hD hS hA [0, 1, 2, 3] rfl rfl rfl rfl 1 0 rfl rfl rfl rfl hl.1 rfl rfl (Nat.le_of_ble_eq_true rfl) dX1_leaked_37 (fun H locs hP hD hS => ?_)
      refine va_mmin hx hb (hml.trans hl.1.symm) hown w2 w3 w4 w5 (Nat.le_of_ble_eq_true rfl) (Nat.le_of_ble_eq_true rfl) (Nat.zero_le _) (Nat.zero_le _) dX1_leaked_40 ?_
      cases hf
      exact Ct.iret hx hb hr hlocks hAe hP hD hS dX1_leaked_43
    · have hf := if_f hf hc
      refine lv_aload_n hx hb dX1_leaked_17 rfl (lv_at hl 0 rfl) ?_
      refine lv_iload_n hx hb dX1_leaked_18 rfl (lv_at hl 1 rfl) ?_
      refine lv_iconst (v := (5 : Int32)) hx hb dX1_leaked_19 (by decide) ?_
      obtain ⟨x104, hg, hf⟩ := o1_s hf
      refine Ct.callV (ws' := wRf g h0 h1 h2 h3 R) (As := [.int a1, .int (5 : Int32)]) (rest := []) (st1 := [.int x104]) (c_X1_isOf l g h0 h1 h2 h3 R a1 (5 : Int32) hg) (cwV 2 hts gX1_leaked_X1_isOf rfl rfl rfl q_X1_isOf ⟨Nat.le_of_ble_eq_true rfl, Nat.le_of_ble_eq_true rfl⟩) ⟨hx, hb, hml, hown, hts⟩ hE hP hD hS hA [0, 1, 2, 3] rfl rfl rfl rfl 1 0 rfl rfl rfl rfl hl.1 rfl rfl (Nat.le_of_ble_eq_true rfl) dX1_leaked_20 (fun H locs hP hD hS => ?_)
      refine lv_if_eq (tgt := 28) hx hb dX1_leaked_23 (by decide) (fun hc => ?_) (fun hc => ?_)
      · have hf := if_t hf hc
        refine lv_aload_n hx hb dX1_leaked_28 rfl (lv_at hl 0 rfl) ?_
        refine lv_iload_n hx hb dX1_leaked_29 rfl (lv_at hl 1 rfl) ?_
        refine lv_iconst (v := (3 : Int32)) hx hb dX1_leaked_30 (by decide) ?_
        obtain ⟨x105, hg, hf⟩ := o1_s hf
        refine Ct.callV (ws' := wRf g h0 h1 h2 h3 R) (As := [.int a1, .int (3 : Int32)]) (rest := []) (st1 := [.int x105]) (c_X1_get l g h0 h1 h2 h3 R a1 (3 : Int32) hg) (cwV 2 hts gX1_leaked_X1_get rfl rfl rfl q_X1_get ⟨Nat.le_of_ble_eq_true rfl, Nat.le_of_ble_eq_true rfl⟩) ⟨hx, hb, hml, hown, hts⟩ hE hP hD hS hA [0, 1, 2, 3] rfl rfl rfl rfl 1 0 rfl rfl rfl rfl hl.1 rfl rfl (Nat.le_of_ble_eq_true rfl) dX1_leaked_31 (fun H locs hP hD hS => ?_)
        refine lv_aload_n hx hb dX1_leaked_34 rfl (lv_at hl 0 rfl) ?_
        refine lv_iload_n hx hb dX1_leaked_35 rfl (lv_at hl 1 rfl) ?_
        refine lv_iconst (v := (2 : Int32)) hx hb dX1_leaked_36 (by decide) ?_
        obtain ⟨x106, hg, hf⟩ := o1_s hf
        refine Ct.callV (ws' := wRf g h0 h1 h2 h3 R) (As := [.int a1, .int (2 : Int32)]) (rest := [.int x105]) (st1 := [.int x106, .int x105]) (c_X1_get l g h0 h1 h2 h3 R a1 (2 : Int32) hg) (cwV 2 hts gX1_leaked_X1_get rfl rfl rfl q_X1_get ⟨Nat.le_of_ble_eq_true rfl, Nat.le_of_ble_eq_true rfl⟩) ⟨hx, hb, hml, hown, hts⟩ hE hP hD hS hA [0, 1, 2, 3] rfl rfl rfl rfl 1 0 rfl rfl rfl rfl hl.1 rfl rfl (Nat.le_of_ble_eq_true rfl) dX1_leaked_37 (fun H locs hP hD hS => ?_)
        refine va_mmin hx hb (hml.trans hl.1.symm) hown w2 w3 w4 w5 (Nat.le_of_ble_eq_true rfl) (Nat.le_of_ble_eq_true rfl) (Nat.zero_le _) (Nat.zero_le _) dX1_leaked_40 ?_
        cases hf
        exact Ct.iret hx hb hr hlocks hAe hP hD hS dX1_leaked_43
      · have hf := if_f hf hc
        refine lv_iconst (v := (0 : Int32)) hx hb dX1_leaked_26 (by decide) ?_
        cases hf
        exact Ct.iret hx hb hr hlocks hAe hP hD hS dX1_leaked_27
def fX1_runningOver (R : Rf) (a1 : Int32) : Option (Int32) := o1 (fX1_get R a1 (2 : Int32)) (fun x101 => o1 (fX1_get R a1 (1 : Int32)) (fun x102 => o1 (fX1_isOf R a1 (1 : Int32)) (fun x103 => if x103 = 0 then (some (if (0 : Int32) < (x101 - x102) then (x101 - x102) else (0 : Int32))) else (if (x101 - x102) < 0 then (some (0 : Int32)) else (some x101)))))
theorem q_X1_runningOver : yX1_runningOver.cls = RX1 ∧ yX1_runningOver.cls ≠ "java/lang/invoke/MethodHandle" ∧ yX1_runningOver.cls ≠ "java/lang/invoke/VarHandle" ∧ (parseMethodDescriptor yX1_runningOver.desc).map (fun d => d.parameters.length) = some 1 := by decide +kernel
set_option maxHeartbeats 4000000 in
set_option maxRecDepth 100000 in
theorem c_X1_runningOver (l : Launch) (g : gG) (h0 h1 h2 h3 : Nat) (R : Rf) (a1 : Int32) {r : Int32} (hf : fX1_runningOver R a1 = some r) : Ct l yX1_runningOver wsX1_runningOver (rmm 2 46) g (wRf g h0 h1 h2 h3 R) (wRf g h0 h1 h2 h3 R) [.ref h0, .int a1] (some (.int r)) := by
  refine Ct.mk (by decide) rfl (Nat.le_of_ble_eq_true rfl) ?_
  intro p e s m args below meth c A ls hx hb hr hml hts hown hlocks hA hE hP hD hS hl hAe
  have hown : s.vm.findClass RX1 = some m.cls := hown
  have hl : lv_has ls 4 [(0, .ref h0), (1, .int a1)] := hl
  have w1 := hts (.methodLink RX1 53 Lib.Math.max.name) (List.mem_of_getElem? (i := 1) rfl)
  have w2 := hts (.static Lib.Math.max.name) (List.mem_of_getElem? (i := 2) rfl)
  have w3 := hts (.initialized "java/lang/Math") (List.mem_of_getElem? (i := 3) rfl)
  have w4 := hts (.code Lib.Math.max.name Lib.Math.max.code 2 (some .int)) (List.mem_of_getElem? (i := 4) rfl)
  unfold fX1_runningOver at hf
  refine lv_aload_n hx hb dX1_runningOver_0 rfl (lv_at hl 0 rfl) ?_
  refine lv_iload_n hx hb dX1_runningOver_1 rfl (lv_at hl 1 rfl) ?_
  refine lv_iconst (v := (2 : Int32)) hx hb dX1_runningOver_2 (by decide) ?_
  obtain ⟨x101, hg, hf⟩ := o1_s hf
  refine Ct.callV (ws' := wRf g h0 h1 h2 h3 R) (As := [.int a1, .int (2 : Int32)]) (rest := []) (st1 := [.int x101]) (c_X1_get l g h0 h1 h2 h3 R a1 (2 : Int32) hg) (cwV 2 hts gX1_runningOver_X1_get rfl rfl rfl q_X1_get ⟨Nat.le_of_ble_eq_true rfl, Nat.le_of_ble_eq_true rfl⟩) ⟨hx, hb, hml, hown, hts⟩ hE hP hD hS hA [0, 1, 2, 3] rfl rfl rfl rfl 1 0 rfl rfl rfl rfl hl.1 rfl rfl (Nat.le_of_ble_eq_true rfl) dX1_runningOver_3 (fun H locs hP hD hS => ?_)
  refine lv_istore_n (lv' := [(2, .int x101), (0, .ref h0), (1, .int a1)]) hx hb dX1_runningOver_6 rfl hl (by decide) rfl (fun ls hl => ?_)
  refine lv_iload_n hx hb dX1_runningOver_7 rfl (lv_at hl 0 rfl) ?_
  refine lv_aload_n hx hb dX1_runningOver_8 rfl (lv_at hl 1 rfl) ?_
  refine lv_iload_n hx hb dX1_runningOver_9 rfl (lv_at hl 2 rfl) ?_
  refine lv_iconst (v := (1 : Int32)) hx hb dX1_runningOver_10 (by decide) ?_
  obtain ⟨x102, hg, hf⟩ := o1_s hf
  refine Ct.callV (ws' := wRf g h0 h1 h2 h3 R) (As := [.int a1, .int (1 : Int32)]) (rest := [.int x101]) (st1 := [.int x102, .int x101]) (c_X1_get l g h0 h1 h2 h3 R a1 (1 : Int32) hg) (cwV 2 hts gX1_runningOver_X1_get rfl rfl rfl q_X1_get ⟨Nat.le_of_ble_eq_true rfl, Nat.le_of_ble_eq_true rfl⟩) ⟨hx, hb, hml, hown, hts⟩ hE hP hD hS hA [0, 1, 2, 3] rfl rfl rfl rfl 1 0 rfl rfl rfl rfl hl.1 rfl rfl (Nat.le_of_ble_eq_true rfl) dX1_runningOver_11 (fun H locs hP hD hS => ?_)
  refine lv_isub hx hb dX1_runningOver_14 ?_
  refine lv_istore_n (lv' := [(3, .int (x101 - x102)), (2, .int x101), (0, .ref h0), (1, .int a1)]) hx hb dX1_runningOver_15 rfl hl (by decide) rfl (fun ls hl => ?_)
  refine lv_aload_n hx hb dX1_runningOver_16 rfl (lv_at hl 2 rfl) ?_
  refine lv_iload_n hx hb dX1_runningOver_17 rfl (lv_at hl 3 rfl) ?_
  refine lv_iconst (v := (1 : Int32)) hx hb dX1_runningOver_18 (by decide) ?_
  obtain ⟨x103, hg, hf⟩ := o1_s hf
  refine Ct.callV (ws' := wRf g h0 h1 h2 h3 R) (As := [.int a1, .int (1 : Int32)]) (rest := []) (st1 := [.int x103]) (c_X1_isOf l g h0 h1 h2 h3 R a1 (1 : Int32) hg) (cwV 2 hts gX1_runningOver_X1_isOf rfl rfl rfl q_X1_isOf ⟨Nat.le_of_ble_eq_true rfl, Nat.le_of_ble_eq_true rfl⟩) ⟨hx, hb, hml, hown, hts⟩ hE hP hD hS hA [0, 1, 2, 3] rfl rfl rfl rfl 1 0 rfl rfl rfl rfl hl.1 rfl rfl (Nat.le_of_ble_eq_true rfl) dX1_runningOver_19 (fun H locs hP hD hS => ?_)
  refine lv_if_eq (tgt := 35) hx hb dX1_runningOver_22 (by decide) (fun hc => ?_) (fun hc => ?_)
  · have hf := if_t hf hc
    refine lv_iconst (v := (0 : Int32)) hx hb dX1_runningOver_35 (by decide) ?_
    refine lv_iload_n hx hb dX1_runningOver_36 rfl (lv_at hl 0 rfl) ?_
    refine va_mmax hx hb (hml.trans hl.1.symm) hown w1 w2 w3 w4 (Nat.le_of_ble_eq_true rfl) (Nat.le_of_ble_eq_true rfl) (Nat.zero_le _) (Nat.zero_le _) dX1_runningOver_37 ?_
    cases hf
    exact Ct.iret hx hb hr hlocks hAe hP hD hS dX1_runningOver_40
  · have hf := if_f hf hc
    refine lv_iload_n hx hb dX1_runningOver_25 rfl (lv_at hl 0 rfl) ?_
    refine lv_if_lt (tgt := 33) hx hb dX1_runningOver_26 (by decide) (fun hc => ?_) (fun hc => ?_)
    · have hf := if_t hf hc
      refine lv_iconst (v := (0 : Int32)) hx hb dX1_runningOver_33 (by decide) ?_
      cases hf
      exact Ct.iret hx hb hr hlocks hAe hP hD hS dX1_runningOver_34
    · have hf := if_f hf hc
      refine lv_iload_n hx hb dX1_runningOver_29 rfl (lv_at hl 1 rfl) ?_
      refine lv_goto (tgt := 34) hx hb dX1_runningOver_30 (by decide) ?_
      cases hf
      exact Ct.iret hx hb hr hlocks hAe hP hD hS dX1_runningOver_34
def fX1_gutterEnd (R : Rf) (a1 : Int32) : Option (Int32) := o1 (fX1_get R a1 (4 : Int32)) (fun x101 => o1 (fX1_hasCistern R x101) (fun x102 => if x102 = 0 then (some (-1 : Int32)) else (if x101 = a1 then (some (-1 : Int32)) else (some x101))))
theorem q_X1_gutterEnd : yX1_gutterEnd.cls = RX1 ∧ yX1_gutterEnd.cls ≠ "java/lang/invoke/MethodHandle" ∧ yX1_gutterEnd.cls ≠ "java/lang/invoke/VarHandle" ∧ (parseMethodDescriptor yX1_gutterEnd.desc).map (fun d => d.parameters.length) = some 1 := by decide +kernel
set_option maxHeartbeats 4000000 in
set_option maxRecDepth 100000 in
theorem c_X1_gutterEnd (l : Launch) (g : gG) (h0 h1 h2 h3 : Nat) (R : Rf) (a1 : Int32) {r : Int32} (hf : fX1_gutterEnd R a1 = some r) : Ct l yX1_gutterEnd wsX1_gutterEnd (rmm 1 23) g (wRf g h0 h1 h2 h3 R) (wRf g h0 h1 h2 h3 R) [.ref h0, .int a1] (some (.int r)) := by
  refine Ct.mk (by decide) rfl (Nat.le_of_ble_eq_true rfl) ?_
  intro p e s m args below meth c A ls hx hb hr hml hts hown hlocks hA hE hP hD hS hl hAe
  have hown : s.vm.findClass RX1 = some m.cls := hown
  have hl : lv_has ls 3 [(0, .ref h0), (1, .int a1)] := hl
  unfold fX1_gutterEnd at hf
  refine lv_aload_n hx hb dX1_gutterEnd_0 rfl (lv_at hl 0 rfl) ?_
  refine lv_iload_n hx hb dX1_gutterEnd_1 rfl (lv_at hl 1 rfl) ?_
  refine lv_iconst (v := (4 : Int32)) hx hb dX1_gutterEnd_2 (by decide) ?_
  obtain ⟨x101, hg, hf⟩ := o1_s hf
  refine Ct.callV (ws' := wRf g h0 h1 h2 h3 R) (As := [.int a1, .int (4 : Int32)]) (rest := []) (st1 := [.int x101]) (c_X1_get l g h0 h1 h2 h3 R a1 (4 : Int32) hg) (cwV 2 hts gX1_gutterEnd_X1_get rfl rfl rfl q_X1_get ⟨Nat.le_of_ble_eq_true rfl, Nat.le_of_ble_eq_true rfl⟩) ⟨hx, hb, hml, hown, hts⟩ hE hP hD hS hA [0, 1, 2, 3] rfl rfl rfl rfl 1 0 rfl rfl rfl rfl hl.1 rfl rfl (Nat.le_of_ble_eq_true rfl) dX1_gutterEnd_3 (fun H locs hP hD hS => ?_)
  refine lv_istore_n (lv' := [(2, .int x101), (0, .ref h0), (1, .int a1)]) hx hb dX1_gutterEnd_6 rfl hl (by decide) rfl (fun ls hl => ?_)
  refine lv_aload_n hx hb dX1_gutterEnd_7 rfl (lv_at hl 1 rfl) ?_
  refine lv_iload_n hx hb dX1_gutterEnd_8 rfl (lv_at hl 0 rfl) ?_
  obtain ⟨x102, hg, hf⟩ := o1_s hf
  refine Ct.callV (ws' := wRf g h0 h1 h2 h3 R) (As := [.int x101]) (rest := []) (st1 := [.int x102]) (c_X1_hasCistern l g h0 h1 h2 h3 R x101 hg) (cwV 1 hts gX1_gutterEnd_X1_hasCistern rfl rfl rfl q_X1_hasCistern ⟨Nat.le_of_ble_eq_true rfl, Nat.le_of_ble_eq_true rfl⟩) ⟨hx, hb, hml, hown, hts⟩ hE hP hD hS hA [0, 1, 2, 3] rfl rfl rfl rfl 1 0 rfl rfl rfl rfl hl.1 rfl rfl (Nat.le_of_ble_eq_true rfl) dX1_gutterEnd_9 (fun H locs hP hD hS => ?_)
  refine lv_if_eq (tgt := 24) hx hb dX1_gutterEnd_12 (by decide) (fun hc => ?_) (fun hc => ?_)
  · have hf := if_t hf hc
    refine lv_iconst (v := (-1 : Int32)) hx hb dX1_gutterEnd_24 (by decide) ?_
    cases hf
    exact Ct.iret hx hb hr hlocks hAe hP hD hS dX1_gutterEnd_25
  · have hf := if_f hf hc
    refine lv_iload_n hx hb dX1_gutterEnd_15 rfl (lv_at hl 0 rfl) ?_
    refine lv_iload_n hx hb dX1_gutterEnd_16 rfl (lv_at hl 2 rfl) ?_
    refine lv_icmp_eq (tgt := 24) hx hb dX1_gutterEnd_17 (by decide) (fun hc => ?_) (fun hc => ?_)
    · have hf := if_t hf hc
      refine lv_iconst (v := (-1 : Int32)) hx hb dX1_gutterEnd_24 (by decide) ?_
      cases hf
      exact Ct.iret hx hb hr hlocks hAe hP hD hS dX1_gutterEnd_25
    · have hf := if_f hf hc
      refine lv_iload_n hx hb dX1_gutterEnd_20 rfl (lv_at hl 0 rfl) ?_
      refine lv_goto (tgt := 25) hx hb dX1_gutterEnd_21 (by decide) ?_
      cases hf
      exact Ct.iret hx hb hr hlocks hAe hP hD hS dX1_gutterEnd_25
def fX1_reachedFrom_L11 (R : Rf) (kx : Int32 → Option (Int32)) : Nat → Int32 → Int32 → Int32 → Option (Int32)
  | 0, _, _, _ => none
  | k + 1, x2, x3, x4 => if (8 : Int32) ≤ x4 then (kx x2) else (if x3 < 0 then (kx x2) else (o1 (fX1_gutterEnd R x3) (fun x103 => fX1_reachedFrom_L11 R kx k (x2 ||| ((1 : Int32) <<< (x3 &&& 31))) x103 (x4 + (1 : Int32)))))
def fX1_reachedFrom (R : Rf) (a1 : Int32) : Option (Int32) := o1 (fX1_gutterEnd R a1) (fun x101 => fX1_reachedFrom_L11 R (fun x104 => some x104) fu (0 : Int32) x101 (0 : Int32))
theorem q_X1_reachedFrom : yX1_reachedFrom.cls = RX1 ∧ yX1_reachedFrom.cls ≠ "java/lang/invoke/MethodHandle" ∧ yX1_reachedFrom.cls ≠ "java/lang/invoke/VarHandle" ∧ (parseMethodDescriptor yX1_reachedFrom.desc).map (fun d => d.parameters.length) = some 1 := by decide +kernel
set_option maxHeartbeats 4000000 in
set_option maxRecDepth 100000 in
theorem c_X1_reachedFrom (l : Launch) (g : gG) (h0 h1 h2 h3 : Nat) (R : Rf) (a1 : Int32) {r : Int32} (hf : fX1_reachedFrom R a1 = some r) : Ct l yX1_reachedFrom wsX1_reachedFrom (rmm 2 45) g (wRf g h0 h1 h2 h3 R) (wRf g h0 h1 h2 h3 R) [.ref h0, .int a1] (some (.int r)) := by
  refine Ct.mk (by decide) rfl (Nat.le_of_ble_eq_true rfl) ?_
  intro p e s m args below meth c A ls hx hb hr hml hts hown hlocks hA hE hP hD hS hl hAe
  have hown : s.vm.findClass RX1 = some m.cls := hown
  have hl : lv_has ls 5 [(0, .ref h0), (1, .int a1)] := hl
  have L11 : ∀ (kx : Int32 → Option (Int32)) (k : Nat) (x2 : Int32) (x3 : Int32) (x4 : Int32) (H : Heap) (locs : List Loc) (ls : Array Slot), fX1_reachedFrom_L11 R kx k x2 x3 x4 = some r → va_P g.1 vwK (wRf g h0 h1 h2 h3 R) H → va_D A (wRf g h0 h1 h2 h3 R) → va_S A s.heap H locs → lv_has ls 5 [(0, .ref h0), (2, .int x2), (3, .int x3), (4, .int x4)] → (∀ (x2 : Int32) (H : Heap) (locs : List Loc) (ls : Array Slot), kx x2 = some r → va_P g.1 vwK (wRf g h0 h1 h2 h3 R) H → va_D A (wRf g h0 h1 h2 h3 R) → va_S A s.heap H locs → lv_has ls 5 [(2, .int x2)] → W p l e (rmm 2 45) s m args below meth c H locs 0 0 (MQ below (QcG g (wRf g h0 h1 h2 h3 R) (wRf g h0 h1 h2 h3 R) (some (.int r)) s.heap.size) args s 0 0 A) (F0 m 40 ls [])) → W p l e (rmm 2 45) s m args below meth c H locs 0 0 (MQ below (QcG g (wRf g h0 h1 h2 h3 R) (wRf g h0 h1 h2 h3 R) (some (.int r)) s.heap.size) args s 0 0 A) (F0 m 11 ls []) := by
    intro kx k
    induction k with
    | zero => intro x2 x3 x4 H locs ls hf; exact nomatch (show (none : Option (Int32)) = some _ from hf)
    | succ k ih =>
      intro x2 x3 x4 H locs ls hf hP hD hS hl hk
      rw [fX1_reachedFrom_L11] at hf
      refine lv_iload hx hb dX1_reachedFrom_11 (lv_at hl 3 rfl) ?_
      refine lv_bipush (v := (8 : Int32)) hx hb dX1_reachedFrom_13 (by decide) ?_
      refine lv_icmp_ge (tgt := 40) hx hb dX1_reachedFrom_15 (by decide) (fun hc => ?_) (fun hc => ?_)
      · have hf := if_t hf hc
        exact hk _ _ _ _  hf hP hD hS (lv_sub hl [1] rfl)
      · have hf := if_f hf hc
        refine lv_iload_n hx hb dX1_reachedFrom_18 rfl (lv_at hl 2 rfl) ?_
        refine lv_if_lt (tgt := 40) hx hb dX1_reachedFrom_19 (by decide) (fun hc => ?_) (fun hc => ?_)
        · have hf := if_t hf hc
          exact hk _ _ _ _  hf hP hD hS (lv_sub hl [1] rfl)
        · have hf := if_f hf hc
          refine lv_iload_n hx hb dX1_reachedFrom_22 rfl (lv_at hl 1 rfl) ?_
          refine lv_iconst (v := (1 : Int32)) hx hb dX1_reachedFrom_23 (by decide) ?_
          refine lv_iload_n hx hb dX1_reachedFrom_24 rfl (lv_at hl 2 rfl) ?_
          refine lv_ishl hx hb dX1_reachedFrom_25 ?_
          refine lv_ior hx hb dX1_reachedFrom_26 ?_
          refine lv_istore_n (lv' := [(2, .int (x2 ||| ((1 : Int32) <<< (x3 &&& 31)))), (0, .ref h0), (3, .int x3), (4, .int x4)]) hx hb dX1_reachedFrom_27 rfl hl (by decide) rfl (fun ls hl => ?_)
          refine lv_aload_n hx hb dX1_reachedFrom_28 rfl (lv_at hl 1 rfl) ?_
          refine lv_iload_n hx hb dX1_reachedFrom_29 rfl (lv_at hl 2 rfl) ?_
          obtain ⟨x103, hg, hf⟩ := o1_s hf
          refine Ct.callV (ws' := wRf g h0 h1 h2 h3 R) (As := [.int x3]) (rest := []) (st1 := [.int x103]) (c_X1_gutterEnd l g h0 h1 h2 h3 R x3 hg) (cwV 1 hts gX1_reachedFrom_X1_gutterEnd rfl rfl rfl q_X1_gutterEnd ⟨Nat.le_of_ble_eq_true rfl, Nat.le_of_ble_eq_true rfl⟩) ⟨hx, hb, hml, hown, hts⟩ hE hP hD hS hA [0, 1, 2, 3] rfl rfl rfl rfl 1 0 rfl rfl rfl rfl hl.1 rfl rfl (Nat.le_of_ble_eq_true rfl) dX1_reachedFrom_30 (fun H locs hP hD hS => ?_)
          refine lv_istore_n (lv' := [(3, .int x103), (2, .int (x2 ||| ((1 : Int32) <<< (x3 &&& 31)))), (0, .ref h0), (4, .int x4)]) hx hb dX1_reachedFrom_33 rfl hl (by decide) rfl (fun ls hl => ?_)
          refine lv_iinc (v := (x4 + (1 : Int32))) (lv' := [(4, .int (x4 + (1 : Int32))), (3, .int x103), (2, .int (x2 ||| ((1 : Int32) <<< (x3 &&& 31)))), (0, .ref h0)]) hx hb dX1_reachedFrom_34 hl (k := 3) rfl rfl (by decide) rfl (fun ls hl => ?_)
          refine lv_goto (tgt := 11) hx hb dX1_reachedFrom_37 (by decide) ?_
          exact ih _ _ _ _ _ _  hf hP hD hS (lv_sub hl [3, 2, 1, 0] rfl) hk
  unfold fX1_reachedFrom at hf
  refine lv_iconst (v := (0 : Int32)) hx hb dX1_reachedFrom_0 (by decide) ?_
  refine lv_istore_n (lv' := [(2, .int (0 : Int32)), (0, .ref h0), (1, .int a1)]) hx hb dX1_reachedFrom_1 rfl hl (by decide) rfl (fun ls hl => ?_)
  refine lv_aload_n hx hb dX1_reachedFrom_2 rfl (lv_at hl 1 rfl) ?_
  refine lv_iload_n hx hb dX1_reachedFrom_3 rfl (lv_at hl 2 rfl) ?_
  obtain ⟨x101, hg, hf⟩ := o1_s hf
  refine Ct.callV (ws' := wRf g h0 h1 h2 h3 R) (As := [.int a1]) (rest := []) (st1 := [.int x101]) (c_X1_gutterEnd l g h0 h1 h2 h3 R a1 hg) (cwV 1 hts gX1_reachedFrom_X1_gutterEnd rfl rfl rfl q_X1_gutterEnd ⟨Nat.le_of_ble_eq_true rfl, Nat.le_of_ble_eq_true rfl⟩) ⟨hx, hb, hml, hown, hts⟩ hE hP hD hS hA [0, 1, 2, 3] rfl rfl rfl rfl 1 0 rfl rfl rfl rfl hl.1 rfl rfl (Nat.le_of_ble_eq_true rfl) dX1_reachedFrom_4 (fun H locs hP hD hS => ?_)
  refine lv_istore_n (lv' := [(3, .int x101), (2, .int (0 : Int32)), (0, .ref h0), (1, .int a1)]) hx hb dX1_reachedFrom_7 rfl hl (by decide) rfl (fun ls hl => ?_)
  refine lv_iconst (v := (0 : Int32)) hx hb dX1_reachedFrom_8 (by decide) ?_
  refine lv_istore (lv' := [(4, .int (0 : Int32)), (3, .int x101), (2, .int (0 : Int32)), (0, .ref h0), (1, .int a1)]) hx hb dX1_reachedFrom_9 hl (by decide) rfl (fun ls hl => ?_)
  refine L11 _ _ _ _ _ _ _ _  hf hP hD hS (lv_sub hl [3, 2, 1, 0] rfl) (fun x104 H locs ls hf hP hD hS hl => ?_)
  refine lv_iload_n hx hb dX1_reachedFrom_40 rfl (lv_at hl 0 rfl) ?_
  cases hf
  exact Ct.iret hx hb hr hlocks hAe hP hD hS dX1_reachedFrom_41
def fX1_runOver (R : Rf) (a1 : Int32) (a2 : Int32) : Option (Rf) := o1 (fX1_gutterEnd R a1) (fun x101 => o1 (fX1_raise R a1 (-a2)) (fun R102 => if x101 < 0 then (some (R102.1, R102.2.1, R102.2.2.1, R102.2.2.2.1, R102.2.2.2.2.1, R102.2.2.2.2.2.1, R102.2.2.2.2.2.2.1, (R102.2.2.2.2.2.2.2.1 + a2), R102.2.2.2.2.2.2.2.2)) else (o1 (fX1_raise R102 x101 a2) (fun R103 => some R103))))
theorem q_X1_runOver : yX1_runOver.cls = RX1 ∧ yX1_runOver.cls ≠ "java/lang/invoke/MethodHandle" ∧ yX1_runOver.cls ≠ "java/lang/invoke/VarHandle" ∧ (parseMethodDescriptor yX1_runOver.desc).map (fun d => d.parameters.length) = some 2 := by decide +kernel
theorem i_X1_runOver_X1 : ∀ w ∈ u_ws RX1 TX1 9, w ∈ wsX1_runOver := fun _ h => List.mem_cons_of_mem _ (List.mem_append_right _ (h))
set_option maxHeartbeats 4000000 in
set_option maxRecDepth 100000 in
theorem c_X1_runOver (l : Launch) (g : gG) (h0 h1 h2 h3 : Nat) (R : Rf) (a1 : Int32) (a2 : Int32) {R' : Rf} (hf : fX1_runOver R a1 a2 = some R') : Ct l yX1_runOver wsX1_runOver (rmm 2 46) g (wRf g h0 h1 h2 h3 R) (wRf g h0 h1 h2 h3 (R')) [.ref h0, .int a1, .int a2] none := by
  refine Ct.mk (by decide) rfl (Nat.le_of_ble_eq_true rfl) ?_
  intro p e s m args below meth c A ls hx hb hr hml hts hown hlocks hA hE hP hD hS hl hAe
  have hown : s.vm.findClass RX1 = some m.cls := hown
  have hl : lv_has ls 4 [(0, .ref h0), (1, .int a1), (2, .int a2)] := hl
  have w1 := hts (.fieldLink RX1 35 "RainVault$Roof" "ranOff" "I") (List.mem_of_getElem? (i := 1) rfl)
  unfold fX1_runOver at hf
  refine lv_aload_n hx hb dX1_runOver_0 rfl (lv_at hl 0 rfl) ?_
  refine lv_iload_n hx hb dX1_runOver_1 rfl (lv_at hl 1 rfl) ?_
  obtain ⟨x101, hg, hf⟩ := o1_s hf
  refine Ct.callV (ws' := wRf g h0 h1 h2 h3 R) (As := [.int a1]) (rest := []) (st1 := [.int x101]) (c_X1_gutterEnd l g h0 h1 h2 h3 R a1 hg) (cwV 1 hts gX1_runOver_X1_gutterEnd rfl rfl rfl q_X1_gutterEnd ⟨Nat.le_of_ble_eq_true rfl, Nat.le_of_ble_eq_true rfl⟩) ⟨hx, hb, hml, hown, hts⟩ hE hP hD hS hA [0, 1, 2, 3] rfl rfl rfl rfl 1 0 rfl rfl rfl rfl hl.1 rfl rfl (Nat.le_of_ble_eq_true rfl) dX1_runOver_2 (fun H locs hP hD hS => ?_)
  refine lv_istore_n (lv' := [(3, .int x101), (0, .ref h0), (1, .int a1), (2, .int a2)]) hx hb dX1_runOver_5 rfl hl (by decide) rfl (fun ls hl => ?_)
  refine lv_aload_n hx hb dX1_runOver_6 rfl (lv_at hl 1 rfl) ?_
  refine lv_iload_n hx hb dX1_runOver_7 rfl (lv_at hl 2 rfl) ?_
  refine lv_iload_n hx hb dX1_runOver_8 rfl (lv_at hl 3 rfl) ?_
  refine lv_ineg hx hb dX1_runOver_9 ?_
  obtain ⟨R102, hg, hf⟩ := o1_s hf
  refine Ct.callV (ws' := wRf g h0 h1 h2 h3 R102) (As := [.int a1, .int (-a2)]) (rest := []) (st1 := []) (c_X1_raise l g h0 h1 h2 h3 R a1 (-a2) hg) (cwV 2 hts gX1_runOver_X1_raise rfl rfl rfl q_X1_raise ⟨Nat.le_of_ble_eq_true rfl, Nat.le_of_ble_eq_true rfl⟩) ⟨hx, hb, hml, hown, hts⟩ hE hP hD hS hA [0, 1, 2, 3] rfl rfl rfl rfl 1 0 rfl rfl rfl rfl hl.1 rfl rfl (Nat.le_of_ble_eq_true rfl) dX1_runOver_10 (fun H locs hP hD hS => ?_)
  refine lv_iload_n hx hb dX1_runOver_13 rfl (lv_at hl 0 rfl) ?_
  refine lv_if_lt (tgt := 26) hx hb dX1_runOver_14 (by decide) (fun hc => ?_) (fun hc => ?_)
  · have hf := if_t hf hc
    refine lv_aload_n hx hb dX1_runOver_26 rfl (lv_at hl 1 rfl) ?_
    refine lv_dup hx hb dX1_runOver_27 rfl ?_
    refine va_get (D := g.1) (ci := 1) (v := .int R102.2.2.2.2.2.2.2.1) (C := RX1) (T := TX1) (N := 9) hx hb hts i_X1_runOver_X1 hown hE.1 hP 0 rfl rfl 7 (by decide) w1 (fun _ h9 => h9) rfl dX1_runOver_28 ?_
    refine lv_iload_n hx hb dX1_runOver_31 rfl (lv_at hl 3 rfl) ?_
    refine lv_iadd hx hb dX1_runOver_32 ?_
    refine va_put (D := g.1) (ci := 1) (v := .int (R102.2.2.2.2.2.2.2.1 + a2)) (ty := .int) (C := RX1) (T := TX1) (N := 9) hx hb hts i_X1_runOver_X1 tyX1 tyX1_ok nmX1 hown hE.1 hP hD hS 0 rfl rfl 7 (by decide) w1 (fun _ h9 => h9) rfl (by decide +kernel) rfl rfl (by decide) dX1_runOver_33 (fun H locs hP hD hS => ?_)
    have hP : va_P g.1 vwK (wRf g h0 h1 h2 h3 (R102.1, R102.2.1, R102.2.2.1, R102.2.2.2.1, R102.2.2.2.2.1, R102.2.2.2.2.2.1, R102.2.2.2.2.2.2.1, (R102.2.2.2.2.2.2.2.1 + a2), R102.2.2.2.2.2.2.2.2)) H := hP
    have hD : va_D A (wRf g h0 h1 h2 h3 (R102.1, R102.2.1, R102.2.2.1, R102.2.2.2.1, R102.2.2.2.2.1, R102.2.2.2.2.2.1, R102.2.2.2.2.2.2.1, (R102.2.2.2.2.2.2.2.1 + a2), R102.2.2.2.2.2.2.2.2)) := hD
    cases hf
    exact Ct.vret hx hb hr hlocks hAe hP hD hS dX1_runOver_36
  · have hf := if_f hf hc
    refine lv_aload_n hx hb dX1_runOver_17 rfl (lv_at hl 1 rfl) ?_
    refine lv_iload_n hx hb dX1_runOver_18 rfl (lv_at hl 0 rfl) ?_
    refine lv_iload_n hx hb dX1_runOver_19 rfl (lv_at hl 3 rfl) ?_
    obtain ⟨R103, hg, hf⟩ := o1_s hf
    refine Ct.callV (ws' := wRf g h0 h1 h2 h3 R103) (As := [.int x101, .int a2]) (rest := []) (st1 := []) (c_X1_raise l g h0 h1 h2 h3 R102 x101 a2 hg) (cwV 2 hts gX1_runOver_X1_raise rfl rfl rfl q_X1_raise ⟨Nat.le_of_ble_eq_true rfl, Nat.le_of_ble_eq_true rfl⟩) ⟨hx, hb, hml, hown, hts⟩ hE hP hD hS hA [0, 1, 2, 3] rfl rfl rfl rfl 1 0 rfl rfl rfl rfl hl.1 rfl rfl (Nat.le_of_ble_eq_true rfl) dX1_runOver_20 (fun H locs hP hD hS => ?_)
    refine lv_goto (tgt := 36) hx hb dX1_runOver_23 (by decide) ?_
    cases hf
    exact Ct.vret hx hb hr hlocks hAe hP hD hS dX1_runOver_36
def fX1_spill (R : Rf) (a1 : Int32) : Option (Rf) := o1 (fX1_get R a1 (2 : Int32)) (fun x101 => o1 (fX1_get R a1 (1 : Int32)) (fun x102 => o1 (fX1_raise R a1 (-(if (0 : Int32) < (x101 - x102) then (x101 - x102) else (0 : Int32)))) (fun R103 => some (R103.1, R103.2.1, R103.2.2.1, R103.2.2.2.1, R103.2.2.2.2.1, R103.2.2.2.2.2.1, R103.2.2.2.2.2.2.1, (R103.2.2.2.2.2.2.2.1 + (if (0 : Int32) < (x101 - x102) then (x101 - x102) else (0 : Int32))), R103.2.2.2.2.2.2.2.2))))
theorem q_X1_spill : yX1_spill.cls = RX1 ∧ yX1_spill.cls ≠ "java/lang/invoke/MethodHandle" ∧ yX1_spill.cls ≠ "java/lang/invoke/VarHandle" ∧ (parseMethodDescriptor yX1_spill.desc).map (fun d => d.parameters.length) = some 1 := by decide +kernel
theorem i_X1_spill_X1 : ∀ w ∈ u_ws RX1 TX1 9, w ∈ wsX1_spill := fun _ h => List.mem_cons_of_mem _ (List.mem_append_right _ (h))
set_option maxHeartbeats 4000000 in
set_option maxRecDepth 100000 in
theorem c_X1_spill (l : Launch) (g : gG) (h0 h1 h2 h3 : Nat) (R : Rf) (a1 : Int32) {R' : Rf} (hf : fX1_spill R a1 = some R') : Ct l yX1_spill wsX1_spill (rmm 2 46) g (wRf g h0 h1 h2 h3 R) (wRf g h0 h1 h2 h3 (R')) [.ref h0, .int a1] none := by
  refine Ct.mk (by decide) rfl (Nat.le_of_ble_eq_true rfl) ?_
  intro p e s m args below meth c A ls hx hb hr hml hts hown hlocks hA hE hP hD hS hl hAe
  have hown : s.vm.findClass RX1 = some m.cls := hown
  have hl : lv_has ls 3 [(0, .ref h0), (1, .int a1)] := hl
  have w1 := hts (.methodLink RX1 53 Lib.Math.max.name) (List.mem_of_getElem? (i := 1) rfl)
  have w2 := hts (.static Lib.Math.max.name) (List.mem_of_getElem? (i := 2) rfl)
  have w3 := hts (.initialized "java/lang/Math") (List.mem_of_getElem? (i := 3) rfl)
  have w4 := hts (.code Lib.Math.max.name Lib.Math.max.code 2 (some .int)) (List.mem_of_getElem? (i := 4) rfl)
  have w5 := hts (.fieldLink RX1 35 "RainVault$Roof" "ranOff" "I") (List.mem_of_getElem? (i := 5) rfl)
  unfold fX1_spill at hf
  refine lv_iconst (v := (0 : Int32)) hx hb dX1_spill_0 (by decide) ?_
  refine lv_aload_n hx hb dX1_spill_1 rfl (lv_at hl 0 rfl) ?_
  refine lv_iload_n hx hb dX1_spill_2 rfl (lv_at hl 1 rfl) ?_
  refine lv_iconst (v := (2 : Int32)) hx hb dX1_spill_3 (by decide) ?_
  obtain ⟨x101, hg, hf⟩ := o1_s hf
  refine Ct.callV (ws' := wRf g h0 h1 h2 h3 R) (As := [.int a1, .int (2 : Int32)]) (rest := [.int (0 : Int32)]) (st1 := [.int x101, .int (0 : Int32)]) (c_X1_get l g h0 h1 h2 h3 R a1 (2 : Int32) hg) (cwV 2 hts gX1_spill_X1_get rfl rfl rfl q_X1_get ⟨Nat.le_of_ble_eq_true rfl, Nat.le_of_ble_eq_true rfl⟩) ⟨hx, hb, hml, hown, hts⟩ hE hP hD hS hA [0, 1, 2, 3] rfl rfl rfl rfl 1 0 rfl rfl rfl rfl hl.1 rfl rfl (Nat.le_of_ble_eq_true rfl) dX1_spill_4 (fun H locs hP hD hS => ?_)
  refine lv_aload_n hx hb dX1_spill_7 rfl (lv_at hl 0 rfl) ?_
  refine lv_iload_n hx hb dX1_spill_8 rfl (lv_at hl 1 rfl) ?_
  refine lv_iconst (v := (1 : Int32)) hx hb dX1_spill_9 (by decide) ?_
  obtain ⟨x102, hg, hf⟩ := o1_s hf
  refine Ct.callV (ws' := wRf g h0 h1 h2 h3 R) (As := [.int a1, .int (1 : Int32)]) (rest := [.int x101, .int (0 : Int32)]) (st1 := [.int x102, .int x101, .int (0 : Int32)]) (c_X1_get l g h0 h1 h2 h3 R a1 (1 : Int32) hg) (cwV 2 hts gX1_spill_X1_get rfl rfl rfl q_X1_get ⟨Nat.le_of_ble_eq_true rfl, Nat.le_of_ble_eq_true rfl⟩) ⟨hx, hb, hml, hown, hts⟩ hE hP hD hS hA [0, 1, 2, 3] rfl rfl rfl rfl 1 0 rfl rfl rfl rfl hl.1 rfl rfl (Nat.le_of_ble_eq_true rfl) dX1_spill_10 (fun H locs hP hD hS => ?_)
  refine lv_isub hx hb dX1_spill_13 ?_
  refine va_mmax hx hb (hml.trans hl.1.symm) hown w1 w2 w3 w4 (Nat.le_of_ble_eq_true rfl) (Nat.le_of_ble_eq_true rfl) (Nat.zero_le _) (Nat.zero_le _) dX1_spill_14 ?_
  refine lv_istore_n (lv' := [(2, .int (if (0 : Int32) < (x101 - x102) then (x101 - x102) else (0 : Int32))), (0, .ref h0), (1, .int a1)]) hx hb dX1_spill_17 rfl hl (by decide) rfl (fun ls hl => ?_)
  refine lv_aload_n hx hb dX1_spill_18 rfl (lv_at hl 1 rfl) ?_
  refine lv_iload_n hx hb dX1_spill_19 rfl (lv_at hl 2 rfl) ?_
  refine lv_iload_n hx hb dX1_spill_20 rfl (lv_at hl 0 rfl) ?_
  refine lv_ineg hx hb dX1_spill_21 ?_
  obtain ⟨R103, hg, hf⟩ := o1_s hf
  refine Ct.callV (ws' := wRf g h0 h1 h2 h3 R103) (As := [.int a1, .int (-(if (0 : Int32) < (x101 - x102) then (x101 - x102) else (0 : Int32)))]) (rest := []) (st1 := []) (c_X1_raise l g h0 h1 h2 h3 R a1 (-(if (0 : Int32) < (x101 - x102) then (x101 - x102) else (0 : Int32))) hg) (cwV 2 hts gX1_spill_X1_raise rfl rfl rfl q_X1_raise ⟨Nat.le_of_ble_eq_true rfl, Nat.le_of_ble_eq_true rfl⟩) ⟨hx, hb, hml, hown, hts⟩ hE hP hD hS hA [0, 1, 2, 3] rfl rfl rfl rfl 1 0 rfl rfl rfl rfl hl.1 rfl rfl (Nat.le_of_ble_eq_true rfl) dX1_spill_22 (fun H locs hP hD hS => ?_)
  refine lv_aload_n hx hb dX1_spill_25 rfl (lv_at hl 1 rfl) ?_
  refine lv_dup hx hb dX1_spill_26 rfl ?_
  refine va_get (D := g.1) (ci := 1) (v := .int R103.2.2.2.2.2.2.2.1) (C := RX1) (T := TX1) (N := 9) hx hb hts i_X1_spill_X1 hown hE.1 hP 0 rfl rfl 7 (by decide) w5 (fun _ h9 => h9) rfl dX1_spill_27 ?_
  refine lv_iload_n hx hb dX1_spill_30 rfl (lv_at hl 0 rfl) ?_
  refine lv_iadd hx hb dX1_spill_31 ?_
  refine va_put (D := g.1) (ci := 1) (v := .int (R103.2.2.2.2.2.2.2.1 + (if (0 : Int32) < (x101 - x102) then (x101 - x102) else (0 : Int32)))) (ty := .int) (C := RX1) (T := TX1) (N := 9) hx hb hts i_X1_spill_X1 tyX1 tyX1_ok nmX1 hown hE.1 hP hD hS 0 rfl rfl 7 (by decide) w5 (fun _ h9 => h9) rfl (by decide +kernel) rfl rfl (by decide) dX1_spill_32 (fun H locs hP hD hS => ?_)
  have hP : va_P g.1 vwK (wRf g h0 h1 h2 h3 (R103.1, R103.2.1, R103.2.2.1, R103.2.2.2.1, R103.2.2.2.2.1, R103.2.2.2.2.2.1, R103.2.2.2.2.2.2.1, (R103.2.2.2.2.2.2.2.1 + (if (0 : Int32) < (x101 - x102) then (x101 - x102) else (0 : Int32))), R103.2.2.2.2.2.2.2.2)) H := hP
  have hD : va_D A (wRf g h0 h1 h2 h3 (R103.1, R103.2.1, R103.2.2.1, R103.2.2.2.1, R103.2.2.2.2.1, R103.2.2.2.2.2.1, R103.2.2.2.2.2.2.1, (R103.2.2.2.2.2.2.2.1 + (if (0 : Int32) < (x101 - x102) then (x101 - x102) else (0 : Int32))), R103.2.2.2.2.2.2.2.2)) := hD
  cases hf
  exact Ct.vret hx hb hr hlocks hAe hP hD hS dX1_spill_35
def fX1_passHour_L2 (x1 : Int32) (x2 : Int32) (kx : Rf → Option (Rf)) : Nat → Rf → Int32 → Option (Rf)
  | 0, _, _ => none
  | k + 1, R, x3 => if R.2.2.2.1 ≤ x3 then (kx R) else (o1 (fX1_caught R x3 x1 x2) (fun x103 => o1 (fX1_raise R x3 x103) (fun R104 => fX1_passHour_L2 x1 x2 kx k R104 (x3 + (1 : Int32)))))
def fX1_passHour_L30 (kx : Rf → Option (Rf)) : Nat → Rf → Int32 → Option (Rf)
  | 0, _, _ => none
  | k + 1, R, x3 => if R.2.2.2.1 ≤ x3 then (kx R) else (o1 (fX1_runningOver R x3) (fun x108 => o1 (fX1_runOver R x3 x108) (fun R109 => fX1_passHour_L30 kx k R109 (x3 + (1 : Int32)))))
def fX1_passHour_L56 (kx : Rf → Option (Rf)) : Nat → Rf → Int32 → Option (Rf)
  | 0, _, _ => none
  | k + 1, R, x3 => if R.2.2.2.1 ≤ x3 then (kx R) else (o1 (fX1_spill R x3) (fun R112 => fX1_passHour_L56 kx k R112 (x3 + (1 : Int32))))
def fX1_passHour_L77 (kx : Rf → Option (Rf)) : Nat → Rf → Int32 → Option (Rf)
  | 0, _, _ => none
  | k + 1, R, x3 => if R.2.2.2.1 ≤ x3 then (kx R) else (o1 (fX1_leaked R x3) (fun x116 => o1 (fX1_raise R x3 (-x116)) (fun R117 => fX1_passHour_L77 kx k R117 (x3 + (1 : Int32)))))
def fX1_passHour (R : Rf) (a1 : Int32) (a2 : Int32) : Option (Rf) := fX1_passHour_L2 a1 a2 (fun R105 => fX1_passHour_L30 (fun R110 => fX1_passHour_L56 (fun R113 => fX1_passHour_L77 (fun R118 => some (R118.1, R118.2.1, R118.2.2.1, R118.2.2.2.1, R118.2.2.2.2.1, R118.2.2.2.2.2.1, (R118.2.2.2.2.2.2.1 + (1 : Int32)), R118.2.2.2.2.2.2.2.1, R118.2.2.2.2.2.2.2.2)) fu R113 (0 : Int32)) fu R110 (0 : Int32)) fu R105 (0 : Int32)) fu R (0 : Int32)
theorem q_X1_passHour : yX1_passHour.cls = RX1 ∧ yX1_passHour.cls ≠ "java/lang/invoke/MethodHandle" ∧ yX1_passHour.cls ≠ "java/lang/invoke/VarHandle" ∧ (parseMethodDescriptor yX1_passHour.desc).map (fun d => d.parameters.length) = some 2 := by decide +kernel
theorem i_X1_passHour_X1 : ∀ w ∈ u_ws RX1 TX1 9, w ∈ wsX1_passHour := fun _ h => List.mem_cons_of_mem _ (List.mem_append_right _ (h))
set_option maxHeartbeats 4000000 in
set_option maxRecDepth 100000 in
theorem c_X1_passHour (l : Launch) (g : gG) (h0 h1 h2 h3 : Nat) (R : Rf) (a1 : Int32) (a2 : Int32) {R' : Rf} (hf : fX1_passHour R a1 a2 = some R') : Ct l yX1_passHour wsX1_passHour (rmm 3 70) g (wRf g h0 h1 h2 h3 R) (wRf g h0 h1 h2 h3 (R')) [.ref h0, .int a1, .int a2] none := by
  refine Ct.mk (by decide) rfl (Nat.le_of_ble_eq_true rfl) ?_
  intro p e s m args below meth c A ls hx hb hr hml hts hown hlocks hA hE hP hD hS hl hAe
  have hown : s.vm.findClass RX1 = some m.cls := hown
  have hl : lv_has ls 4 [(0, .ref h0), (1, .int a1), (2, .int a2)] := hl
  have w1 := hts (.fieldLink RX1 21 "RainVault$Roof" "cisterns" "I") (List.mem_of_getElem? (i := 1) rfl)
  have w2 := hts (.fieldLink RX1 32 "RainVault$Roof" "hour" "I") (List.mem_of_getElem? (i := 2) rfl)
  have L2 : ∀ (x1 : Int32) (x2 : Int32) (kx : Rf → Option (Rf)) (k : Nat) (R : Rf) (x3 : Int32) (H : Heap) (locs : List Loc) (ls : Array Slot), fX1_passHour_L2 x1 x2 kx k R x3 = some R' → va_P g.1 vwK (wRf g h0 h1 h2 h3 R) H → va_D A (wRf g h0 h1 h2 h3 R) → va_S A s.heap H locs → lv_has ls 4 [(0, .ref h0), (1, .int x1), (2, .int x2), (3, .int x3)] → (∀ (R : Rf) (H : Heap) (locs : List Loc) (ls : Array Slot), kx R = some R' → va_P g.1 vwK (wRf g h0 h1 h2 h3 R) H → va_D A (wRf g h0 h1 h2 h3 R) → va_S A s.heap H locs → lv_has ls 4 [(0, .ref h0)] → W p l e (rmm 3 70) s m args below meth c H locs 0 0 (MQ below (QcG g (wRf g h0 h1 h2 h3 R) (wRf g h0 h1 h2 h3 (R')) none s.heap.size) args s 0 0 A) (F0 m 28 ls [])) → W p l e (rmm 3 70) s m args below meth c H locs 0 0 (MQ below (QcG g (wRf g h0 h1 h2 h3 R) (wRf g h0 h1 h2 h3 (R')) none s.heap.size) args s 0 0 A) (F0 m 2 ls []) := by
    intro x1 x2 kx k
    induction k with
    | zero => intro R x3 H locs ls hf; exact nomatch (show (none : Option (Rf)) = some _ from hf)
    | succ k ih =>
      intro R x3 H locs ls hf hP hD hS hl hk
      rw [fX1_passHour_L2] at hf
      refine lv_iload_n hx hb dX1_passHour_2 rfl (lv_at hl 3 rfl) ?_
      refine lv_aload_n hx hb dX1_passHour_3 rfl (lv_at hl 0 rfl) ?_
      refine va_get (D := g.1) (ci := 1) (v := .int R.2.2.2.1) (C := RX1) (T := TX1) (N := 9) hx hb hts i_X1_passHour_X1 hown hE.1 hP 0 rfl rfl 3 (by decide) w1 (fun _ h9 => h9) rfl dX1_passHour_4 ?_
      refine lv_icmp_ge (tgt := 28) hx hb dX1_passHour_7 (by decide) (fun hc => ?_) (fun hc => ?_)
      · have hf := if_t hf hc
        exact hk _ _ _ _  hf hP hD hS (lv_sub hl [0] rfl)
      · have hf := if_f hf hc
        refine lv_aload_n hx hb dX1_passHour_10 rfl (lv_at hl 0 rfl) ?_
        refine lv_iload_n hx hb dX1_passHour_11 rfl (lv_at hl 3 rfl) ?_
        refine lv_aload_n hx hb dX1_passHour_12 rfl (lv_at hl 0 rfl) ?_
        refine lv_iload_n hx hb dX1_passHour_13 rfl (lv_at hl 3 rfl) ?_
        refine lv_iload_n hx hb dX1_passHour_14 rfl (lv_at hl 1 rfl) ?_
        refine lv_iload_n hx hb dX1_passHour_15 rfl (lv_at hl 2 rfl) ?_
        obtain ⟨x103, hg, hf⟩ := o1_s hf
        refine Ct.callV (ws' := wRf g h0 h1 h2 h3 R) (As := [.int x3, .int x1, .int x2]) (rest := [.int x3, .ref h0]) (st1 := [.int x103, .int x3, .ref h0]) (c_X1_caught l g h0 h1 h2 h3 R x3 x1 x2 hg) (cwV 3 hts gX1_passHour_X1_caught rfl rfl rfl q_X1_caught ⟨Nat.le_of_ble_eq_true rfl, Nat.le_of_ble_eq_true rfl⟩) ⟨hx, hb, hml, hown, hts⟩ hE hP hD hS hA [0, 1, 2, 3] rfl rfl rfl rfl 1 0 rfl rfl rfl rfl hl.1 rfl rfl (Nat.le_of_ble_eq_true rfl) dX1_passHour_16 (fun H locs hP hD hS => ?_)
        obtain ⟨R104, hg, hf⟩ := o1_s hf
        refine Ct.callV (ws' := wRf g h0 h1 h2 h3 R104) (As := [.int x3, .int x103]) (rest := []) (st1 := []) (c_X1_raise l g h0 h1 h2 h3 R x3 x103 hg) (cwV 2 hts gX1_passHour_X1_raise rfl rfl rfl q_X1_raise ⟨Nat.le_of_ble_eq_true rfl, Nat.le_of_ble_eq_true rfl⟩) ⟨hx, hb, hml, hown, hts⟩ hE hP hD hS hA [0, 1, 2, 3] rfl rfl rfl rfl 1 0 rfl rfl rfl rfl hl.1 rfl rfl (Nat.le_of_ble_eq_true rfl) dX1_passHour_19 (fun H locs hP hD hS => ?_)
        refine lv_iinc (v := (x3 + (1 : Int32))) (lv' := [(3, .int (x3 + (1 : Int32))), (0, .ref h0), (1, .int x1), (2, .int x2)]) hx hb dX1_passHour_22 hl (k := 3) rfl rfl (by decide) rfl (fun ls hl => ?_)
        refine lv_goto (tgt := 2) hx hb dX1_passHour_25 (by decide) ?_
        exact ih _ _ _ _ _  hf hP hD hS (lv_sub hl [1, 2, 3, 0] rfl) hk
  have L30 : ∀ (kx : Rf → Option (Rf)) (k : Nat) (R : Rf) (x3 : Int32) (H : Heap) (locs : List Loc) (ls : Array Slot), fX1_passHour_L30 kx k R x3 = some R' → va_P g.1 vwK (wRf g h0 h1 h2 h3 R) H → va_D A (wRf g h0 h1 h2 h3 R) → va_S A s.heap H locs → lv_has ls 4 [(0, .ref h0), (3, .int x3)] → (∀ (R : Rf) (H : Heap) (locs : List Loc) (ls : Array Slot), kx R = some R' → va_P g.1 vwK (wRf g h0 h1 h2 h3 R) H → va_D A (wRf g h0 h1 h2 h3 R) → va_S A s.heap H locs → lv_has ls 4 [(0, .ref h0)] → W p l e (rmm 3 70) s m args below meth c H locs 0 0 (MQ below (QcG g (wRf g h0 h1 h2 h3 R) (wRf g h0 h1 h2 h3 (R')) none s.heap.size) args s 0 0 A) (F0 m 54 ls [])) → W p l e (rmm 3 70) s m args below meth c H locs 0 0 (MQ below (QcG g (wRf g h0 h1 h2 h3 R) (wRf g h0 h1 h2 h3 (R')) none s.heap.size) args s 0 0 A) (F0 m 30 ls []) := by
    intro kx k
    induction k with
    | zero => intro R x3 H locs ls hf; exact nomatch (show (none : Option (Rf)) = some _ from hf)
    | succ k ih =>
      intro R x3 H locs ls hf hP hD hS hl hk
      rw [fX1_passHour_L30] at hf
      refine lv_iload_n hx hb dX1_passHour_30 rfl (lv_at hl 1 rfl) ?_
      refine lv_aload_n hx hb dX1_passHour_31 rfl (lv_at hl 0 rfl) ?_
      refine va_get (D := g.1) (ci := 1) (v := .int R.2.2.2.1) (C := RX1) (T := TX1) (N := 9) hx hb hts i_X1_passHour_X1 hown hE.1 hP 0 rfl rfl 3 (by decide) w1 (fun _ h9 => h9) rfl dX1_passHour_32 ?_
      refine lv_icmp_ge (tgt := 54) hx hb dX1_passHour_35 (by decide) (fun hc => ?_) (fun hc => ?_)
      · have hf := if_t hf hc
        exact hk _ _ _ _  hf hP hD hS (lv_sub hl [0] rfl)
      · have hf := if_f hf hc
        refine lv_aload_n hx hb dX1_passHour_38 rfl (lv_at hl 0 rfl) ?_
        refine lv_iload_n hx hb dX1_passHour_39 rfl (lv_at hl 1 rfl) ?_
        refine lv_aload_n hx hb dX1_passHour_40 rfl (lv_at hl 0 rfl) ?_
        refine lv_iload_n hx hb dX1_passHour_41 rfl (lv_at hl 1 rfl) ?_
        obtain ⟨x108, hg, hf⟩ := o1_s hf
        refine Ct.callV (ws' := wRf g h0 h1 h2 h3 R) (As := [.int x3]) (rest := [.int x3, .ref h0]) (st1 := [.int x108, .int x3, .ref h0]) (c_X1_runningOver l g h0 h1 h2 h3 R x3 hg) (cwV 1 hts gX1_passHour_X1_runningOver rfl rfl rfl q_X1_runningOver ⟨Nat.le_of_ble_eq_true rfl, Nat.le_of_ble_eq_true rfl⟩) ⟨hx, hb, hml, hown, hts⟩ hE hP hD hS hA [0, 1, 2, 3] rfl rfl rfl rfl 1 0 rfl rfl rfl rfl hl.1 rfl rfl (Nat.le_of_ble_eq_true rfl) dX1_passHour_42 (fun H locs hP hD hS => ?_)
        obtain ⟨R109, hg, hf⟩ := o1_s hf
        refine Ct.callV (ws' := wRf g h0 h1 h2 h3 R109) (As := [.int x3, .int x108]) (rest := []) (st1 := []) (c_X1_runOver l g h0 h1 h2 h3 R x3 x108 hg) (cwV 2 hts gX1_passHour_X1_runOver rfl rfl rfl q_X1_runOver ⟨Nat.le_of_ble_eq_true rfl, Nat.le_of_ble_eq_true rfl⟩) ⟨hx, hb, hml, hown, hts⟩ hE hP hD hS hA [0, 1, 2, 3] rfl rfl rfl rfl 1 0 rfl rfl rfl rfl hl.1 rfl rfl (Nat.le_of_ble_eq_true rfl) dX1_passHour_45 (fun H locs hP hD hS => ?_)
        refine lv_iinc (v := (x3 + (1 : Int32))) (lv' := [(3, .int (x3 + (1 : Int32))), (0, .ref h0)]) hx hb dX1_passHour_48 hl (k := 1) rfl rfl (by decide) rfl (fun ls hl => ?_)
        refine lv_goto (tgt := 30) hx hb dX1_passHour_51 (by decide) ?_
        exact ih _ _ _ _ _  hf hP hD hS (lv_sub hl [1, 0] rfl) hk
  have L56 : ∀ (kx : Rf → Option (Rf)) (k : Nat) (R : Rf) (x3 : Int32) (H : Heap) (locs : List Loc) (ls : Array Slot), fX1_passHour_L56 kx k R x3 = some R' → va_P g.1 vwK (wRf g h0 h1 h2 h3 R) H → va_D A (wRf g h0 h1 h2 h3 R) → va_S A s.heap H locs → lv_has ls 4 [(0, .ref h0), (3, .int x3)] → (∀ (R : Rf) (H : Heap) (locs : List Loc) (ls : Array Slot), kx R = some R' → va_P g.1 vwK (wRf g h0 h1 h2 h3 R) H → va_D A (wRf g h0 h1 h2 h3 R) → va_S A s.heap H locs → lv_has ls 4 [(0, .ref h0)] → W p l e (rmm 3 70) s m args below meth c H locs 0 0 (MQ below (QcG g (wRf g h0 h1 h2 h3 R) (wRf g h0 h1 h2 h3 (R')) none s.heap.size) args s 0 0 A) (F0 m 75 ls [])) → W p l e (rmm 3 70) s m args below meth c H locs 0 0 (MQ below (QcG g (wRf g h0 h1 h2 h3 R) (wRf g h0 h1 h2 h3 (R')) none s.heap.size) args s 0 0 A) (F0 m 56 ls []) := by
    intro kx k
    induction k with
    | zero => intro R x3 H locs ls hf; exact nomatch (show (none : Option (Rf)) = some _ from hf)
    | succ k ih =>
      intro R x3 H locs ls hf hP hD hS hl hk
      rw [fX1_passHour_L56] at hf
      refine lv_iload_n hx hb dX1_passHour_56 rfl (lv_at hl 1 rfl) ?_
      refine lv_aload_n hx hb dX1_passHour_57 rfl (lv_at hl 0 rfl) ?_
      refine va_get (D := g.1) (ci := 1) (v := .int R.2.2.2.1) (C := RX1) (T := TX1) (N := 9) hx hb hts i_X1_passHour_X1 hown hE.1 hP 0 rfl rfl 3 (by decide) w1 (fun _ h9 => h9) rfl dX1_passHour_58 ?_
      refine lv_icmp_ge (tgt := 75) hx hb dX1_passHour_61 (by decide) (fun hc => ?_) (fun hc => ?_)
      · have hf := if_t hf hc
        exact hk _ _ _ _  hf hP hD hS (lv_sub hl [0] rfl)
      · have hf := if_f hf hc
        refine lv_aload_n hx hb dX1_passHour_64 rfl (lv_at hl 0 rfl) ?_
        refine lv_iload_n hx hb dX1_passHour_65 rfl (lv_at hl 1 rfl) ?_
        obtain ⟨R112, hg, hf⟩ := o1_s hf
        refine Ct.callV (ws' := wRf g h0 h1 h2 h3 R112) (As := [.int x3]) (rest := []) (st1 := []) (c_X1_spill l g h0 h1 h2 h3 R x3 hg) (cwV 1 hts gX1_passHour_X1_spill rfl rfl rfl q_X1_spill ⟨Nat.le_of_ble_eq_true rfl, Nat.le_of_ble_eq_true rfl⟩) ⟨hx, hb, hml, hown, hts⟩ hE hP hD hS hA [0, 1, 2, 3] rfl rfl rfl rfl 1 0 rfl rfl rfl rfl hl.1 rfl rfl (Nat.le_of_ble_eq_true rfl) dX1_passHour_66 (fun H locs hP hD hS => ?_)
        refine lv_iinc (v := (x3 + (1 : Int32))) (lv' := [(3, .int (x3 + (1 : Int32))), (0, .ref h0)]) hx hb dX1_passHour_69 hl (k := 1) rfl rfl (by decide) rfl (fun ls hl => ?_)
        refine lv_goto (tgt := 56) hx hb dX1_passHour_72 (by decide) ?_
        exact ih _ _ _ _ _  hf hP hD hS (lv_sub hl [1, 0] rfl) hk
  have L77 : ∀ (kx : Rf → Option (Rf)) (k : Nat) (R : Rf) (x3 : Int32) (H : Heap) (locs : List Loc) (ls : Array Slot), fX1_passHour_L77 kx k R x3 = some R' → va_P g.1 vwK (wRf g h0 h1 h2 h3 R) H → va_D A (wRf g h0 h1 h2 h3 R) → va_S A s.heap H locs → lv_has ls 4 [(0, .ref h0), (3, .int x3)] → (∀ (R : Rf) (H : Heap) (locs : List Loc) (ls : Array Slot), kx R = some R' → va_P g.1 vwK (wRf g h0 h1 h2 h3 R) H → va_D A (wRf g h0 h1 h2 h3 R) → va_S A s.heap H locs → lv_has ls 4 [(0, .ref h0)] → W p l e (rmm 3 70) s m args below meth c H locs 0 0 (MQ below (QcG g (wRf g h0 h1 h2 h3 R) (wRf g h0 h1 h2 h3 (R')) none s.heap.size) args s 0 0 A) (F0 m 102 ls [])) → W p l e (rmm 3 70) s m args below meth c H locs 0 0 (MQ below (QcG g (wRf g h0 h1 h2 h3 R) (wRf g h0 h1 h2 h3 (R')) none s.heap.size) args s 0 0 A) (F0 m 77 ls []) := by
    intro kx k
    induction k with
    | zero => intro R x3 H locs ls hf; exact nomatch (show (none : Option (Rf)) = some _ from hf)
    | succ k ih =>
      intro R x3 H locs ls hf hP hD hS hl hk
      rw [fX1_passHour_L77] at hf
      refine lv_iload_n hx hb dX1_passHour_77 rfl (lv_at hl 1 rfl) ?_
      refine lv_aload_n hx hb dX1_passHour_78 rfl (lv_at hl 0 rfl) ?_
      refine va_get (D := g.1) (ci := 1) (v := .int R.2.2.2.1) (C := RX1) (T := TX1) (N := 9) hx hb hts i_X1_passHour_X1 hown hE.1 hP 0 rfl rfl 3 (by decide) w1 (fun _ h9 => h9) rfl dX1_passHour_79 ?_
      refine lv_icmp_ge (tgt := 102) hx hb dX1_passHour_82 (by decide) (fun hc => ?_) (fun hc => ?_)
      · have hf := if_t hf hc
        exact hk _ _ _ _  hf hP hD hS (lv_sub hl [0] rfl)
      · have hf := if_f hf hc
        refine lv_aload_n hx hb dX1_passHour_85 rfl (lv_at hl 0 rfl) ?_
        refine lv_iload_n hx hb dX1_passHour_86 rfl (lv_at hl 1 rfl) ?_
        refine lv_aload_n hx hb dX1_passHour_87 rfl (lv_at hl 0 rfl) ?_
        refine lv_iload_n hx hb dX1_passHour_88 rfl (lv_at hl 1 rfl) ?_
        obtain ⟨x116, hg, hf⟩ := o1_s hf
        refine Ct.callV (ws' := wRf g h0 h1 h2 h3 R) (As := [.int x3]) (rest := [.int x3, .ref h0]) (st1 := [.int x116, .int x3, .ref h0]) (c_X1_leaked l g h0 h1 h2 h3 R x3 hg) (cwV 1 hts gX1_passHour_X1_leaked rfl rfl rfl q_X1_leaked ⟨Nat.le_of_ble_eq_true rfl, Nat.le_of_ble_eq_true rfl⟩) ⟨hx, hb, hml, hown, hts⟩ hE hP hD hS hA [0, 1, 2, 3] rfl rfl rfl rfl 1 0 rfl rfl rfl rfl hl.1 rfl rfl (Nat.le_of_ble_eq_true rfl) dX1_passHour_89 (fun H locs hP hD hS => ?_)
        refine lv_ineg hx hb dX1_passHour_92 ?_
        obtain ⟨R117, hg, hf⟩ := o1_s hf
        refine Ct.callV (ws' := wRf g h0 h1 h2 h3 R117) (As := [.int x3, .int (-x116)]) (rest := []) (st1 := []) (c_X1_raise l g h0 h1 h2 h3 R x3 (-x116) hg) (cwV 2 hts gX1_passHour_X1_raise rfl rfl rfl q_X1_raise ⟨Nat.le_of_ble_eq_true rfl, Nat.le_of_ble_eq_true rfl⟩) ⟨hx, hb, hml, hown, hts⟩ hE hP hD hS hA [0, 1, 2, 3] rfl rfl rfl rfl 1 0 rfl rfl rfl rfl hl.1 rfl rfl (Nat.le_of_ble_eq_true rfl) dX1_passHour_93 (fun H locs hP hD hS => ?_)
        refine lv_iinc (v := (x3 + (1 : Int32))) (lv' := [(3, .int (x3 + (1 : Int32))), (0, .ref h0)]) hx hb dX1_passHour_96 hl (k := 1) rfl rfl (by decide) rfl (fun ls hl => ?_)
        refine lv_goto (tgt := 77) hx hb dX1_passHour_99 (by decide) ?_
        exact ih _ _ _ _ _  hf hP hD hS (lv_sub hl [1, 0] rfl) hk
  unfold fX1_passHour at hf
  refine lv_iconst (v := (0 : Int32)) hx hb dX1_passHour_0 (by decide) ?_
  refine lv_istore_n (lv' := [(3, .int (0 : Int32)), (0, .ref h0), (1, .int a1), (2, .int a2)]) hx hb dX1_passHour_1 rfl hl (by decide) rfl (fun ls hl => ?_)
  refine L2 _ _ _ _ _ _ _ _ _  hf hP hD hS (lv_sub hl [1, 2, 3, 0] rfl) (fun R105 H locs ls hf hP hD hS hl => ?_)
  refine lv_iconst (v := (0 : Int32)) hx hb dX1_passHour_28 (by decide) ?_
  refine lv_istore_n (lv' := [(3, .int (0 : Int32)), (0, .ref h0)]) hx hb dX1_passHour_29 rfl hl (by decide) rfl (fun ls hl => ?_)
  refine L30 _ _ _ _ _ _ _  hf hP hD hS (lv_sub hl [1, 0] rfl) (fun R110 H locs ls hf hP hD hS hl => ?_)
  refine lv_iconst (v := (0 : Int32)) hx hb dX1_passHour_54 (by decide) ?_
  refine lv_istore_n (lv' := [(3, .int (0 : Int32)), (0, .ref h0)]) hx hb dX1_passHour_55 rfl hl (by decide) rfl (fun ls hl => ?_)
  refine L56 _ _ _ _ _ _ _  hf hP hD hS (lv_sub hl [1, 0] rfl) (fun R113 H locs ls hf hP hD hS hl => ?_)
  refine lv_iconst (v := (0 : Int32)) hx hb dX1_passHour_75 (by decide) ?_
  refine lv_istore_n (lv' := [(3, .int (0 : Int32)), (0, .ref h0)]) hx hb dX1_passHour_76 rfl hl (by decide) rfl (fun ls hl => ?_)
  refine L77 _ _ _ _ _ _ _  hf hP hD hS (lv_sub hl [1, 0] rfl) (fun R118 H locs ls hf hP hD hS hl => ?_)
  refine lv_aload_n hx hb dX1_passHour_102 rfl (lv_at hl 0 rfl) ?_
  refine lv_dup hx hb dX1_passHour_103 rfl ?_
  refine va_get (D := g.1) (ci := 1) (v := .int R118.2.2.2.2.2.2.1) (C := RX1) (T := TX1) (N := 9) hx hb hts i_X1_passHour_X1 hown hE.1 hP 0 rfl rfl 6 (by decide) w2 (fun _ h9 => h9) rfl dX1_passHour_104 ?_
  refine lv_iconst (v := (1 : Int32)) hx hb dX1_passHour_107 (by decide) ?_
  refine lv_iadd hx hb dX1_passHour_108 ?_
  refine va_put (D := g.1) (ci := 1) (v := .int (R118.2.2.2.2.2.2.1 + (1 : Int32))) (ty := .int) (C := RX1) (T := TX1) (N := 9) hx hb hts i_X1_passHour_X1 tyX1 tyX1_ok nmX1 hown hE.1 hP hD hS 0 rfl rfl 6 (by decide) w2 (fun _ h9 => h9) rfl (by decide +kernel) rfl rfl (by decide) dX1_passHour_109 (fun H locs hP hD hS => ?_)
  have hP : va_P g.1 vwK (wRf g h0 h1 h2 h3 (R118.1, R118.2.1, R118.2.2.1, R118.2.2.2.1, R118.2.2.2.2.1, R118.2.2.2.2.2.1, (R118.2.2.2.2.2.2.1 + (1 : Int32)), R118.2.2.2.2.2.2.2.1, R118.2.2.2.2.2.2.2.2)) H := hP
  have hD : va_D A (wRf g h0 h1 h2 h3 (R118.1, R118.2.1, R118.2.2.1, R118.2.2.2.1, R118.2.2.2.2.1, R118.2.2.2.2.2.1, (R118.2.2.2.2.2.2.1 + (1 : Int32)), R118.2.2.2.2.2.2.2.1, R118.2.2.2.2.2.2.2.2)) := hD
  cases hf
  exact Ct.vret hx hb hr hlocks hAe hP hD hS dX1_passHour_112
def fX1_passHours_L6 (x1 : Int32) (x2 : Int32) (x3 : Int32) (kx : Rf → Int32 → Option (Int32 × Rf)) : Nat → Rf → Int32 → Int32 → Option (Int32 × Rf)
  | 0, _, _, _ => none
  | k + 1, R, x4, x5 => if x3 ≤ x5 then (kx R x4) else (o1 (fX1_passHour R x1 x2) (fun R103 => o1 (fX1_isOpen R103) (fun x104 => if x104 = 0 then (fX1_passHours_L6 x1 x2 x3 kx k R103 x4 (x5 + (1 : Int32))) else (fX1_passHours_L6 x1 x2 x3 kx k R103 (x4 + (1 : Int32)) (x5 + (1 : Int32))))))
def fX1_passHours (R : Rf) (a1 : Int32) (a2 : Int32) (a3 : Int32) : Option (Int32 × Rf) := fX1_passHours_L6 a1 a2 a3 (fun R105 x106 => some (x106, R105)) fu R (0 : Int32) (0 : Int32)
theorem q_X1_passHours : yX1_passHours.cls = RX1 ∧ yX1_passHours.cls ≠ "java/lang/invoke/MethodHandle" ∧ yX1_passHours.cls ≠ "java/lang/invoke/VarHandle" ∧ (parseMethodDescriptor yX1_passHours.desc).map (fun d => d.parameters.length) = some 3 := by decide +kernel
set_option maxHeartbeats 4000000 in
set_option maxRecDepth 100000 in
theorem c_X1_passHours (l : Launch) (g : gG) (h0 h1 h2 h3 : Nat) (R : Rf) (a1 : Int32) (a2 : Int32) (a3 : Int32) {r : Int32} {R' : Rf} (hf : fX1_passHours R a1 a2 a3 = some (r, R')) : Ct l yX1_passHours wsX1_passHours (rmm 5 112) g (wRf g h0 h1 h2 h3 R) (wRf g h0 h1 h2 h3 (R')) [.ref h0, .int a1, .int a2, .int a3] (some (.int r)) := by
  refine Ct.mk (by decide) rfl (Nat.le_of_ble_eq_true rfl) ?_
  intro p e s m args below meth c A ls hx hb hr hml hts hown hlocks hA hE hP hD hS hl hAe
  have hown : s.vm.findClass RX1 = some m.cls := hown
  have hl : lv_has ls 6 [(0, .ref h0), (1, .int a1), (2, .int a2), (3, .int a3)] := hl
  have L6 : ∀ (x1 : Int32) (x2 : Int32) (x3 : Int32) (kx : Rf → Int32 → Option (Int32 × Rf)) (k : Nat) (R : Rf) (x4 : Int32) (x5 : Int32) (H : Heap) (locs : List Loc) (ls : Array Slot), fX1_passHours_L6 x1 x2 x3 kx k R x4 x5 = some (r, R') → va_P g.1 vwK (wRf g h0 h1 h2 h3 R) H → va_D A (wRf g h0 h1 h2 h3 R) → va_S A s.heap H locs → lv_has ls 6 [(0, .ref h0), (1, .int x1), (2, .int x2), (3, .int x3), (4, .int x4), (5, .int x5)] → (∀ (R : Rf) (x4 : Int32) (H : Heap) (locs : List Loc) (ls : Array Slot), kx R x4 = some (r, R') → va_P g.1 vwK (wRf g h0 h1 h2 h3 R) H → va_D A (wRf g h0 h1 h2 h3 R) → va_S A s.heap H locs → lv_has ls 6 [(4, .int x4)] → W p l e (rmm 5 112) s m args below meth c H locs 0 0 (MQ below (QcG g (wRf g h0 h1 h2 h3 R) (wRf g h0 h1 h2 h3 (R')) (some (.int r)) s.heap.size) args s 0 0 A) (F0 m 34 ls [])) → W p l e (rmm 5 112) s m args below meth c H locs 0 0 (MQ below (QcG g (wRf g h0 h1 h2 h3 R) (wRf g h0 h1 h2 h3 (R')) (some (.int r)) s.heap.size) args s 0 0 A) (F0 m 6 ls []) := by
    intro x1 x2 x3 kx k
    induction k with
    | zero => intro R x4 x5 H locs ls hf; exact nomatch (show (none : Option (Int32 × Rf)) = some _ from hf)
    | succ k ih =>
      intro R x4 x5 H locs ls hf hP hD hS hl hk
      rw [fX1_passHours_L6] at hf
      refine lv_iload hx hb dX1_passHours_6 (lv_at hl 5 rfl) ?_
      refine lv_iload_n hx hb dX1_passHours_8 rfl (lv_at hl 3 rfl) ?_
      refine lv_icmp_ge (tgt := 34) hx hb dX1_passHours_9 (by decide) (fun hc => ?_) (fun hc => ?_)
      · have hf := if_t hf hc
        exact hk _ _ _ _ _  hf hP hD hS (lv_sub hl [4] rfl)
      · have hf := if_f hf hc
        refine lv_aload_n hx hb dX1_passHours_12 rfl (lv_at hl 0 rfl) ?_
        refine lv_iload_n hx hb dX1_passHours_13 rfl (lv_at hl 1 rfl) ?_
        refine lv_iload_n hx hb dX1_passHours_14 rfl (lv_at hl 2 rfl) ?_
        obtain ⟨R103, hg, hf⟩ := o1_s hf
        refine Ct.callV (ws' := wRf g h0 h1 h2 h3 R103) (As := [.int x1, .int x2]) (rest := []) (st1 := []) (c_X1_passHour l g h0 h1 h2 h3 R x1 x2 hg) (cwV 2 hts gX1_passHours_X1_passHour rfl rfl rfl q_X1_passHour ⟨Nat.le_of_ble_eq_true rfl, Nat.le_of_ble_eq_true rfl⟩) ⟨hx, hb, hml, hown, hts⟩ hE hP hD hS hA [0, 1, 2, 3] rfl rfl rfl rfl 1 0 rfl rfl rfl rfl hl.1 rfl rfl (Nat.le_of_ble_eq_true rfl) dX1_passHours_15 (fun H locs hP hD hS => ?_)
        refine lv_aload_n hx hb dX1_passHours_18 rfl (lv_at hl 0 rfl) ?_
        obtain ⟨x104, hg, hf⟩ := o1_s hf
        refine Ct.callV (ws' := wRf g h0 h1 h2 h3 R103) (As := []) (rest := []) (st1 := [.int x104]) (c_X1_isOpen l g h0 h1 h2 h3 R103 hg) (cwV 0 hts gX1_passHours_X1_isOpen rfl rfl rfl q_X1_isOpen ⟨Nat.le_of_ble_eq_true rfl, Nat.le_of_ble_eq_true rfl⟩) ⟨hx, hb, hml, hown, hts⟩ hE hP hD hS hA [0, 1, 2, 3] rfl rfl rfl rfl 1 0 rfl rfl rfl rfl hl.1 rfl rfl (Nat.le_of_ble_eq_true rfl) dX1_passHours_19 (fun H locs hP hD hS => ?_)
        refine lv_if_eq (tgt := 28) hx hb dX1_passHours_22 (by decide) (fun hc => ?_) (fun hc => ?_)
        · have hf := if_t hf hc
          refine lv_iinc (v := (x5 + (1 : Int32))) (lv' := [(5, .int (x5 + (1 : Int32))), (0, .ref h0), (1, .int x1), (2, .int x2), (3, .int x3), (4, .int x4)]) hx hb dX1_passHours_28 hl (k := 5) rfl rfl (by decide) rfl (fun ls hl => ?_)
          refine lv_goto (tgt := 6) hx hb dX1_passHours_31 (by decide) ?_
          exact ih _ _ _ _ _ _  hf hP hD hS (lv_sub hl [1, 2, 3, 4, 5, 0] rfl) hk
        · have hf := if_f hf hc
          refine lv_iinc (v := (x4 + (1 : Int32))) (lv' := [(4, .int (x4 + (1 : Int32))), (0, .ref h0), (1, .int x1), (2, .int x2), (3, .int x3), (5, .int x5)]) hx hb dX1_passHours_25 hl (k := 4) rfl rfl (by decide) rfl (fun ls hl => ?_)
          refine lv_iinc (v := (x5 + (1 : Int32))) (lv' := [(5, .int (x5 + (1 : Int32))), (4, .int (x4 + (1 : Int32))), (0, .ref h0), (1, .int x1), (2, .int x2), (3, .int x3)]) hx hb dX1_passHours_28 hl (k := 5) rfl rfl (by decide) rfl (fun ls hl => ?_)
          refine lv_goto (tgt := 6) hx hb dX1_passHours_31 (by decide) ?_
          exact ih _ _ _ _ _ _  hf hP hD hS (lv_sub hl [2, 3, 4, 5, 1, 0] rfl) hk
  unfold fX1_passHours at hf
  refine lv_iconst (v := (0 : Int32)) hx hb dX1_passHours_0 (by decide) ?_
  refine lv_istore (lv' := [(4, .int (0 : Int32)), (0, .ref h0), (1, .int a1), (2, .int a2), (3, .int a3)]) hx hb dX1_passHours_1 hl (by decide) rfl (fun ls hl => ?_)
  refine lv_iconst (v := (0 : Int32)) hx hb dX1_passHours_3 (by decide) ?_
  refine lv_istore (lv' := [(5, .int (0 : Int32)), (4, .int (0 : Int32)), (0, .ref h0), (1, .int a1), (2, .int a2), (3, .int a3)]) hx hb dX1_passHours_4 hl (by decide) rfl (fun ls hl => ?_)
  refine L6 _ _ _ _ _ _ _ _ _ _ _  hf hP hD hS (lv_sub hl [2, 3, 4, 5, 1, 0] rfl) (fun R105 x106 H locs ls hf hP hD hS hl => ?_)
  refine lv_iload hx hb dX1_passHours_34 (lv_at hl 0 rfl) ?_
  cases hf
  exact Ct.iret hx hb hr hlocks hAe hP hD hS dX1_passHours_36
def fX1_draw (R : Rf) : Option (Int32 × Rf) := some (((((R.2.2.2.2.2.2.2.2 * (1103515245 : Int32)) + (12345 : Int32)).toUInt32 >>> ((8 : Int32).toUInt32 &&& Int32.toUInt32 31)).toInt32), (R.1, R.2.1, R.2.2.1, R.2.2.2.1, R.2.2.2.2.1, R.2.2.2.2.2.1, R.2.2.2.2.2.2.1, R.2.2.2.2.2.2.2.1, ((R.2.2.2.2.2.2.2.2 * (1103515245 : Int32)) + (12345 : Int32))))
theorem q_X1_draw : yX1_draw.cls = RX1 ∧ yX1_draw.cls ≠ "java/lang/invoke/MethodHandle" ∧ yX1_draw.cls ≠ "java/lang/invoke/VarHandle" ∧ (parseMethodDescriptor yX1_draw.desc).map (fun d => d.parameters.length) = some 0 := by decide +kernel
theorem i_X1_draw_X1 : ∀ w ∈ u_ws RX1 TX1 9, w ∈ wsX1_draw := fun _ h => List.mem_cons_of_mem _ (List.mem_append_right _ (h))
set_option maxHeartbeats 4000000 in
set_option maxRecDepth 100000 in
theorem c_X1_draw (l : Launch) (g : gG) (h0 h1 h2 h3 : Nat) (R : Rf) {r : Int32} {R' : Rf} (hf : fX1_draw R = some (r, R')) : Ct l yX1_draw wsX1_draw (rmm 0 0) g (wRf g h0 h1 h2 h3 R) (wRf g h0 h1 h2 h3 (R')) [.ref h0] (some (.int r)) := by
  refine Ct.mk (by decide) rfl (Nat.le_of_ble_eq_true rfl) ?_
  intro p e s m args below meth c A ls hx hb hr hml hts hown hlocks hA hE hP hD hS hl hAe
  have hown : s.vm.findClass RX1 = some m.cls := hown
  have hl : lv_has ls 1 [(0, .ref h0)] := hl
  have w1 := hts (.fieldLink RX1 38 "RainVault$Roof" "z" "I") (List.mem_of_getElem? (i := 1) rfl)
  have w2 := hts (.constant RX1 125 (1103515245)) (List.mem_of_getElem? (i := 2) rfl)
  unfold fX1_draw at hf
  refine lv_aload_n hx hb dX1_draw_0 rfl (lv_at hl 0 rfl) ?_
  refine lv_aload_n hx hb dX1_draw_1 rfl (lv_at hl 0 rfl) ?_
  refine va_get (D := g.1) (ci := 1) (v := .int R.2.2.2.2.2.2.2.2) (C := RX1) (T := TX1) (N := 9) hx hb hts i_X1_draw_X1 hown hE.1 hP 0 rfl rfl 8 (by decide) w1 (fun _ h9 => h9) rfl dX1_draw_2 ?_
  refine lv_ldc hx hb hown w2 dX1_draw_5 ?_
  refine lv_imul hx hb dX1_draw_7 ?_
  refine lv_sipush (v := (12345 : Int32)) hx hb dX1_draw_8 (by decide) ?_
  refine lv_iadd hx hb dX1_draw_11 ?_
  refine va_put (D := g.1) (ci := 1) (v := .int ((R.2.2.2.2.2.2.2.2 * (1103515245 : Int32)) + (12345 : Int32))) (ty := .int) (C := RX1) (T := TX1) (N := 9) hx hb hts i_X1_draw_X1 tyX1 tyX1_ok nmX1 hown hE.1 hP hD hS 0 rfl rfl 8 (by decide) w1 (fun _ h9 => h9) rfl (by decide +kernel) rfl rfl (by decide) dX1_draw_12 (fun H locs hP hD hS => ?_)
  have hP : va_P g.1 vwK (wRf g h0 h1 h2 h3 (R.1, R.2.1, R.2.2.1, R.2.2.2.1, R.2.2.2.2.1, R.2.2.2.2.2.1, R.2.2.2.2.2.2.1, R.2.2.2.2.2.2.2.1, ((R.2.2.2.2.2.2.2.2 * (1103515245 : Int32)) + (12345 : Int32)))) H := hP
  have hD : va_D A (wRf g h0 h1 h2 h3 (R.1, R.2.1, R.2.2.1, R.2.2.2.1, R.2.2.2.2.1, R.2.2.2.2.2.1, R.2.2.2.2.2.2.1, R.2.2.2.2.2.2.2.1, ((R.2.2.2.2.2.2.2.2 * (1103515245 : Int32)) + (12345 : Int32)))) := hD
  refine lv_aload_n hx hb dX1_draw_15 rfl (lv_at hl 0 rfl) ?_
  refine va_get (D := g.1) (ci := 1) (v := .int ((R.2.2.2.2.2.2.2.2 * (1103515245 : Int32)) + (12345 : Int32))) (C := RX1) (T := TX1) (N := 9) hx hb hts i_X1_draw_X1 hown hE.1 hP 0 rfl rfl 8 (by decide) w1 (fun _ h9 => h9) rfl dX1_draw_16 ?_
  refine lv_bipush (v := (8 : Int32)) hx hb dX1_draw_19 (by decide) ?_
  refine lv_iushr (v := (((R.2.2.2.2.2.2.2.2 * (1103515245 : Int32)) + (12345 : Int32)).toUInt32 >>> ((8 : Int32).toUInt32 &&& Int32.toUInt32 31)).toInt32) hx hb dX1_draw_21 rfl ?_
  cases hf
  exact Ct.iret hx hb hr hlocks hAe hP hD hS dX1_draw_22
def fX6_sideOf (a1 : Int32) : Option (Int32) := if a1 ≤ 0 then (some (0 : Int32)) else (some (a1 - (1 : Int32)))
theorem q_X6_sideOf : yX6_sideOf.cls = RX6 ∧ yX6_sideOf.cls ≠ "java/lang/invoke/MethodHandle" ∧ yX6_sideOf.cls ≠ "java/lang/invoke/VarHandle" ∧ (parseMethodDescriptor yX6_sideOf.desc).map (fun d => d.parameters.length) = some 1 := by decide +kernel
set_option maxHeartbeats 4000000 in
set_option maxRecDepth 100000 in
theorem c_X6_sideOf (l : Launch) (g : gG) (a1 : Int32) {r : Int32} (hf : fX6_sideOf a1 = some r) : Ct l yX6_sideOf wsX6_sideOf (rmm 0 0) g (wNil g  ) (wNil g  ) [.int a1] (some (.int r)) := by
  refine Ct.mk (by decide) rfl (Nat.le_of_ble_eq_true rfl) ?_
  intro p e s m args below meth c A ls hx hb hr hml hts hown hlocks hA hE hP hD hS hl hAe
  have hown : s.vm.findClass RX6 = some m.cls := hown
  have hl : lv_has ls 1 [(0, .int a1)] := hl
  unfold fX6_sideOf at hf
  refine lv_iload_n hx hb dX6_sideOf_0 rfl (lv_at hl 0 rfl) ?_
  refine lv_if_le (tgt := 10) hx hb dX6_sideOf_1 (by decide) (fun hc => ?_) (fun hc => ?_)
  · have hf := if_t hf hc
    refine lv_iconst (v := (0 : Int32)) hx hb dX6_sideOf_10 (by decide) ?_
    cases hf
    exact Ct.iret hx hb hr hlocks hAe hP hD hS dX6_sideOf_11
  · have hf := if_f hf hc
    refine lv_iload_n hx hb dX6_sideOf_4 rfl (lv_at hl 0 rfl) ?_
    refine lv_iconst (v := (1 : Int32)) hx hb dX6_sideOf_5 (by decide) ?_
    refine lv_isub hx hb dX6_sideOf_6 ?_
    refine lv_goto (tgt := 11) hx hb dX6_sideOf_7 (by decide) ?_
    cases hf
    exact Ct.iret hx hb hr hlocks hAe hP hD hS dX6_sideOf_11
def fX1_passDrawnHour (R : Rf) : Option (Rf) := o2 (fX1_draw R) (fun x101 R102 => if (x101 - x101 / (5 : Int32) * (5 : Int32)) = 0 then (o1 (fX6_sideOf (x101 - x101 / (5 : Int32) * (5 : Int32))) (fun x107 => o1 (fX1_passHour R102 x107 (0 : Int32)) (fun R108 => some R108))) else (o2 (fX1_draw R102) (fun x103 R104 => o1 (fX6_sideOf (x101 - x101 / (5 : Int32) * (5 : Int32))) (fun x105 => o1 (fX1_passHour R104 x105 (x103 - x103 / (10 : Int32) * (10 : Int32))) (fun R106 => some R106)))))
theorem q_X1_passDrawnHour : yX1_passDrawnHour.cls = RX1 ∧ yX1_passDrawnHour.cls ≠ "java/lang/invoke/MethodHandle" ∧ yX1_passDrawnHour.cls ≠ "java/lang/invoke/VarHandle" ∧ (parseMethodDescriptor yX1_passDrawnHour.desc).map (fun d => d.parameters.length) = some 0 := by decide +kernel
set_option maxHeartbeats 4000000 in
set_option maxRecDepth 100000 in
theorem c_X1_passDrawnHour (l : Launch) (g : gG) (h0 h1 h2 h3 : Nat) (R : Rf) {R' : Rf} (hf : fX1_passDrawnHour R = some R') : Ct l yX1_passDrawnHour wsX1_passDrawnHour (rmm 4 93) g (wRf g h0 h1 h2 h3 R) (wRf g h0 h1 h2 h3 (R')) [.ref h0] none := by
  refine Ct.mk (by decide) rfl (Nat.le_of_ble_eq_true rfl) ?_
  intro p e s m args below meth c A ls hx hb hr hml hts hown hlocks hA hE hP hD hS hl hAe
  have hown : s.vm.findClass RX1 = some m.cls := hown
  have hl : lv_has ls 3 [(0, .ref h0)] := hl
  have w1 := hts (.initialized RX6) (List.mem_of_getElem? (i := 9) rfl)
  have w2 := hts (.static yX6_sideOf) (List.mem_of_getElem? (i := 8) rfl)
  unfold fX1_passDrawnHour at hf
  refine lv_aload_n hx hb dX1_passDrawnHour_0 rfl (lv_at hl 0 rfl) ?_
  obtain ⟨x101, R102, hg, hf⟩ := o2_s hf
  refine Ct.callV (ws' := wRf g h0 h1 h2 h3 R102) (As := []) (rest := []) (st1 := [.int x101]) (c_X1_draw l g h0 h1 h2 h3 R hg) (cwV 0 hts gX1_passDrawnHour_X1_draw rfl rfl rfl q_X1_draw ⟨Nat.le_of_ble_eq_true rfl, Nat.le_of_ble_eq_true rfl⟩) ⟨hx, hb, hml, hown, hts⟩ hE hP hD hS hA [0, 1, 2, 3] rfl rfl rfl rfl 1 0 rfl rfl rfl rfl hl.1 rfl rfl (Nat.le_of_ble_eq_true rfl) dX1_passDrawnHour_1 (fun H locs hP hD hS => ?_)
  refine lv_iconst (v := (5 : Int32)) hx hb dX1_passDrawnHour_4 (by decide) ?_
  refine lv_irem hx hb dX1_passDrawnHour_5 (by decide) ?_
  refine lv_istore_n (lv' := [(1, .int (x101 - x101 / (5 : Int32) * (5 : Int32))), (0, .ref h0)]) hx hb dX1_passDrawnHour_6 rfl hl (by decide) rfl (fun ls hl => ?_)
  refine lv_iload_n hx hb dX1_passDrawnHour_7 rfl (lv_at hl 0 rfl) ?_
  refine lv_if_ne (tgt := 15) hx hb dX1_passDrawnHour_8 (by decide) (fun hc => ?_) (fun hc => ?_)
  · have hf := if_f hf hc
    refine lv_aload_n hx hb dX1_passDrawnHour_15 rfl (lv_at hl 1 rfl) ?_
    obtain ⟨x103, R104, hg, hf⟩ := o2_s hf
    refine Ct.callV (ws' := wRf g h0 h1 h2 h3 R104) (As := []) (rest := []) (st1 := [.int x103]) (c_X1_draw l g h0 h1 h2 h3 R102 hg) (cwV 0 hts gX1_passDrawnHour_X1_draw rfl rfl rfl q_X1_draw ⟨Nat.le_of_ble_eq_true rfl, Nat.le_of_ble_eq_true rfl⟩) ⟨hx, hb, hml, hown, hts⟩ hE hP hD hS hA [0, 1, 2, 3] rfl rfl rfl rfl 1 0 rfl rfl rfl rfl hl.1 rfl rfl (Nat.le_of_ble_eq_true rfl) dX1_passDrawnHour_16 (fun H locs hP hD hS => ?_)
    refine lv_bipush (v := (10 : Int32)) hx hb dX1_passDrawnHour_19 (by decide) ?_
    refine lv_irem hx hb dX1_passDrawnHour_21 (by decide) ?_
    refine lv_istore_n (lv' := [(2, .int (x103 - x103 / (10 : Int32) * (10 : Int32))), (1, .int (x101 - x101 / (5 : Int32) * (5 : Int32))), (0, .ref h0)]) hx hb dX1_passDrawnHour_22 rfl hl (by decide) rfl (fun ls hl => ?_)
    refine lv_aload_n hx hb dX1_passDrawnHour_23 rfl (lv_at hl 2 rfl) ?_
    refine lv_iload_n hx hb dX1_passDrawnHour_24 rfl (lv_at hl 1 rfl) ?_
    obtain ⟨x105, hg, hf⟩ := o1_s hf
    refine Ct.callSN (ws' := wRf g h0 h1 h2 h3 R104) (As := [.int (x101 - x101 / (5 : Int32) * (5 : Int32))]) (rest := [.ref h0]) (st1 := [.int x105, .ref h0]) (c_X6_sideOf l g (x101 - x101 / (5 : Int32) * (5 : Int32)) hg) (⟨va_cnB 1 hts gX1_passDrawnHour_X6_sideOf_n122 rfl rfl rfl (hE.2.1 _ (List.mem_of_getElem? (i := 29) rfl)) w1 q_X6_sideOf.2 ⟨Nat.le_of_ble_eq_true rfl, Nat.le_of_ble_eq_true rfl⟩, w2, trivial⟩) ⟨hx, hb, hml, hown, hts⟩ hE hP hD hS hA [] rfl rfl rfl rfl rfl hl.1 rfl rfl (Nat.le_of_ble_eq_true rfl) dX1_passDrawnHour_25 (fun H locs hP hD hS => ?_)
    refine lv_iload_n hx hb dX1_passDrawnHour_28 rfl (lv_at hl 0 rfl) ?_
    obtain ⟨R106, hg, hf⟩ := o1_s hf
    refine Ct.callV (ws' := wRf g h0 h1 h2 h3 R106) (As := [.int x105, .int (x103 - x103 / (10 : Int32) * (10 : Int32))]) (rest := []) (st1 := []) (c_X1_passHour l g h0 h1 h2 h3 R104 x105 (x103 - x103 / (10 : Int32) * (10 : Int32)) hg) (cwV 2 hts gX1_passDrawnHour_X1_passHour rfl rfl rfl q_X1_passHour ⟨Nat.le_of_ble_eq_true rfl, Nat.le_of_ble_eq_true rfl⟩) ⟨hx, hb, hml, hown, hts⟩ hE hP hD hS hA [0, 1, 2, 3] rfl rfl rfl rfl 1 0 rfl rfl rfl rfl hl.1 rfl rfl (Nat.le_of_ble_eq_true rfl) dX1_passDrawnHour_29 (fun H locs hP hD hS => ?_)
    cases hf
    exact Ct.vret hx hb hr hlocks hAe hP hD hS dX1_passDrawnHour_32
  · have hf := if_t hf hc
    refine lv_iconst (v := (0 : Int32)) hx hb dX1_passDrawnHour_11 (by decide) ?_
    refine lv_goto (tgt := 22) hx hb dX1_passDrawnHour_12 (by decide) ?_
    refine lv_istore_n (lv' := [(2, .int (0 : Int32)), (1, .int (x101 - x101 / (5 : Int32) * (5 : Int32))), (0, .ref h0)]) hx hb dX1_passDrawnHour_22 rfl hl (by decide) rfl (fun ls hl => ?_)
    refine lv_aload_n hx hb dX1_passDrawnHour_23 rfl (lv_at hl 2 rfl) ?_
    refine lv_iload_n hx hb dX1_passDrawnHour_24 rfl (lv_at hl 1 rfl) ?_
    obtain ⟨x107, hg, hf⟩ := o1_s hf
    refine Ct.callSN (ws' := wRf g h0 h1 h2 h3 R102) (As := [.int (x101 - x101 / (5 : Int32) * (5 : Int32))]) (rest := [.ref h0]) (st1 := [.int x107, .ref h0]) (c_X6_sideOf l g (x101 - x101 / (5 : Int32) * (5 : Int32)) hg) (⟨va_cnB 1 hts gX1_passDrawnHour_X6_sideOf_n122 rfl rfl rfl (hE.2.1 _ (List.mem_of_getElem? (i := 29) rfl)) w1 q_X6_sideOf.2 ⟨Nat.le_of_ble_eq_true rfl, Nat.le_of_ble_eq_true rfl⟩, w2, trivial⟩) ⟨hx, hb, hml, hown, hts⟩ hE hP hD hS hA [] rfl rfl rfl rfl rfl hl.1 rfl rfl (Nat.le_of_ble_eq_true rfl) dX1_passDrawnHour_25 (fun H locs hP hD hS => ?_)
    refine lv_iload_n hx hb dX1_passDrawnHour_28 rfl (lv_at hl 0 rfl) ?_
    obtain ⟨R108, hg, hf⟩ := o1_s hf
    refine Ct.callV (ws' := wRf g h0 h1 h2 h3 R108) (As := [.int x107, .int (0 : Int32)]) (rest := []) (st1 := []) (c_X1_passHour l g h0 h1 h2 h3 R102 x107 (0 : Int32) hg) (cwV 2 hts gX1_passDrawnHour_X1_passHour rfl rfl rfl q_X1_passHour ⟨Nat.le_of_ble_eq_true rfl, Nat.le_of_ble_eq_true rfl⟩) ⟨hx, hb, hml, hown, hts⟩ hE hP hD hS hA [0, 1, 2, 3] rfl rfl rfl rfl 1 0 rfl rfl rfl rfl hl.1 rfl rfl (Nat.le_of_ble_eq_true rfl) dX1_passDrawnHour_29 (fun H locs hP hD hS => ?_)
    cases hf
    exact Ct.vret hx hb hr hlocks hAe hP hD hS dX1_passDrawnHour_32
def fX1_coverJust_L2 (x1 : Int32) (kx : Rf → Option (Rf)) : Nat → Rf → Int32 → Option (Rf)
  | 0, _, _ => none
  | k + 1, R, x2 => if R.2.2.2.1 ≤ x2 then (kx R) else (o1 (fX1_set R x2 (5 : Int32) ((x1 >>> (x2 &&& 31)) &&& (1 : Int32))) (fun R102 => fX1_coverJust_L2 x1 kx k R102 (x2 + (1 : Int32))))
def fX1_coverJust (R : Rf) (a1 : Int32) : Option (Rf) := fX1_coverJust_L2 a1 (fun R103 => some R103) fu R (0 : Int32)
theorem q_X1_coverJust : yX1_coverJust.cls = RX1 ∧ yX1_coverJust.cls ≠ "java/lang/invoke/MethodHandle" ∧ yX1_coverJust.cls ≠ "java/lang/invoke/VarHandle" ∧ (parseMethodDescriptor yX1_coverJust.desc).map (fun d => d.parameters.length) = some 1 := by decide +kernel
theorem i_X1_coverJust_X1 : ∀ w ∈ u_ws RX1 TX1 9, w ∈ wsX1_coverJust := fun _ h => List.mem_cons_of_mem _ (List.mem_append_right _ (h))
set_option maxHeartbeats 4000000 in
set_option maxRecDepth 100000 in
theorem c_X1_coverJust (l : Launch) (g : gG) (h0 h1 h2 h3 : Nat) (R : Rf) (a1 : Int32) {R' : Rf} (hf : fX1_coverJust R a1 = some R') : Ct l yX1_coverJust wsX1_coverJust (rmm 1 24) g (wRf g h0 h1 h2 h3 R) (wRf g h0 h1 h2 h3 (R')) [.ref h0, .int a1] none := by
  refine Ct.mk (by decide) rfl (Nat.le_of_ble_eq_true rfl) ?_
  intro p e s m args below meth c A ls hx hb hr hml hts hown hlocks hA hE hP hD hS hl hAe
  have hown : s.vm.findClass RX1 = some m.cls := hown
  have hl : lv_has ls 3 [(0, .ref h0), (1, .int a1)] := hl
  have w1 := hts (.fieldLink RX1 21 "RainVault$Roof" "cisterns" "I") (List.mem_of_getElem? (i := 1) rfl)
  have L2 : ∀ (x1 : Int32) (kx : Rf → Option (Rf)) (k : Nat) (R : Rf) (x2 : Int32) (H : Heap) (locs : List Loc) (ls : Array Slot), fX1_coverJust_L2 x1 kx k R x2 = some R' → va_P g.1 vwK (wRf g h0 h1 h2 h3 R) H → va_D A (wRf g h0 h1 h2 h3 R) → va_S A s.heap H locs → lv_has ls 3 [(0, .ref h0), (1, .int x1), (2, .int x2)] → (∀ (R : Rf) (H : Heap) (locs : List Loc) (ls : Array Slot), kx R = some R' → va_P g.1 vwK (wRf g h0 h1 h2 h3 R) H → va_D A (wRf g h0 h1 h2 h3 R) → va_S A s.heap H locs → lv_has ls 3 [] → W p l e (rmm 1 24) s m args below meth c H locs 0 0 (MQ below (QcG g (wRf g h0 h1 h2 h3 R) (wRf g h0 h1 h2 h3 (R')) none s.heap.size) args s 0 0 A) (F0 m 27 ls [])) → W p l e (rmm 1 24) s m args below meth c H locs 0 0 (MQ below (QcG g (wRf g h0 h1 h2 h3 R) (wRf g h0 h1 h2 h3 (R')) none s.heap.size) args s 0 0 A) (F0 m 2 ls []) := by
    intro x1 kx k
    induction k with
    | zero => intro R x2 H locs ls hf; exact nomatch (show (none : Option (Rf)) = some _ from hf)
    | succ k ih =>
      intro R x2 H locs ls hf hP hD hS hl hk
      rw [fX1_coverJust_L2] at hf
      refine lv_iload_n hx hb dX1_coverJust_2 rfl (lv_at hl 2 rfl) ?_
      refine lv_aload_n hx hb dX1_coverJust_3 rfl (lv_at hl 0 rfl) ?_
      refine va_get (D := g.1) (ci := 1) (v := .int R.2.2.2.1) (C := RX1) (T := TX1) (N := 9) hx hb hts i_X1_coverJust_X1 hown hE.1 hP 0 rfl rfl 3 (by decide) w1 (fun _ h9 => h9) rfl dX1_coverJust_4 ?_
      refine lv_icmp_ge (tgt := 27) hx hb dX1_coverJust_7 (by decide) (fun hc => ?_) (fun hc => ?_)
      · have hf := if_t hf hc
        exact hk _ _ _ _  hf hP hD hS (lv_sub hl [] rfl)
      · have hf := if_f hf hc
        refine lv_aload_n hx hb dX1_coverJust_10 rfl (lv_at hl 0 rfl) ?_
        refine lv_iload_n hx hb dX1_coverJust_11 rfl (lv_at hl 2 rfl) ?_
        refine lv_iconst (v := (5 : Int32)) hx hb dX1_coverJust_12 (by decide) ?_
        refine lv_iload_n hx hb dX1_coverJust_13 rfl (lv_at hl 1 rfl) ?_
        refine lv_iload_n hx hb dX1_coverJust_14 rfl (lv_at hl 2 rfl) ?_
        refine lv_ishr hx hb dX1_coverJust_15 ?_
        refine lv_iconst (v := (1 : Int32)) hx hb dX1_coverJust_16 (by decide) ?_
        refine lv_iand hx hb dX1_coverJust_17 ?_
        obtain ⟨R102, hg, hf⟩ := o1_s hf
        refine Ct.callV (ws' := wRf g h0 h1 h2 h3 R102) (As := [.int x2, .int (5 : Int32), .int ((x1 >>> (x2 &&& 31)) &&& (1 : Int32))]) (rest := []) (st1 := []) (c_X1_set l g h0 h1 h2 h3 R x2 (5 : Int32) ((x1 >>> (x2 &&& 31)) &&& (1 : Int32)) hg) (cwV 3 hts gX1_coverJust_X1_set rfl rfl rfl q_X1_set ⟨Nat.le_of_ble_eq_true rfl, Nat.le_of_ble_eq_true rfl⟩) ⟨hx, hb, hml, hown, hts⟩ hE hP hD hS hA [0, 1, 2, 3] rfl rfl rfl rfl 1 0 rfl rfl rfl rfl hl.1 rfl rfl (Nat.le_of_ble_eq_true rfl) dX1_coverJust_18 (fun H locs hP hD hS => ?_)
        refine lv_iinc (v := (x2 + (1 : Int32))) (lv' := [(2, .int (x2 + (1 : Int32))), (0, .ref h0), (1, .int x1)]) hx hb dX1_coverJust_21 hl (k := 2) rfl rfl (by decide) rfl (fun ls hl => ?_)
        refine lv_goto (tgt := 2) hx hb dX1_coverJust_24 (by decide) ?_
        exact ih _ _ _ _ _  hf hP hD hS (lv_sub hl [1, 2, 0] rfl) hk
  unfold fX1_coverJust at hf
  refine lv_iconst (v := (0 : Int32)) hx hb dX1_coverJust_0 (by decide) ?_
  refine lv_istore_n (lv' := [(2, .int (0 : Int32)), (0, .ref h0), (1, .int a1)]) hx hb dX1_coverJust_1 rfl hl (by decide) rfl (fun ls hl => ?_)
  refine L2 _ _ _ _ _ _ _ _  hf hP hD hS (lv_sub hl [1, 2, 0] rfl) (fun R103 H locs ls hf hP hD hS hl => ?_)
  cases hf
  exact Ct.vret hx hb hr hlocks hAe hP hD hS dX1_coverJust_27
def fX1_levelsTogether_L4 (R : Rf) (kx : Int32 → Option (Int32)) : Nat → Int32 → Int32 → Option (Int32)
  | 0, _, _ => none
  | k + 1, x1, x2 => if R.2.2.2.1 ≤ x2 then (kx x1) else (o1 (fX1_get R x2 (2 : Int32)) (fun x102 => fX1_levelsTogether_L4 R kx k (x1 + x102) (x2 + (1 : Int32))))
def fX1_levelsTogether (R : Rf) : Option (Int32) := fX1_levelsTogether_L4 R (fun x103 => some x103) fu (0 : Int32) (0 : Int32)
theorem q_X1_levelsTogether : yX1_levelsTogether.cls = RX1 ∧ yX1_levelsTogether.cls ≠ "java/lang/invoke/MethodHandle" ∧ yX1_levelsTogether.cls ≠ "java/lang/invoke/VarHandle" ∧ (parseMethodDescriptor yX1_levelsTogether.desc).map (fun d => d.parameters.length) = some 0 := by decide +kernel
theorem i_X1_levelsTogether_X1 : ∀ w ∈ u_ws RX1 TX1 9, w ∈ wsX1_levelsTogether := fun _ h => List.mem_cons_of_mem _ (List.mem_append_right _ (h))
set_option maxHeartbeats 4000000 in
set_option maxRecDepth 100000 in
theorem c_X1_levelsTogether (l : Launch) (g : gG) (h0 h1 h2 h3 : Nat) (R : Rf) {r : Int32} (hf : fX1_levelsTogether R = some r) : Ct l yX1_levelsTogether wsX1_levelsTogether (rmm 1 23) g (wRf g h0 h1 h2 h3 R) (wRf g h0 h1 h2 h3 R) [.ref h0] (some (.int r)) := by
  refine Ct.mk (by decide) rfl (Nat.le_of_ble_eq_true rfl) ?_
  intro p e s m args below meth c A ls hx hb hr hml hts hown hlocks hA hE hP hD hS hl hAe
  have hown : s.vm.findClass RX1 = some m.cls := hown
  have hl : lv_has ls 3 [(0, .ref h0)] := hl
  have w1 := hts (.fieldLink RX1 21 "RainVault$Roof" "cisterns" "I") (List.mem_of_getElem? (i := 1) rfl)
  have L4 : ∀ (kx : Int32 → Option (Int32)) (k : Nat) (x1 : Int32) (x2 : Int32) (H : Heap) (locs : List Loc) (ls : Array Slot), fX1_levelsTogether_L4 R kx k x1 x2 = some r → va_P g.1 vwK (wRf g h0 h1 h2 h3 R) H → va_D A (wRf g h0 h1 h2 h3 R) → va_S A s.heap H locs → lv_has ls 3 [(0, .ref h0), (1, .int x1), (2, .int x2)] → (∀ (x1 : Int32) (H : Heap) (locs : List Loc) (ls : Array Slot), kx x1 = some r → va_P g.1 vwK (wRf g h0 h1 h2 h3 R) H → va_D A (wRf g h0 h1 h2 h3 R) → va_S A s.heap H locs → lv_has ls 3 [(1, .int x1)] → W p l e (rmm 1 23) s m args below meth c H locs 0 0 (MQ below (QcG g (wRf g h0 h1 h2 h3 R) (wRf g h0 h1 h2 h3 R) (some (.int r)) s.heap.size) args s 0 0 A) (F0 m 27 ls [])) → W p l e (rmm 1 23) s m args below meth c H locs 0 0 (MQ below (QcG g (wRf g h0 h1 h2 h3 R) (wRf g h0 h1 h2 h3 R) (some (.int r)) s.heap.size) args s 0 0 A) (F0 m 4 ls []) := by
    intro kx k
    induction k with
    | zero => intro x1 x2 H locs ls hf; exact nomatch (show (none : Option (Int32)) = some _ from hf)
    | succ k ih =>
      intro x1 x2 H locs ls hf hP hD hS hl hk
      rw [fX1_levelsTogether_L4] at hf
      refine lv_iload_n hx hb dX1_levelsTogether_4 rfl (lv_at hl 2 rfl) ?_
      refine lv_aload_n hx hb dX1_levelsTogether_5 rfl (lv_at hl 0 rfl) ?_
      refine va_get (D := g.1) (ci := 1) (v := .int R.2.2.2.1) (C := RX1) (T := TX1) (N := 9) hx hb hts i_X1_levelsTogether_X1 hown hE.1 hP 0 rfl rfl 3 (by decide) w1 (fun _ h9 => h9) rfl dX1_levelsTogether_6 ?_
      refine lv_icmp_ge (tgt := 27) hx hb dX1_levelsTogether_9 (by decide) (fun hc => ?_) (fun hc => ?_)
      · have hf := if_t hf hc
        exact hk _ _ _ _  hf hP hD hS (lv_sub hl [1] rfl)
      · have hf := if_f hf hc
        refine lv_iload_n hx hb dX1_levelsTogether_12 rfl (lv_at hl 1 rfl) ?_
        refine lv_aload_n hx hb dX1_levelsTogether_13 rfl (lv_at hl 0 rfl) ?_
        refine lv_iload_n hx hb dX1_levelsTogether_14 rfl (lv_at hl 2 rfl) ?_
        refine lv_iconst (v := (2 : Int32)) hx hb dX1_levelsTogether_15 (by decide) ?_
        obtain ⟨x102, hg, hf⟩ := o1_s hf
        refine Ct.callV (ws' := wRf g h0 h1 h2 h3 R) (As := [.int x2, .int (2 : Int32)]) (rest := [.int x1]) (st1 := [.int x102, .int x1]) (c_X1_get l g h0 h1 h2 h3 R x2 (2 : Int32) hg) (cwV 2 hts gX1_levelsTogether_X1_get rfl rfl rfl q_X1_get ⟨Nat.le_of_ble_eq_true rfl, Nat.le_of_ble_eq_true rfl⟩) ⟨hx, hb, hml, hown, hts⟩ hE hP hD hS hA [0, 1, 2, 3] rfl rfl rfl rfl 1 0 rfl rfl rfl rfl hl.1 rfl rfl (Nat.le_of_ble_eq_true rfl) dX1_levelsTogether_16 (fun H locs hP hD hS => ?_)
        refine lv_iadd hx hb dX1_levelsTogether_19 ?_
        refine lv_istore_n (lv' := [(1, .int (x1 + x102)), (0, .ref h0), (2, .int x2)]) hx hb dX1_levelsTogether_20 rfl hl (by decide) rfl (fun ls hl => ?_)
        refine lv_iinc (v := (x2 + (1 : Int32))) (lv' := [(2, .int (x2 + (1 : Int32))), (1, .int (x1 + x102)), (0, .ref h0)]) hx hb dX1_levelsTogether_21 hl (k := 2) rfl rfl (by decide) rfl (fun ls hl => ?_)
        refine lv_goto (tgt := 4) hx hb dX1_levelsTogether_24 (by decide) ?_
        exact ih _ _ _ _ _  hf hP hD hS (lv_sub hl [2, 1, 0] rfl) hk
  unfold fX1_levelsTogether at hf
  refine lv_iconst (v := (0 : Int32)) hx hb dX1_levelsTogether_0 (by decide) ?_
  refine lv_istore_n (lv' := [(1, .int (0 : Int32)), (0, .ref h0)]) hx hb dX1_levelsTogether_1 rfl hl (by decide) rfl (fun ls hl => ?_)
  refine lv_iconst (v := (0 : Int32)) hx hb dX1_levelsTogether_2 (by decide) ?_
  refine lv_istore_n (lv' := [(2, .int (0 : Int32)), (1, .int (0 : Int32)), (0, .ref h0)]) hx hb dX1_levelsTogether_3 rfl hl (by decide) rfl (fun ls hl => ?_)
  refine L4 _ _ _ _ _ _ _  hf hP hD hS (lv_sub hl [2, 1, 0] rfl) (fun x103 H locs ls hf hP hD hS hl => ?_)
  refine lv_iload_n hx hb dX1_levelsTogether_27 rfl (lv_at hl 0 rfl) ?_
  cases hf
  exact Ct.iret hx hb hr hlocks hAe hP hD hS dX1_levelsTogether_28
def fX1_setCondition (R : Rf) (a1 : Int32) (a2 : Int32) (a3 : Int32) (a4 : Int32) : Option (Rf) := o1 (fX6_put 24 R.2.1 ((a1 * (3 : Int32)) + (0 : Int32)) a2) (fun f101 => o1 (fX6_put 24 f101 ((a1 * (3 : Int32)) + (1 : Int32)) a3) (fun f102 => o1 (fX6_put 24 f102 ((a1 * (3 : Int32)) + (2 : Int32)) a4) (fun f103 => some (R.1, f103, R.2.2.1, R.2.2.2.1, R.2.2.2.2.1, R.2.2.2.2.2.1, R.2.2.2.2.2.2.1, R.2.2.2.2.2.2.2.1, R.2.2.2.2.2.2.2.2))))
theorem q_X1_setCondition : yX1_setCondition.cls = RX1 ∧ yX1_setCondition.cls ≠ "java/lang/invoke/MethodHandle" ∧ yX1_setCondition.cls ≠ "java/lang/invoke/VarHandle" ∧ (parseMethodDescriptor yX1_setCondition.desc).map (fun d => d.parameters.length) = some 4 := by decide +kernel
theorem i_X1_setCondition_X1 : ∀ w ∈ u_ws RX1 TX1 9, w ∈ wsX1_setCondition := fun _ h => List.mem_cons_of_mem _ (List.mem_append_right _ (h))
set_option maxHeartbeats 4000000 in
set_option maxRecDepth 100000 in
theorem c_X1_setCondition (l : Launch) (g : gG) (h0 h1 h2 h3 : Nat) (R : Rf) (a1 : Int32) (a2 : Int32) (a3 : Int32) (a4 : Int32) {R' : Rf} (hf : fX1_setCondition R a1 a2 a3 a4 = some R') : Ct l yX1_setCondition wsX1_setCondition (rmm 1 22) g (wRf g h0 h1 h2 h3 R) (wRf g h0 h1 h2 h3 (R')) [.ref h0, .int a1, .int a2, .int a3, .int a4] none := by
  refine Ct.mk (by decide) rfl (Nat.le_of_ble_eq_true rfl) ?_
  intro p e s m args below meth c A ls hx hb hr hml hts hown hlocks hA hE hP hD hS hl hAe
  have hown : s.vm.findClass RX1 = some m.cls := hown
  have hl : lv_has ls 5 [(0, .ref h0), (1, .int a1), (2, .int a2), (3, .int a3), (4, .int a4)] := hl
  have w1 := hts (.fieldLink RX1 15 "RainVault$Roof" "conditionFacts" "[I") (List.mem_of_getElem? (i := 1) rfl)
  have w2 := hts (.initialized RX6) (List.mem_of_getElem? (i := 3) rfl)
  have w3 := hts (.static yX6_put) (List.mem_of_getElem? (i := 2) rfl)
  unfold fX1_setCondition at hf
  refine lv_aload_n hx hb dX1_setCondition_0 rfl (lv_at hl 0 rfl) ?_
  refine va_get (D := g.1) (ci := 1) (v := .ref h2) (C := RX1) (T := TX1) (N := 9) hx hb hts i_X1_setCondition_X1 hown hE.1 hP 0 rfl rfl 1 (by decide) w1 (fun _ h9 => h9) rfl dX1_setCondition_1 ?_
  refine lv_iload_n hx hb dX1_setCondition_4 rfl (lv_at hl 1 rfl) ?_
  refine lv_iconst (v := (3 : Int32)) hx hb dX1_setCondition_5 (by decide) ?_
  refine lv_imul hx hb dX1_setCondition_6 ?_
  refine lv_iconst (v := (0 : Int32)) hx hb dX1_setCondition_7 (by decide) ?_
  refine lv_iadd hx hb dX1_setCondition_8 ?_
  refine lv_iload_n hx hb dX1_setCondition_9 rfl (lv_at hl 2 rfl) ?_
  obtain ⟨f101, hg, hf⟩ := o1_s hf
  refine Ct.callSN (ws' := wRf g h0 h1 h2 h3 (R.1, f101, R.2.2.1, R.2.2.2.1, R.2.2.2.2.1, R.2.2.2.2.2.1, R.2.2.2.2.2.2.1, R.2.2.2.2.2.2.2.1, R.2.2.2.2.2.2.2.2)) (As := [.ref h2, .int ((a1 * (3 : Int32)) + (0 : Int32)), .int a2]) (rest := []) (st1 := []) (c_X6_put l g h2 24 R.2.1 ((a1 * (3 : Int32)) + (0 : Int32)) a2 hg) (⟨va_cnB 3 hts gX1_setCondition_X6_put_n126 rfl rfl rfl (hE.2.1 _ (List.mem_of_getElem? (i := 28) rfl)) w2 q_X6_put.2 ⟨Nat.le_of_ble_eq_true rfl, Nat.le_of_ble_eq_true rfl⟩, w3, trivial⟩) ⟨hx, hb, hml, hown, hts⟩ hE hP hD hS hA [2] rfl rfl rfl rfl rfl hl.1 rfl rfl (Nat.le_of_ble_eq_true rfl) dX1_setCondition_10 (fun H locs hP hD hS => ?_)
  refine lv_aload_n hx hb dX1_setCondition_13 rfl (lv_at hl 0 rfl) ?_
  refine va_get (D := g.1) (ci := 1) (v := .ref h2) (C := RX1) (T := TX1) (N := 9) hx hb hts i_X1_setCondition_X1 hown hE.1 hP 0 rfl rfl 1 (by decide) w1 (fun _ h9 => h9) rfl dX1_setCondition_14 ?_
  refine lv_iload_n hx hb dX1_setCondition_17 rfl (lv_at hl 1 rfl) ?_
  refine lv_iconst (v := (3 : Int32)) hx hb dX1_setCondition_18 (by decide) ?_
  refine lv_imul hx hb dX1_setCondition_19 ?_
  refine lv_iconst (v := (1 : Int32)) hx hb dX1_setCondition_20 (by decide) ?_
  refine lv_iadd hx hb dX1_setCondition_21 ?_
  refine lv_iload_n hx hb dX1_setCondition_22 rfl (lv_at hl 3 rfl) ?_
  obtain ⟨f102, hg, hf⟩ := o1_s hf
  refine Ct.callSN (ws' := wRf g h0 h1 h2 h3 (R.1, f102, R.2.2.1, R.2.2.2.1, R.2.2.2.2.1, R.2.2.2.2.2.1, R.2.2.2.2.2.2.1, R.2.2.2.2.2.2.2.1, R.2.2.2.2.2.2.2.2)) (As := [.ref h2, .int ((a1 * (3 : Int32)) + (1 : Int32)), .int a3]) (rest := []) (st1 := []) (c_X6_put l g h2 24 f101 ((a1 * (3 : Int32)) + (1 : Int32)) a3 hg) (⟨va_cnB 3 hts gX1_setCondition_X6_put_n126 rfl rfl rfl (hE.2.1 _ (List.mem_of_getElem? (i := 28) rfl)) w2 q_X6_put.2 ⟨Nat.le_of_ble_eq_true rfl, Nat.le_of_ble_eq_true rfl⟩, w3, trivial⟩) ⟨hx, hb, hml, hown, hts⟩ hE hP hD hS hA [2] rfl rfl rfl rfl rfl hl.1 rfl rfl (Nat.le_of_ble_eq_true rfl) dX1_setCondition_23 (fun H locs hP hD hS => ?_)
  refine lv_aload_n hx hb dX1_setCondition_26 rfl (lv_at hl 0 rfl) ?_
  refine va_get (D := g.1) (ci := 1) (v := .ref h2) (C := RX1) (T := TX1) (N := 9) hx hb hts i_X1_setCondition_X1 hown hE.1 hP 0 rfl rfl 1 (by decide) w1 (fun _ h9 => h9) rfl dX1_setCondition_27 ?_
  refine lv_iload_n hx hb dX1_setCondition_30 rfl (lv_at hl 1 rfl) ?_
  refine lv_iconst (v := (3 : Int32)) hx hb dX1_setCondition_31 (by decide) ?_
  refine lv_imul hx hb dX1_setCondition_32 ?_
  refine lv_iconst (v := (2 : Int32)) hx hb dX1_setCondition_33 (by decide) ?_
  refine lv_iadd hx hb dX1_setCondition_34 ?_
  refine lv_iload hx hb dX1_setCondition_35 (lv_at hl 4 rfl) ?_
  obtain ⟨f103, hg, hf⟩ := o1_s hf
  refine Ct.callSN (ws' := wRf g h0 h1 h2 h3 (R.1, f103, R.2.2.1, R.2.2.2.1, R.2.2.2.2.1, R.2.2.2.2.2.1, R.2.2.2.2.2.2.1, R.2.2.2.2.2.2.2.1, R.2.2.2.2.2.2.2.2)) (As := [.ref h2, .int ((a1 * (3 : Int32)) + (2 : Int32)), .int a4]) (rest := []) (st1 := []) (c_X6_put l g h2 24 f102 ((a1 * (3 : Int32)) + (2 : Int32)) a4 hg) (⟨va_cnB 3 hts gX1_setCondition_X6_put_n126 rfl rfl rfl (hE.2.1 _ (List.mem_of_getElem? (i := 28) rfl)) w2 q_X6_put.2 ⟨Nat.le_of_ble_eq_true rfl, Nat.le_of_ble_eq_true rfl⟩, w3, trivial⟩) ⟨hx, hb, hml, hown, hts⟩ hE hP hD hS hA [2] rfl rfl rfl rfl rfl hl.1 rfl rfl (Nat.le_of_ble_eq_true rfl) dX1_setCondition_37 (fun H locs hP hD hS => ?_)
  cases hf
  exact Ct.vret hx hb hr hlocks hAe hP hD hS dX1_setCondition_40
def fX1_addCondition (R : Rf) (a1 : Int32) (a2 : Int32) (a3 : Int32) : Option (Int32 × Rf) := o1 (fX1_setCondition (R.1, R.2.1, R.2.2.1, R.2.2.2.1, (R.2.2.2.2.1 + (1 : Int32)), R.2.2.2.2.2.1, R.2.2.2.2.2.2.1, R.2.2.2.2.2.2.2.1, R.2.2.2.2.2.2.2.2) R.2.2.2.2.1 a1 a2 a3) (fun R101 => some (R.2.2.2.2.1, R101))
theorem q_X1_addCondition : yX1_addCondition.cls = RX1 ∧ yX1_addCondition.cls ≠ "java/lang/invoke/MethodHandle" ∧ yX1_addCondition.cls ≠ "java/lang/invoke/VarHandle" ∧ (parseMethodDescriptor yX1_addCondition.desc).map (fun d => d.parameters.length) = some 3 := by decide +kernel
theorem i_X1_addCondition_X1 : ∀ w ∈ u_ws RX1 TX1 9, w ∈ wsX1_addCondition := fun _ h => List.mem_cons_of_mem _ (List.mem_append_right _ (h))
set_option maxHeartbeats 4000000 in
set_option maxRecDepth 100000 in
theorem c_X1_addCondition (l : Launch) (g : gG) (h0 h1 h2 h3 : Nat) (R : Rf) (a1 : Int32) (a2 : Int32) (a3 : Int32) {r : Int32} {R' : Rf} (hf : fX1_addCondition R a1 a2 a3 = some (r, R')) : Ct l yX1_addCondition wsX1_addCondition (rmm 2 46) g (wRf g h0 h1 h2 h3 R) (wRf g h0 h1 h2 h3 (R')) [.ref h0, .int a1, .int a2, .int a3] (some (.int r)) := by
  refine Ct.mk (by decide) rfl (Nat.le_of_ble_eq_true rfl) ?_
  intro p e s m args below meth c A ls hx hb hr hml hts hown hlocks hA hE hP hD hS hl hAe
  have hown : s.vm.findClass RX1 = some m.cls := hown
  have hl : lv_has ls 5 [(0, .ref h0), (1, .int a1), (2, .int a2), (3, .int a3)] := hl
  have w1 := hts (.fieldLink RX1 25 "RainVault$Roof" "conditions" "I") (List.mem_of_getElem? (i := 1) rfl)
  unfold fX1_addCondition at hf
  refine lv_aload_n hx hb dX1_addCondition_0 rfl (lv_at hl 0 rfl) ?_
  refine va_get (D := g.1) (ci := 1) (v := .int R.2.2.2.2.1) (C := RX1) (T := TX1) (N := 9) hx hb hts i_X1_addCondition_X1 hown hE.1 hP 0 rfl rfl 4 (by decide) w1 (fun _ h9 => h9) rfl dX1_addCondition_1 ?_
  refine lv_istore (lv' := [(4, .int R.2.2.2.2.1), (0, .ref h0), (1, .int a1), (2, .int a2), (3, .int a3)]) hx hb dX1_addCondition_4 hl (by decide) rfl (fun ls hl => ?_)
  refine lv_aload_n hx hb dX1_addCondition_6 rfl (lv_at hl 1 rfl) ?_
  refine lv_dup hx hb dX1_addCondition_7 rfl ?_
  refine va_get (D := g.1) (ci := 1) (v := .int R.2.2.2.2.1) (C := RX1) (T := TX1) (N := 9) hx hb hts i_X1_addCondition_X1 hown hE.1 hP 0 rfl rfl 4 (by decide) w1 (fun _ h9 => h9) rfl dX1_addCondition_8 ?_
  refine lv_iconst (v := (1 : Int32)) hx hb dX1_addCondition_11 (by decide) ?_
  refine lv_iadd hx hb dX1_addCondition_12 ?_
  refine va_put (D := g.1) (ci := 1) (v := .int (R.2.2.2.2.1 + (1 : Int32))) (ty := .int) (C := RX1) (T := TX1) (N := 9) hx hb hts i_X1_addCondition_X1 tyX1 tyX1_ok nmX1 hown hE.1 hP hD hS 0 rfl rfl 4 (by decide) w1 (fun _ h9 => h9) rfl (by decide +kernel) rfl rfl (by decide) dX1_addCondition_13 (fun H locs hP hD hS => ?_)
  have hP : va_P g.1 vwK (wRf g h0 h1 h2 h3 (R.1, R.2.1, R.2.2.1, R.2.2.2.1, (R.2.2.2.2.1 + (1 : Int32)), R.2.2.2.2.2.1, R.2.2.2.2.2.2.1, R.2.2.2.2.2.2.2.1, R.2.2.2.2.2.2.2.2)) H := hP
  have hD : va_D A (wRf g h0 h1 h2 h3 (R.1, R.2.1, R.2.2.1, R.2.2.2.1, (R.2.2.2.2.1 + (1 : Int32)), R.2.2.2.2.2.1, R.2.2.2.2.2.2.1, R.2.2.2.2.2.2.2.1, R.2.2.2.2.2.2.2.2)) := hD
  refine lv_aload_n hx hb dX1_addCondition_16 rfl (lv_at hl 1 rfl) ?_
  refine lv_iload hx hb dX1_addCondition_17 (lv_at hl 0 rfl) ?_
  refine lv_iload_n hx hb dX1_addCondition_19 rfl (lv_at hl 2 rfl) ?_
  refine lv_iload_n hx hb dX1_addCondition_20 rfl (lv_at hl 3 rfl) ?_
  refine lv_iload_n hx hb dX1_addCondition_21 rfl (lv_at hl 4 rfl) ?_
  obtain ⟨R101, hg, hf⟩ := o1_s hf
  refine Ct.callV (ws' := wRf g h0 h1 h2 h3 R101) (As := [.int R.2.2.2.2.1, .int a1, .int a2, .int a3]) (rest := []) (st1 := []) (c_X1_setCondition l g h0 h1 h2 h3 (R.1, R.2.1, R.2.2.1, R.2.2.2.1, (R.2.2.2.2.1 + (1 : Int32)), R.2.2.2.2.2.1, R.2.2.2.2.2.2.1, R.2.2.2.2.2.2.2.1, R.2.2.2.2.2.2.2.2) R.2.2.2.2.1 a1 a2 a3 hg) (cwV 4 hts gX1_addCondition_X1_setCondition rfl rfl rfl q_X1_setCondition ⟨Nat.le_of_ble_eq_true rfl, Nat.le_of_ble_eq_true rfl⟩) ⟨hx, hb, hml, hown, hts⟩ hE hP hD hS hA [0, 1, 2, 3] rfl rfl rfl rfl 1 0 rfl rfl rfl rfl hl.1 rfl rfl (Nat.le_of_ble_eq_true rfl) dX1_addCondition_22 (fun H locs hP hD hS => ?_)
  refine lv_iload hx hb dX1_addCondition_25 (lv_at hl 0 rfl) ?_
  cases hf
  exact Ct.iret hx hb hr hlocks hAe hP hD hS dX1_addCondition_27
def fX1_removeCondition_L12 (kx : Rf → Option (Rf)) : Nat → Rf → Int32 → Option (Rf)
  | 0, _, _ => none
  | k + 1, R, x2 => if R.2.2.2.2.1 ≤ x2 then (kx R) else (o1 (fX1_conditionFact R (x2 + (1 : Int32)) (0 : Int32)) (fun x105 => o1 (fX1_conditionFact R (x2 + (1 : Int32)) (1 : Int32)) (fun x106 => o1 (fX1_conditionFact R (x2 + (1 : Int32)) (2 : Int32)) (fun x107 => o1 (fX1_setCondition R x2 x105 x106 x107) (fun R108 => fX1_removeCondition_L12 kx k R108 (x2 + (1 : Int32)))))))
def fX1_removeCondition (R : Rf) (a1 : Int32) : Option (Rf) := fX1_removeCondition_L12 (fun R109 => some R109) fu (R.1, R.2.1, R.2.2.1, R.2.2.2.1, (R.2.2.2.2.1 - (1 : Int32)), R.2.2.2.2.2.1, R.2.2.2.2.2.2.1, R.2.2.2.2.2.2.2.1, R.2.2.2.2.2.2.2.2) a1
theorem q_X1_removeCondition : yX1_removeCondition.cls = RX1 ∧ yX1_removeCondition.cls ≠ "java/lang/invoke/MethodHandle" ∧ yX1_removeCondition.cls ≠ "java/lang/invoke/VarHandle" ∧ (parseMethodDescriptor yX1_removeCondition.desc).map (fun d => d.parameters.length) = some 1 := by decide +kernel
theorem i_X1_removeCondition_X1 : ∀ w ∈ u_ws RX1 TX1 9, w ∈ wsX1_removeCondition := fun _ h => List.mem_cons_of_mem _ (List.mem_append_right _ (h))
set_option maxHeartbeats 4000000 in
set_option maxRecDepth 100000 in
theorem c_X1_removeCondition (l : Launch) (g : gG) (h0 h1 h2 h3 : Nat) (R : Rf) (a1 : Int32) {R' : Rf} (hf : fX1_removeCondition R a1 = some R') : Ct l yX1_removeCondition wsX1_removeCondition (rmm 2 46) g (wRf g h0 h1 h2 h3 R) (wRf g h0 h1 h2 h3 (R')) [.ref h0, .int a1] none := by
  refine Ct.mk (by decide) rfl (Nat.le_of_ble_eq_true rfl) ?_
  intro p e s m args below meth c A ls hx hb hr hml hts hown hlocks hA hE hP hD hS hl hAe
  have hown : s.vm.findClass RX1 = some m.cls := hown
  have hl : lv_has ls 3 [(0, .ref h0), (1, .int a1)] := hl
  have w1 := hts (.fieldLink RX1 25 "RainVault$Roof" "conditions" "I") (List.mem_of_getElem? (i := 1) rfl)
  have L12 : ∀ (kx : Rf → Option (Rf)) (k : Nat) (R : Rf) (x2 : Int32) (H : Heap) (locs : List Loc) (ls : Array Slot), fX1_removeCondition_L12 kx k R x2 = some R' → va_P g.1 vwK (wRf g h0 h1 h2 h3 R) H → va_D A (wRf g h0 h1 h2 h3 R) → va_S A s.heap H locs → lv_has ls 3 [(0, .ref h0), (2, .int x2)] → (∀ (R : Rf) (H : Heap) (locs : List Loc) (ls : Array Slot), kx R = some R' → va_P g.1 vwK (wRf g h0 h1 h2 h3 R) H → va_D A (wRf g h0 h1 h2 h3 R) → va_S A s.heap H locs → lv_has ls 3 [] → W p l e (rmm 2 46) s m args below meth c H locs 0 0 (MQ below (QcG g (wRf g h0 h1 h2 h3 R) (wRf g h0 h1 h2 h3 (R')) none s.heap.size) args s 0 0 A) (F0 m 55 ls [])) → W p l e (rmm 2 46) s m args below meth c H locs 0 0 (MQ below (QcG g (wRf g h0 h1 h2 h3 R) (wRf g h0 h1 h2 h3 (R')) none s.heap.size) args s 0 0 A) (F0 m 12 ls []) := by
    intro kx k
    induction k with
    | zero => intro R x2 H locs ls hf; exact nomatch (show (none : Option (Rf)) = some _ from hf)
    | succ k ih =>
      intro R x2 H locs ls hf hP hD hS hl hk
      rw [fX1_removeCondition_L12] at hf
      refine lv_iload_n hx hb dX1_removeCondition_12 rfl (lv_at hl 1 rfl) ?_
      refine lv_aload_n hx hb dX1_removeCondition_13 rfl (lv_at hl 0 rfl) ?_
      refine va_get (D := g.1) (ci := 1) (v := .int R.2.2.2.2.1) (C := RX1) (T := TX1) (N := 9) hx hb hts i_X1_removeCondition_X1 hown hE.1 hP 0 rfl rfl 4 (by decide) w1 (fun _ h9 => h9) rfl dX1_removeCondition_14 ?_
      refine lv_icmp_ge (tgt := 55) hx hb dX1_removeCondition_17 (by decide) (fun hc => ?_) (fun hc => ?_)
      · have hf := if_t hf hc
        exact hk _ _ _ _  hf hP hD hS (lv_sub hl [] rfl)
      · have hf := if_f hf hc
        refine lv_aload_n hx hb dX1_removeCondition_20 rfl (lv_at hl 0 rfl) ?_
        refine lv_iload_n hx hb dX1_removeCondition_21 rfl (lv_at hl 1 rfl) ?_
        refine lv_aload_n hx hb dX1_removeCondition_22 rfl (lv_at hl 0 rfl) ?_
        refine lv_iload_n hx hb dX1_removeCondition_23 rfl (lv_at hl 1 rfl) ?_
        refine lv_iconst (v := (1 : Int32)) hx hb dX1_removeCondition_24 (by decide) ?_
        refine lv_iadd hx hb dX1_removeCondition_25 ?_
        refine lv_iconst (v := (0 : Int32)) hx hb dX1_removeCondition_26 (by decide) ?_
        obtain ⟨x105, hg, hf⟩ := o1_s hf
        refine Ct.callV (ws' := wRf g h0 h1 h2 h3 R) (As := [.int (x2 + (1 : Int32)), .int (0 : Int32)]) (rest := [.int x2, .ref h0]) (st1 := [.int x105, .int x2, .ref h0]) (c_X1_conditionFact l g h0 h1 h2 h3 R (x2 + (1 : Int32)) (0 : Int32) hg) (cwV 2 hts gX1_removeCondition_X1_conditionFact rfl rfl rfl q_X1_conditionFact ⟨Nat.le_of_ble_eq_true rfl, Nat.le_of_ble_eq_true rfl⟩) ⟨hx, hb, hml, hown, hts⟩ hE hP hD hS hA [0, 1, 2, 3] rfl rfl rfl rfl 1 0 rfl rfl rfl rfl hl.1 rfl rfl (Nat.le_of_ble_eq_true rfl) dX1_removeCondition_27 (fun H locs hP hD hS => ?_)
        refine lv_aload_n hx hb dX1_removeCondition_30 rfl (lv_at hl 0 rfl) ?_
        refine lv_iload_n hx hb dX1_removeCondition_31 rfl (lv_at hl 1 rfl) ?_
        refine lv_iconst (v := (1 : Int32)) hx hb dX1_removeCondition_32 (by decide) ?_
        refine lv_iadd hx hb dX1_removeCondition_33 ?_
        refine lv_iconst (v := (1 : Int32)) hx hb dX1_removeCondition_34 (by decide) ?_
        obtain ⟨x106, hg, hf⟩ := o1_s hf
        refine Ct.callV (ws' := wRf g h0 h1 h2 h3 R) (As := [.int (x2 + (1 : Int32)), .int (1 : Int32)]) (rest := [.int x105, .int x2, .ref h0]) (st1 := [.int x106, .int x105, .int x2, .ref h0]) (c_X1_conditionFact l g h0 h1 h2 h3 R (x2 + (1 : Int32)) (1 : Int32) hg) (cwV 2 hts gX1_removeCondition_X1_conditionFact rfl rfl rfl q_X1_conditionFact ⟨Nat.le_of_ble_eq_true rfl, Nat.le_of_ble_eq_true rfl⟩) ⟨hx, hb, hml, hown, hts⟩ hE hP hD hS hA [0, 1, 2, 3] rfl rfl rfl rfl 1 0 rfl rfl rfl rfl hl.1 rfl rfl (Nat.le_of_ble_eq_true rfl) dX1_removeCondition_35 (fun H locs hP hD hS => ?_)
        refine lv_aload_n hx hb dX1_removeCondition_38 rfl (lv_at hl 0 rfl) ?_
        refine lv_iload_n hx hb dX1_removeCondition_39 rfl (lv_at hl 1 rfl) ?_
        refine lv_iconst (v := (1 : Int32)) hx hb dX1_removeCondition_40 (by decide) ?_
        refine lv_iadd hx hb dX1_removeCondition_41 ?_
        refine lv_iconst (v := (2 : Int32)) hx hb dX1_removeCondition_42 (by decide) ?_
        obtain ⟨x107, hg, hf⟩ := o1_s hf
        refine Ct.callV (ws' := wRf g h0 h1 h2 h3 R) (As := [.int (x2 + (1 : Int32)), .int (2 : Int32)]) (rest := [.int x106, .int x105, .int x2, .ref h0]) (st1 := [.int x107, .int x106, .int x105, .int x2, .ref h0]) (c_X1_conditionFact l g h0 h1 h2 h3 R (x2 + (1 : Int32)) (2 : Int32) hg) (cwV 2 hts gX1_removeCondition_X1_conditionFact rfl rfl rfl q_X1_conditionFact ⟨Nat.le_of_ble_eq_true rfl, Nat.le_of_ble_eq_true rfl⟩) ⟨hx, hb, hml, hown, hts⟩ hE hP hD hS hA [0, 1, 2, 3] rfl rfl rfl rfl 1 0 rfl rfl rfl rfl hl.1 rfl rfl (Nat.le_of_ble_eq_true rfl) dX1_removeCondition_43 (fun H locs hP hD hS => ?_)
        obtain ⟨R108, hg, hf⟩ := o1_s hf
        refine Ct.callV (ws' := wRf g h0 h1 h2 h3 R108) (As := [.int x2, .int x105, .int x106, .int x107]) (rest := []) (st1 := []) (c_X1_setCondition l g h0 h1 h2 h3 R x2 x105 x106 x107 hg) (cwV 4 hts gX1_removeCondition_X1_setCondition rfl rfl rfl q_X1_setCondition ⟨Nat.le_of_ble_eq_true rfl, Nat.le_of_ble_eq_true rfl⟩) ⟨hx, hb, hml, hown, hts⟩ hE hP hD hS hA [0, 1, 2, 3] rfl rfl rfl rfl 1 0 rfl rfl rfl rfl hl.1 rfl rfl (Nat.le_of_ble_eq_true rfl) dX1_removeCondition_46 (fun H locs hP hD hS => ?_)
        refine lv_iinc (v := (x2 + (1 : Int32))) (lv' := [(2, .int (x2 + (1 : Int32))), (0, .ref h0)]) hx hb dX1_removeCondition_49 hl (k := 1) rfl rfl (by decide) rfl (fun ls hl => ?_)
        refine lv_goto (tgt := 12) hx hb dX1_removeCondition_52 (by decide) ?_
        exact ih _ _ _ _ _  hf hP hD hS (lv_sub hl [1, 0] rfl) hk
  unfold fX1_removeCondition at hf
  refine lv_aload_n hx hb dX1_removeCondition_0 rfl (lv_at hl 0 rfl) ?_
  refine lv_dup hx hb dX1_removeCondition_1 rfl ?_
  refine va_get (D := g.1) (ci := 1) (v := .int R.2.2.2.2.1) (C := RX1) (T := TX1) (N := 9) hx hb hts i_X1_removeCondition_X1 hown hE.1 hP 0 rfl rfl 4 (by decide) w1 (fun _ h9 => h9) rfl dX1_removeCondition_2 ?_
  refine lv_iconst (v := (1 : Int32)) hx hb dX1_removeCondition_5 (by decide) ?_
  refine lv_isub hx hb dX1_removeCondition_6 ?_
  refine va_put (D := g.1) (ci := 1) (v := .int (R.2.2.2.2.1 - (1 : Int32))) (ty := .int) (C := RX1) (T := TX1) (N := 9) hx hb hts i_X1_removeCondition_X1 tyX1 tyX1_ok nmX1 hown hE.1 hP hD hS 0 rfl rfl 4 (by decide) w1 (fun _ h9 => h9) rfl (by decide +kernel) rfl rfl (by decide) dX1_removeCondition_7 (fun H locs hP hD hS => ?_)
  have hP : va_P g.1 vwK (wRf g h0 h1 h2 h3 (R.1, R.2.1, R.2.2.1, R.2.2.2.1, (R.2.2.2.2.1 - (1 : Int32)), R.2.2.2.2.2.1, R.2.2.2.2.2.2.1, R.2.2.2.2.2.2.2.1, R.2.2.2.2.2.2.2.2)) H := hP
  have hD : va_D A (wRf g h0 h1 h2 h3 (R.1, R.2.1, R.2.2.1, R.2.2.2.1, (R.2.2.2.2.1 - (1 : Int32)), R.2.2.2.2.2.1, R.2.2.2.2.2.2.1, R.2.2.2.2.2.2.2.1, R.2.2.2.2.2.2.2.2)) := hD
  refine lv_iload_n hx hb dX1_removeCondition_10 rfl (lv_at hl 1 rfl) ?_
  refine lv_istore_n (lv' := [(2, .int a1), (0, .ref h0), (1, .int a1)]) hx hb dX1_removeCondition_11 rfl hl (by decide) rfl (fun ls hl => ?_)
  refine L12 _ _ _ _ _ _ _  hf hP hD hS (lv_sub hl [1, 0] rfl) (fun R109 H locs ls hf hP hD hS hl => ?_)
  cases hf
  exact Ct.vret hx hb hr hlocks hAe hP hD hS dX1_removeCondition_55
def fX1_spotsInUse_L4 (R : Rf) (kx : Int32 → Option (Int32)) : Nat → Int32 → Int32 → Option (Int32)
  | 0, _, _ => none
  | k + 1, x1, x2 => if (10 : Int32) ≤ x2 then (kx x1) else (rd R.2.2.1 10 x2 (fun x102 => if x102 < 0 then (fX1_spotsInUse_L4 R kx k x1 (x2 + (1 : Int32))) else (fX1_spotsInUse_L4 R kx k (x1 + (1 : Int32)) (x2 + (1 : Int32)))))
def fX1_spotsInUse (R : Rf) : Option (Int32) := fX1_spotsInUse_L4 R (fun x103 => some x103) fu (0 : Int32) (0 : Int32)
theorem q_X1_spotsInUse : yX1_spotsInUse.cls = RX1 ∧ yX1_spotsInUse.cls ≠ "java/lang/invoke/MethodHandle" ∧ yX1_spotsInUse.cls ≠ "java/lang/invoke/VarHandle" ∧ (parseMethodDescriptor yX1_spotsInUse.desc).map (fun d => d.parameters.length) = some 0 := by decide +kernel
theorem i_X1_spotsInUse_X1 : ∀ w ∈ u_ws RX1 TX1 9, w ∈ wsX1_spotsInUse := fun _ h => List.mem_cons_of_mem _ (List.mem_append_right _ (h))
set_option maxHeartbeats 4000000 in
set_option maxRecDepth 100000 in
theorem c_X1_spotsInUse (l : Launch) (g : gG) (h0 h1 h2 h3 : Nat) (R : Rf) {r : Int32} (hf : fX1_spotsInUse R = some r) : Ct l yX1_spotsInUse wsX1_spotsInUse (rmm 0 0) g (wRf g h0 h1 h2 h3 R) (wRf g h0 h1 h2 h3 R) [.ref h0] (some (.int r)) := by
  refine Ct.mk (by decide) rfl (Nat.le_of_ble_eq_true rfl) ?_
  intro p e s m args below meth c A ls hx hb hr hml hts hown hlocks hA hE hP hD hS hl hAe
  have hown : s.vm.findClass RX1 = some m.cls := hown
  have hl : lv_has ls 3 [(0, .ref h0)] := hl
  have w1 := hts (.fieldLink RX1 18 "RainVault$Roof" "spots" "[I") (List.mem_of_getElem? (i := 1) rfl)
  have L4 : ∀ (kx : Int32 → Option (Int32)) (k : Nat) (x1 : Int32) (x2 : Int32) (H : Heap) (locs : List Loc) (ls : Array Slot), fX1_spotsInUse_L4 R kx k x1 x2 = some r → va_P g.1 vwK (wRf g h0 h1 h2 h3 R) H → va_D A (wRf g h0 h1 h2 h3 R) → va_S A s.heap H locs → lv_has ls 3 [(0, .ref h0), (1, .int x1), (2, .int x2)] → (∀ (x1 : Int32) (H : Heap) (locs : List Loc) (ls : Array Slot), kx x1 = some r → va_P g.1 vwK (wRf g h0 h1 h2 h3 R) H → va_D A (wRf g h0 h1 h2 h3 R) → va_S A s.heap H locs → lv_has ls 3 [(1, .int x1)] → W p l e (rmm 0 0) s m args below meth c H locs 0 0 (MQ below (QcG g (wRf g h0 h1 h2 h3 R) (wRf g h0 h1 h2 h3 R) (some (.int r)) s.heap.size) args s 0 0 A) (F0 m 31 ls [])) → W p l e (rmm 0 0) s m args below meth c H locs 0 0 (MQ below (QcG g (wRf g h0 h1 h2 h3 R) (wRf g h0 h1 h2 h3 R) (some (.int r)) s.heap.size) args s 0 0 A) (F0 m 4 ls []) := by
    intro kx k
    induction k with
    | zero => intro x1 x2 H locs ls hf; exact nomatch (show (none : Option (Int32)) = some _ from hf)
    | succ k ih =>
      intro x1 x2 H locs ls hf hP hD hS hl hk
      rw [fX1_spotsInUse_L4] at hf
      refine lv_iload_n hx hb dX1_spotsInUse_4 rfl (lv_at hl 2 rfl) ?_
      refine lv_aload_n hx hb dX1_spotsInUse_5 rfl (lv_at hl 0 rfl) ?_
      refine va_get (D := g.1) (ci := 1) (v := .ref h3) (C := RX1) (T := TX1) (N := 9) hx hb hts i_X1_spotsInUse_X1 hown hE.1 hP 0 rfl rfl 2 (by decide) w1 (fun _ h9 => h9) rfl dX1_spotsInUse_6 ?_
      refine va_alen (v := (10 : Int32)) hx hb hE.1 hP 3 0 rfl rfl (show Int32.ofNat 10 = (10 : Int32) by decide) dX1_spotsInUse_9 ?_
      refine lv_icmp_ge (tgt := 31) hx hb dX1_spotsInUse_10 (by decide) (fun hc => ?_) (fun hc => ?_)
      · have hf := if_t hf hc
        exact hk _ _ _ _  hf hP hD hS (lv_sub hl [1] rfl)
      · have hf := if_f hf hc
        refine lv_aload_n hx hb dX1_spotsInUse_13 rfl (lv_at hl 0 rfl) ?_
        refine va_get (D := g.1) (ci := 1) (v := .ref h3) (C := RX1) (T := TX1) (N := 9) hx hb hts i_X1_spotsInUse_X1 hown hE.1 hP 0 rfl rfl 2 (by decide) w1 (fun _ h9 => h9) rfl dX1_spotsInUse_14 ?_
        refine lv_iload_n hx hb dX1_spotsInUse_17 rfl (lv_at hl 2 rfl) ?_
        obtain ⟨x102, ex, hin, hf⟩ := rd_s hf
        refine st_iald (f := R.2.2.1) hx hb hE.1 hP 3 0 rfl rfl hin ex dX1_spotsInUse_18 ?_
        refine lv_if_lt (tgt := 25) hx hb dX1_spotsInUse_19 (by decide) (fun hc => ?_) (fun hc => ?_)
        · have hf := if_t hf hc
          refine lv_iinc (v := (x2 + (1 : Int32))) (lv' := [(2, .int (x2 + (1 : Int32))), (0, .ref h0), (1, .int x1)]) hx hb dX1_spotsInUse_25 hl (k := 2) rfl rfl (by decide) rfl (fun ls hl => ?_)
          refine lv_goto (tgt := 4) hx hb dX1_spotsInUse_28 (by decide) ?_
          exact ih _ _ _ _ _  hf hP hD hS (lv_sub hl [1, 2, 0] rfl) hk
        · have hf := if_f hf hc
          refine lv_iinc (v := (x1 + (1 : Int32))) (lv' := [(1, .int (x1 + (1 : Int32))), (0, .ref h0), (2, .int x2)]) hx hb dX1_spotsInUse_22 hl (k := 1) rfl rfl (by decide) rfl (fun ls hl => ?_)
          refine lv_iinc (v := (x2 + (1 : Int32))) (lv' := [(2, .int (x2 + (1 : Int32))), (1, .int (x1 + (1 : Int32))), (0, .ref h0)]) hx hb dX1_spotsInUse_25 hl (k := 2) rfl rfl (by decide) rfl (fun ls hl => ?_)
          refine lv_goto (tgt := 4) hx hb dX1_spotsInUse_28 (by decide) ?_
          exact ih _ _ _ _ _  hf hP hD hS (lv_sub hl [2, 1, 0] rfl) hk
  unfold fX1_spotsInUse at hf
  refine lv_iconst (v := (0 : Int32)) hx hb dX1_spotsInUse_0 (by decide) ?_
  refine lv_istore_n (lv' := [(1, .int (0 : Int32)), (0, .ref h0)]) hx hb dX1_spotsInUse_1 rfl hl (by decide) rfl (fun ls hl => ?_)
  refine lv_iconst (v := (0 : Int32)) hx hb dX1_spotsInUse_2 (by decide) ?_
  refine lv_istore_n (lv' := [(2, .int (0 : Int32)), (1, .int (0 : Int32)), (0, .ref h0)]) hx hb dX1_spotsInUse_3 rfl hl (by decide) rfl (fun ls hl => ?_)
  refine L4 _ _ _ _ _ _ _  hf hP hD hS (lv_sub hl [2, 1, 0] rfl) (fun x103 H locs ls hf hP hD hS hl => ?_)
  refine lv_iload_n hx hb dX1_spotsInUse_31 rfl (lv_at hl 0 rfl) ?_
  cases hf
  exact Ct.iret hx hb hr hlocks hAe hP hD hS dX1_spotsInUse_32
def fX2_begin_L12 (kx : Sh → Option (Sh)) : Nat → Sh → Int32 → Option (Sh)
  | 0, _, _ => none
  | k + 1, E, x3 => if (40 : Int32) ≤ x3 then (kx E) else (wr E.1 40 x3 (0 : Int32) (fun f102 => fX2_begin_L12 kx k (f102, E.2.1, E.2.2) (x3 + (1 : Int32))))
def fX2_begin (E : Sh) (a1 : Int32) (a2 : Int32) : Option (Sh) := fX2_begin_L12 (fun E103 => some E103) fu (E.1, a1, a2) (0 : Int32)
theorem q_X2_begin : yX2_begin.cls = RX2 ∧ yX2_begin.cls ≠ "java/lang/invoke/MethodHandle" ∧ yX2_begin.cls ≠ "java/lang/invoke/VarHandle" ∧ (parseMethodDescriptor yX2_begin.desc).map (fun d => d.parameters.length) = some 2 := by decide +kernel
theorem i_X2_begin_X2 : ∀ w ∈ u_ws RX2 TX2 3, w ∈ wsX2_begin := fun _ h => List.mem_cons_of_mem _ (List.mem_append_right _ (h))
set_option maxHeartbeats 4000000 in
set_option maxRecDepth 100000 in
theorem c_X2_begin (l : Launch) (g : gG) (e0 e1 : Nat) (E : Sh) (a1 : Int32) (a2 : Int32) {E' : Sh} (hf : fX2_begin E a1 a2 = some E') : Ct l yX2_begin wsX2_begin (rmm 0 0) g (wSh g e0 e1 E) (wSh g e0 e1 (E')) [.ref e0, .int a1, .int a2] none := by
  refine Ct.mk (by decide) rfl (Nat.le_of_ble_eq_true rfl) ?_
  intro p e s m args below meth c A ls hx hb hr hml hts hown hlocks hA hE hP hD hS hl hAe
  have hown : s.vm.findClass RX2 = some m.cls := hown
  have hl : lv_has ls 4 [(0, .ref e0), (1, .int a1), (2, .int a2)] := hl
  have w1 := hts (.fieldLink RX2 15 "RainVault$Sheet" "bits" "I") (List.mem_of_getElem? (i := 1) rfl)
  have w2 := hts (.fieldLink RX2 19 "RainVault$Sheet" "length" "I") (List.mem_of_getElem? (i := 2) rfl)
  have w3 := hts (.fieldLink RX2 9 "RainVault$Sheet" "numbers" "[I") (List.mem_of_getElem? (i := 3) rfl)
  have L12 : ∀ (kx : Sh → Option (Sh)) (k : Nat) (E : Sh) (x3 : Int32) (H : Heap) (locs : List Loc) (ls : Array Slot), fX2_begin_L12 kx k E x3 = some E' → va_P g.1 vwK (wSh g e0 e1 E) H → va_D A (wSh g e0 e1 E) → va_S A s.heap H locs → lv_has ls 4 [(0, .ref e0), (3, .int x3)] → (∀ (E : Sh) (H : Heap) (locs : List Loc) (ls : Array Slot), kx E = some E' → va_P g.1 vwK (wSh g e0 e1 E) H → va_D A (wSh g e0 e1 E) → va_S A s.heap H locs → lv_has ls 4 [] → W p l e (rmm 0 0) s m args below meth c H locs 0 0 (MQ below (QcG g (wSh g e0 e1 E) (wSh g e0 e1 (E')) none s.heap.size) args s 0 0 A) (F0 m 34 ls [])) → W p l e (rmm 0 0) s m args below meth c H locs 0 0 (MQ below (QcG g (wSh g e0 e1 E) (wSh g e0 e1 (E')) none s.heap.size) args s 0 0 A) (F0 m 12 ls []) := by
    intro kx k
    induction k with
    | zero => intro E x3 H locs ls hf; exact nomatch (show (none : Option (Sh)) = some _ from hf)
    | succ k ih =>
      intro E x3 H locs ls hf hP hD hS hl hk
      rw [fX2_begin_L12] at hf
      refine lv_iload_n hx hb dX2_begin_12 rfl (lv_at hl 1 rfl) ?_
      refine lv_aload_n hx hb dX2_begin_13 rfl (lv_at hl 0 rfl) ?_
      refine va_get (D := g.1) (ci := 2) (v := .ref e1) (C := RX2) (T := TX2) (N := 3) hx hb hts i_X2_begin_X2 hown hE.1 hP 0 rfl rfl 0 (by decide) w3 (fun _ h9 => h9) rfl dX2_begin_14 ?_
      refine va_alen (v := (40 : Int32)) hx hb hE.1 hP 1 0 rfl rfl (show Int32.ofNat 40 = (40 : Int32) by decide) dX2_begin_17 ?_
      refine lv_icmp_ge (tgt := 34) hx hb dX2_begin_18 (by decide) (fun hc => ?_) (fun hc => ?_)
      · have hf := if_t hf hc
        exact hk _ _ _ _  hf hP hD hS (lv_sub hl [] rfl)
      · have hf := if_f hf hc
        refine lv_aload_n hx hb dX2_begin_21 rfl (lv_at hl 0 rfl) ?_
        refine va_get (D := g.1) (ci := 2) (v := .ref e1) (C := RX2) (T := TX2) (N := 3) hx hb hts i_X2_begin_X2 hown hE.1 hP 0 rfl rfl 0 (by decide) w3 (fun _ h9 => h9) rfl dX2_begin_22 ?_
        refine lv_iload_n hx hb dX2_begin_25 rfl (lv_at hl 1 rfl) ?_
        refine lv_iconst (v := (0 : Int32)) hx hb dX2_begin_26 (by decide) ?_
        obtain ⟨f102, ef, hin, hf⟩ := wr_s hf
        refine st_iast (ws' := wSh g e0 e1 (f102, E.2.1, E.2.2)) (f := E.1) (f2 := f102) hx hb hE.1 hP hD hS 1 0 rfl rfl hin ef rfl dX2_begin_27 (fun H locs hP hD hS => ?_)
        refine lv_iinc (v := (x3 + (1 : Int32))) (lv' := [(3, .int (x3 + (1 : Int32))), (0, .ref e0)]) hx hb dX2_begin_28 hl (k := 1) rfl rfl (by decide) rfl (fun ls hl => ?_)
        refine lv_goto (tgt := 12) hx hb dX2_begin_31 (by decide) ?_
        exact ih _ _ _ _ _  hf hP hD hS (lv_sub hl [1, 0] rfl) hk
  unfold fX2_begin at hf
  refine lv_aload_n hx hb dX2_begin_0 rfl (lv_at hl 0 rfl) ?_
  refine lv_iload_n hx hb dX2_begin_1 rfl (lv_at hl 1 rfl) ?_
  refine va_put (D := g.1) (ci := 2) (v := .int a1) (ty := .int) (C := RX2) (T := TX2) (N := 3) hx hb hts i_X2_begin_X2 tyX2 tyX2_ok nmX2 hown hE.1 hP hD hS 0 rfl rfl 1 (by decide) w1 (fun _ h9 => h9) rfl (by decide +kernel) rfl rfl (by decide) dX2_begin_2 (fun H locs hP hD hS => ?_)
  have hP : va_P g.1 vwK (wSh g e0 e1 (E.1, a1, E.2.2)) H := hP
  have hD : va_D A (wSh g e0 e1 (E.1, a1, E.2.2)) := hD
  refine lv_aload_n hx hb dX2_begin_5 rfl (lv_at hl 0 rfl) ?_
  refine lv_iload_n hx hb dX2_begin_6 rfl (lv_at hl 2 rfl) ?_
  refine va_put (D := g.1) (ci := 2) (v := .int a2) (ty := .int) (C := RX2) (T := TX2) (N := 3) hx hb hts i_X2_begin_X2 tyX2 tyX2_ok nmX2 hown hE.1 hP hD hS 0 rfl rfl 2 (by decide) w2 (fun _ h9 => h9) rfl (by decide +kernel) rfl rfl (by decide) dX2_begin_7 (fun H locs hP hD hS => ?_)
  have hP : va_P g.1 vwK (wSh g e0 e1 (E.1, a1, a2)) H := hP
  have hD : va_D A (wSh g e0 e1 (E.1, a1, a2)) := hD
  refine lv_iconst (v := (0 : Int32)) hx hb dX2_begin_10 (by decide) ?_
  refine lv_istore_n (lv' := [(3, .int (0 : Int32)), (0, .ref e0), (1, .int a1), (2, .int a2)]) hx hb dX2_begin_11 rfl hl (by decide) rfl (fun ls hl => ?_)
  refine L12 _ _ _ _ _ _ _  hf hP hD hS (lv_sub hl [1, 0] rfl) (fun E103 H locs ls hf hP hD hS hl => ?_)
  cases hf
  exact Ct.vret hx hb hr hlocks hAe hP hD hS dX2_begin_34
def fX2_isMissing (E : Sh) : Option (Int32) := if E.2.1 = 0 then (some (1 : Int32)) else (some (0 : Int32))
theorem q_X2_isMissing : yX2_isMissing.cls = RX2 ∧ yX2_isMissing.cls ≠ "java/lang/invoke/MethodHandle" ∧ yX2_isMissing.cls ≠ "java/lang/invoke/VarHandle" ∧ (parseMethodDescriptor yX2_isMissing.desc).map (fun d => d.parameters.length) = some 0 := by decide +kernel
theorem i_X2_isMissing_X2 : ∀ w ∈ u_ws RX2 TX2 3, w ∈ wsX2_isMissing := fun _ h => List.mem_cons_of_mem _ (List.mem_append_right _ (h))
set_option maxHeartbeats 4000000 in
set_option maxRecDepth 100000 in
theorem c_X2_isMissing (l : Launch) (g : gG) (e0 e1 : Nat) (E : Sh) {r : Int32} (hf : fX2_isMissing E = some r) : Ct l yX2_isMissing wsX2_isMissing (rmm 0 0) g (wSh g e0 e1 E) (wSh g e0 e1 E) [.ref e0] (some (.int r)) := by
  refine Ct.mk (by decide) rfl (Nat.le_of_ble_eq_true rfl) ?_
  intro p e s m args below meth c A ls hx hb hr hml hts hown hlocks hA hE hP hD hS hl hAe
  have hown : s.vm.findClass RX2 = some m.cls := hown
  have hl : lv_has ls 1 [(0, .ref e0)] := hl
  have w1 := hts (.fieldLink RX2 15 "RainVault$Sheet" "bits" "I") (List.mem_of_getElem? (i := 1) rfl)
  unfold fX2_isMissing at hf
  refine lv_aload_n hx hb dX2_isMissing_0 rfl (lv_at hl 0 rfl) ?_
  refine va_get (D := g.1) (ci := 2) (v := .int E.2.1) (C := RX2) (T := TX2) (N := 3) hx hb hts i_X2_isMissing_X2 hown hE.1 hP 0 rfl rfl 1 (by decide) w1 (fun _ h9 => h9) rfl dX2_isMissing_1 ?_
  refine lv_if_ne (tgt := 11) hx hb dX2_isMissing_4 (by decide) (fun hc => ?_) (fun hc => ?_)
  · have hf := if_f hf hc
    refine lv_iconst (v := (0 : Int32)) hx hb dX2_isMissing_11 (by decide) ?_
    cases hf
    exact Ct.zret hx hb hr (by decide) hlocks hAe hP hD hS dX2_isMissing_12
  · have hf := if_t hf hc
    refine lv_iconst (v := (1 : Int32)) hx hb dX2_isMissing_7 (by decide) ?_
    refine lv_goto (tgt := 12) hx hb dX2_isMissing_8 (by decide) ?_
    cases hf
    exact Ct.zret hx hb hr (by decide) hlocks hAe hP hD hS dX2_isMissing_12
def fX2_hasRange (E : Sh) (a1 : Int32) (a2 : Int32) : Option (Int32) := if a1 < 0 then (some (0 : Int32)) else (if a2 < 0 then (some (0 : Int32)) else (if (if (40 : Int32) < E.2.2 then (40 : Int32) else E.2.2) < a1 then (some (0 : Int32)) else (if ((if (40 : Int32) < E.2.2 then (40 : Int32) else E.2.2) - a1) < a2 then (some (0 : Int32)) else (some (1 : Int32)))))
theorem q_X2_hasRange : yX2_hasRange.cls = RX2 ∧ yX2_hasRange.cls ≠ "java/lang/invoke/MethodHandle" ∧ yX2_hasRange.cls ≠ "java/lang/invoke/VarHandle" ∧ (parseMethodDescriptor yX2_hasRange.desc).map (fun d => d.parameters.length) = some 2 := by decide +kernel
theorem i_X2_hasRange_X2 : ∀ w ∈ u_ws RX2 TX2 3, w ∈ wsX2_hasRange := fun _ h => List.mem_cons_of_mem _ (List.mem_append_right _ (h))
set_option maxHeartbeats 4000000 in
set_option maxRecDepth 100000 in
theorem c_X2_hasRange (l : Launch) (g : gG) (e0 e1 : Nat) (E : Sh) (a1 : Int32) (a2 : Int32) {r : Int32} (hf : fX2_hasRange E a1 a2 = some r) : Ct l yX2_hasRange wsX2_hasRange (rmm 1 40) g (wSh g e0 e1 E) (wSh g e0 e1 E) [.ref e0, .int a1, .int a2] (some (.int r)) := by
  refine Ct.mk (by decide) rfl (Nat.le_of_ble_eq_true rfl) ?_
  intro p e s m args below meth c A ls hx hb hr hml hts hown hlocks hA hE hP hD hS hl hAe
  have hown : s.vm.findClass RX2 = some m.cls := hown
  have hl : lv_has ls 4 [(0, .ref e0), (1, .int a1), (2, .int a2)] := hl
  have w1 := hts (.fieldLink RX2 19 "RainVault$Sheet" "length" "I") (List.mem_of_getElem? (i := 1) rfl)
  have w2 := hts (.fieldLink RX2 9 "RainVault$Sheet" "numbers" "[I") (List.mem_of_getElem? (i := 2) rfl)
  have w3 := hts (.methodLink RX2 22 Lib.Math.min.name) (List.mem_of_getElem? (i := 3) rfl)
  have w4 := hts (.static Lib.Math.min.name) (List.mem_of_getElem? (i := 4) rfl)
  have w5 := hts (.initialized "java/lang/Math") (List.mem_of_getElem? (i := 5) rfl)
  have w6 := hts (.code Lib.Math.min.name Lib.Math.min.code 2 (some .int)) (List.mem_of_getElem? (i := 6) rfl)
  unfold fX2_hasRange at hf
  refine lv_aload_n hx hb dX2_hasRange_0 rfl (lv_at hl 0 rfl) ?_
  refine va_get (D := g.1) (ci := 2) (v := .int E.2.2) (C := RX2) (T := TX2) (N := 3) hx hb hts i_X2_hasRange_X2 hown hE.1 hP 0 rfl rfl 2 (by decide) w1 (fun _ h9 => h9) rfl dX2_hasRange_1 ?_
  refine lv_aload_n hx hb dX2_hasRange_4 rfl (lv_at hl 0 rfl) ?_
  refine va_get (D := g.1) (ci := 2) (v := .ref e1) (C := RX2) (T := TX2) (N := 3) hx hb hts i_X2_hasRange_X2 hown hE.1 hP 0 rfl rfl 0 (by decide) w2 (fun _ h9 => h9) rfl dX2_hasRange_5 ?_
  refine va_alen (v := (40 : Int32)) hx hb hE.1 hP 1 0 rfl rfl (show Int32.ofNat 40 = (40 : Int32) by decide) dX2_hasRange_8 ?_
  refine va_mmin hx hb (hml.trans hl.1.symm) hown w3 w4 w5 w6 (Nat.le_of_ble_eq_true rfl) (Nat.le_of_ble_eq_true rfl) (Nat.zero_le _) (Nat.zero_le _) dX2_hasRange_9 ?_
  refine lv_istore_n (lv' := [(3, .int (if (40 : Int32) < E.2.2 then (40 : Int32) else E.2.2)), (0, .ref e0), (1, .int a1), (2, .int a2)]) hx hb dX2_hasRange_12 rfl hl (by decide) rfl (fun ls hl => ?_)
  refine lv_iload_n hx hb dX2_hasRange_13 rfl (lv_at hl 2 rfl) ?_
  refine lv_if_lt (tgt := 37) hx hb dX2_hasRange_14 (by decide) (fun hc => ?_) (fun hc => ?_)
  · have hf := if_t hf hc
    refine lv_iconst (v := (0 : Int32)) hx hb dX2_hasRange_37 (by decide) ?_
    cases hf
    exact Ct.zret hx hb hr (by decide) hlocks hAe hP hD hS dX2_hasRange_38
  · have hf := if_f hf hc
    refine lv_iload_n hx hb dX2_hasRange_17 rfl (lv_at hl 3 rfl) ?_
    refine lv_if_lt (tgt := 37) hx hb dX2_hasRange_18 (by decide) (fun hc => ?_) (fun hc => ?_)
    · have hf := if_t hf hc
      refine lv_iconst (v := (0 : Int32)) hx hb dX2_hasRange_37 (by decide) ?_
      cases hf
      exact Ct.zret hx hb hr (by decide) hlocks hAe hP hD hS dX2_hasRange_38
    · have hf := if_f hf hc
      refine lv_iload_n hx hb dX2_hasRange_21 rfl (lv_at hl 2 rfl) ?_
      refine lv_iload_n hx hb dX2_hasRange_22 rfl (lv_at hl 0 rfl) ?_
      refine lv_icmp_gt (tgt := 37) hx hb dX2_hasRange_23 (by decide) (fun hc => ?_) (fun hc => ?_)
      · have hf := if_t hf hc
        refine lv_iconst (v := (0 : Int32)) hx hb dX2_hasRange_37 (by decide) ?_
        cases hf
        exact Ct.zret hx hb hr (by decide) hlocks hAe hP hD hS dX2_hasRange_38
      · have hf := if_f hf hc
        refine lv_iload_n hx hb dX2_hasRange_26 rfl (lv_at hl 3 rfl) ?_
        refine lv_iload_n hx hb dX2_hasRange_27 rfl (lv_at hl 0 rfl) ?_
        refine lv_iload_n hx hb dX2_hasRange_28 rfl (lv_at hl 2 rfl) ?_
        refine lv_isub hx hb dX2_hasRange_29 ?_
        refine lv_icmp_gt (tgt := 37) hx hb dX2_hasRange_30 (by decide) (fun hc => ?_) (fun hc => ?_)
        · have hf := if_t hf hc
          refine lv_iconst (v := (0 : Int32)) hx hb dX2_hasRange_37 (by decide) ?_
          cases hf
          exact Ct.zret hx hb hr (by decide) hlocks hAe hP hD hS dX2_hasRange_38
        · have hf := if_f hf hc
          refine lv_iconst (v := (1 : Int32)) hx hb dX2_hasRange_33 (by decide) ?_
          refine lv_goto (tgt := 38) hx hb dX2_hasRange_34 (by decide) ?_
          cases hf
          exact Ct.zret hx hb hr (by decide) hlocks hAe hP hD hS dX2_hasRange_38
def fX2_putLowest (E : Sh) (a1 : Int32) (a2 : Int32) : Option (Sh) := if E.2.1 = (8 : Int32) then (o1 (fX6_put 40 E.1 a1 a2.toInt8.toInt32) (fun f103 => some (f103, E.2.1, E.2.2))) else (if E.2.1 = (16 : Int32) then (o1 (fX6_put 40 E.1 a1 a2.toInt16.toInt32) (fun f102 => some (f102, E.2.1, E.2.2))) else (o1 (fX6_put 40 E.1 a1 a2) (fun f101 => some (f101, E.2.1, E.2.2))))
theorem q_X2_putLowest : yX2_putLowest.cls = RX2 ∧ yX2_putLowest.cls ≠ "java/lang/invoke/MethodHandle" ∧ yX2_putLowest.cls ≠ "java/lang/invoke/VarHandle" ∧ (parseMethodDescriptor yX2_putLowest.desc).map (fun d => d.parameters.length) = some 2 := by decide +kernel
theorem i_X2_putLowest_X2 : ∀ w ∈ u_ws RX2 TX2 3, w ∈ wsX2_putLowest := fun _ h => List.mem_cons_of_mem _ (List.mem_append_right _ (h))
set_option maxHeartbeats 4000000 in
set_option maxRecDepth 100000 in
theorem c_X2_putLowest (l : Launch) (g : gG) (e0 e1 : Nat) (E : Sh) (a1 : Int32) (a2 : Int32) {E' : Sh} (hf : fX2_putLowest E a1 a2 = some E') : Ct l yX2_putLowest wsX2_putLowest (rmm 1 22) g (wSh g e0 e1 E) (wSh g e0 e1 (E')) [.ref e0, .int a1, .int a2] none := by
  refine Ct.mk (by decide) rfl (Nat.le_of_ble_eq_true rfl) ?_
  intro p e s m args below meth c A ls hx hb hr hml hts hown hlocks hA hE hP hD hS hl hAe
  have hown : s.vm.findClass RX2 = some m.cls := hown
  have hl : lv_has ls 3 [(0, .ref e0), (1, .int a1), (2, .int a2)] := hl
  have w1 := hts (.fieldLink RX2 15 "RainVault$Sheet" "bits" "I") (List.mem_of_getElem? (i := 1) rfl)
  have w2 := hts (.fieldLink RX2 9 "RainVault$Sheet" "numbers" "[I") (List.mem_of_getElem? (i := 2) rfl)
  have w3 := hts (.initialized RX6) (List.mem_of_getElem? (i := 4) rfl)
  have w4 := hts (.static yX6_put) (List.mem_of_getElem? (i := 3) rfl)
  unfold fX2_putLowest at hf
  refine lv_aload_n hx hb dX2_putLowest_0 rfl (lv_at hl 0 rfl) ?_
  refine va_get (D := g.1) (ci := 2) (v := .int E.2.1) (C := RX2) (T := TX2) (N := 3) hx hb hts i_X2_putLowest_X2 hown hE.1 hP 0 rfl rfl 1 (by decide) w1 (fun _ h9 => h9) rfl dX2_putLowest_1 ?_
  refine lv_bipush (v := (8 : Int32)) hx hb dX2_putLowest_4 (by decide) ?_
  refine lv_icmp_ne (tgt := 22) hx hb dX2_putLowest_6 (by decide) (fun hc => ?_) (fun hc => ?_)
  · have hf := if_f hf hc
    refine lv_aload_n hx hb dX2_putLowest_22 rfl (lv_at hl 0 rfl) ?_
    refine va_get (D := g.1) (ci := 2) (v := .int E.2.1) (C := RX2) (T := TX2) (N := 3) hx hb hts i_X2_putLowest_X2 hown hE.1 hP 0 rfl rfl 1 (by decide) w1 (fun _ h9 => h9) rfl dX2_putLowest_23 ?_
    refine lv_bipush (v := (16 : Int32)) hx hb dX2_putLowest_26 (by decide) ?_
    refine lv_icmp_ne (tgt := 44) hx hb dX2_putLowest_28 (by decide) (fun hc => ?_) (fun hc => ?_)
    · have hf := if_f hf hc
      refine lv_aload_n hx hb dX2_putLowest_44 rfl (lv_at hl 0 rfl) ?_
      refine va_get (D := g.1) (ci := 2) (v := .ref e1) (C := RX2) (T := TX2) (N := 3) hx hb hts i_X2_putLowest_X2 hown hE.1 hP 0 rfl rfl 0 (by decide) w2 (fun _ h9 => h9) rfl dX2_putLowest_45 ?_
      refine lv_iload_n hx hb dX2_putLowest_48 rfl (lv_at hl 1 rfl) ?_
      refine lv_iload_n hx hb dX2_putLowest_49 rfl (lv_at hl 2 rfl) ?_
      obtain ⟨f101, hg, hf⟩ := o1_s hf
      refine Ct.callSN (ws' := wSh g e0 e1 (f101, E.2.1, E.2.2)) (As := [.ref e1, .int a1, .int a2]) (rest := []) (st1 := []) (c_X6_put l g e1 40 E.1 a1 a2 hg) (⟨va_cnB 3 hts gX2_putLowest_X6_put_n28 rfl rfl rfl (hE.2.1 _ (List.mem_of_getElem? (i := 42) rfl)) w3 q_X6_put.2 ⟨Nat.le_of_ble_eq_true rfl, Nat.le_of_ble_eq_true rfl⟩, w4, trivial⟩) ⟨hx, hb, hml, hown, hts⟩ hE hP hD hS hA [1] rfl rfl rfl rfl rfl hl.1 rfl rfl (Nat.le_of_ble_eq_true rfl) dX2_putLowest_50 (fun H locs hP hD hS => ?_)
      cases hf
      exact Ct.vret hx hb hr hlocks hAe hP hD hS dX2_putLowest_53
    · have hf := if_t hf hc
      refine lv_aload_n hx hb dX2_putLowest_31 rfl (lv_at hl 0 rfl) ?_
      refine va_get (D := g.1) (ci := 2) (v := .ref e1) (C := RX2) (T := TX2) (N := 3) hx hb hts i_X2_putLowest_X2 hown hE.1 hP 0 rfl rfl 0 (by decide) w2 (fun _ h9 => h9) rfl dX2_putLowest_32 ?_
      refine lv_iload_n hx hb dX2_putLowest_35 rfl (lv_at hl 1 rfl) ?_
      refine lv_iload_n hx hb dX2_putLowest_36 rfl (lv_at hl 2 rfl) ?_
      refine lv_i2s (v := a2.toInt16.toInt32) hx hb dX2_putLowest_37 rfl ?_
      obtain ⟨f102, hg, hf⟩ := o1_s hf
      refine Ct.callSN (ws' := wSh g e0 e1 (f102, E.2.1, E.2.2)) (As := [.ref e1, .int a1, .int a2.toInt16.toInt32]) (rest := []) (st1 := []) (c_X6_put l g e1 40 E.1 a1 a2.toInt16.toInt32 hg) (⟨va_cnB 3 hts gX2_putLowest_X6_put_n28 rfl rfl rfl (hE.2.1 _ (List.mem_of_getElem? (i := 42) rfl)) w3 q_X6_put.2 ⟨Nat.le_of_ble_eq_true rfl, Nat.le_of_ble_eq_true rfl⟩, w4, trivial⟩) ⟨hx, hb, hml, hown, hts⟩ hE hP hD hS hA [1] rfl rfl rfl rfl rfl hl.1 rfl rfl (Nat.le_of_ble_eq_true rfl) dX2_putLowest_38 (fun H locs hP hD hS => ?_)
      refine lv_goto (tgt := 53) hx hb dX2_putLowest_41 (by decide) ?_
      cases hf
      exact Ct.vret hx hb hr hlocks hAe hP hD hS dX2_putLowest_53
  · have hf := if_t hf hc
    refine lv_aload_n hx hb dX2_putLowest_9 rfl (lv_at hl 0 rfl) ?_
    refine va_get (D := g.1) (ci := 2) (v := .ref e1) (C := RX2) (T := TX2) (N := 3) hx hb hts i_X2_putLowest_X2 hown hE.1 hP 0 rfl rfl 0 (by decide) w2 (fun _ h9 => h9) rfl dX2_putLowest_10 ?_
    refine lv_iload_n hx hb dX2_putLowest_13 rfl (lv_at hl 1 rfl) ?_
    refine lv_iload_n hx hb dX2_putLowest_14 rfl (lv_at hl 2 rfl) ?_
    refine lv_i2b (v := a2.toInt8.toInt32) hx hb dX2_putLowest_15 rfl ?_
    obtain ⟨f103, hg, hf⟩ := o1_s hf
    refine Ct.callSN (ws' := wSh g e0 e1 (f103, E.2.1, E.2.2)) (As := [.ref e1, .int a1, .int a2.toInt8.toInt32]) (rest := []) (st1 := []) (c_X6_put l g e1 40 E.1 a1 a2.toInt8.toInt32 hg) (⟨va_cnB 3 hts gX2_putLowest_X6_put_n28 rfl rfl rfl (hE.2.1 _ (List.mem_of_getElem? (i := 42) rfl)) w3 q_X6_put.2 ⟨Nat.le_of_ble_eq_true rfl, Nat.le_of_ble_eq_true rfl⟩, w4, trivial⟩) ⟨hx, hb, hml, hown, hts⟩ hE hP hD hS hA [1] rfl rfl rfl rfl rfl hl.1 rfl rfl (Nat.le_of_ble_eq_true rfl) dX2_putLowest_16 (fun H locs hP hD hS => ?_)
    refine lv_goto (tgt := 53) hx hb dX2_putLowest_19 (by decide) ?_
    cases hf
    exact Ct.vret hx hb hr hlocks hAe hP hD hS dX2_putLowest_53
def fX3_begin (S : Sv) (R : Rf) (N : Rf) (a1 : Int32) : Option (Sv × Rf) := o1 (fX1_become R N) (fun R101 => o1 (fX1_keepLevels R101 48 S.2.1 (0 : Int32)) (fun f102 => some ((S.1, f102, S.2.2.1, a1, S.2.2.2.2.1, S.2.2.2.2.2.1, S.2.2.2.2.2.2), R101)))
theorem q_X3_begin : yX3_begin.cls = RX3 ∧ yX3_begin.cls ≠ "java/lang/invoke/MethodHandle" ∧ yX3_begin.cls ≠ "java/lang/invoke/VarHandle" ∧ (parseMethodDescriptor yX3_begin.desc).map (fun d => d.parameters.length) = some 2 := by decide +kernel
theorem i_X3_begin_X3 : ∀ w ∈ u_ws RX3 TX3 8, w ∈ wsX3_begin := fun _ h => List.mem_cons_of_mem _ (List.mem_append_left _ (List.mem_append_right _ (h)))
set_option maxHeartbeats 4000000 in
set_option maxRecDepth 100000 in
theorem c_X3_begin (l : Launch) (g : gG) (s0 s1 s2 s3 h0 h1 h2 h3 i0 i1 i2 i3 : Nat) (S : Sv) (R : Rf) (N : Rf) (a1 : Int32) {S' : Sv} {R' : Rf} (hf : fX3_begin S R N a1 = some (S', R')) : Ct l yX3_begin wsX3_begin (rmm 3 102) g (wSv2 g s0 s1 s2 s3 h0 h1 h2 h3 i0 i1 i2 i3 S R N) (wSv2 g s0 s1 s2 s3 h0 h1 h2 h3 i0 i1 i2 i3 (S') (R') N) [.ref s0, .ref i0, .int a1] none := by
  refine Ct.mk (by decide) rfl (Nat.le_of_ble_eq_true rfl) ?_
  intro p e s m args below meth c A ls hx hb hr hml hts hown hlocks hA hE hP hD hS hl hAe
  have hown : s.vm.findClass RX3 = some m.cls := hown
  have hl : lv_has ls 3 [(0, .ref s0), (1, .ref i0), (2, .int a1)] := hl
  have w1 := hts (.fieldLink RX3 34 "RainVault$Survey" "trial" "LRainVault$Roof;") (List.mem_of_getElem? (i := 1) rfl)
  have w2 := hts (.fieldLink RX3 21 "RainVault$Survey" "hours" "I") (List.mem_of_getElem? (i := 2) rfl)
  have w3 := hts (.fieldLink RX3 15 "RainVault$Survey" "levels" "[I") (List.mem_of_getElem? (i := 3) rfl)
  unfold fX3_begin at hf
  refine lv_aload_n hx hb dX3_begin_0 rfl (lv_at hl 0 rfl) ?_
  refine va_get (D := g.1) (ci := 3) (v := .ref h0) (C := RX3) (T := TX3) (N := 8) hx hb hts i_X3_begin_X3 hown hE.1 hP 0 rfl rfl 0 (by decide) w1 (fun _ h9 => h9) rfl dX3_begin_1 ?_
  refine lv_aload_n hx hb dX3_begin_4 rfl (lv_at hl 1 rfl) ?_
  obtain ⟨R101, hg, hf⟩ := o1_s hf
  refine Ct.callV (ws' := wSv2 g s0 s1 s2 s3 h0 h1 h2 h3 i0 i1 i2 i3 S R101 N) (As := [.ref i0]) (rest := []) (st1 := []) (c_X1_become l g h0 h1 h2 h3 i0 i1 i2 i3 R N hg) (cwV 1 hts gX3_begin_X1_become rfl rfl rfl q_X1_become ⟨Nat.le_of_ble_eq_true rfl, Nat.le_of_ble_eq_true rfl⟩) ⟨hx, hb, hml, hown, hts⟩ hE hP hD hS hA [4, 5, 6, 7, 8, 9, 10, 11] rfl rfl rfl rfl 1 4 rfl rfl rfl rfl hl.1 rfl rfl (Nat.le_of_ble_eq_true rfl) dX3_begin_5 (fun H locs hP hD hS => ?_)
  refine lv_aload_n hx hb dX3_begin_8 rfl (lv_at hl 0 rfl) ?_
  refine lv_iload_n hx hb dX3_begin_9 rfl (lv_at hl 2 rfl) ?_
  refine va_put (D := g.1) (ci := 3) (v := .int a1) (ty := .int) (C := RX3) (T := TX3) (N := 8) hx hb hts i_X3_begin_X3 tyX3 tyX3_ok nmX3 hown hE.1 hP hD hS 0 rfl rfl 4 (by decide) w2 (fun _ h9 => h9) rfl (by decide +kernel) rfl rfl (by decide) dX3_begin_10 (fun H locs hP hD hS => ?_)
  have hP : va_P g.1 vwK (wSv2 g s0 s1 s2 s3 h0 h1 h2 h3 i0 i1 i2 i3 (S.1, S.2.1, S.2.2.1, a1, S.2.2.2.2.1, S.2.2.2.2.2.1, S.2.2.2.2.2.2) R101 N) H := hP
  have hD : va_D A (wSv2 g s0 s1 s2 s3 h0 h1 h2 h3 i0 i1 i2 i3 (S.1, S.2.1, S.2.2.1, a1, S.2.2.2.2.1, S.2.2.2.2.2.1, S.2.2.2.2.2.2) R101 N) := hD
  refine lv_aload_n hx hb dX3_begin_13 rfl (lv_at hl 0 rfl) ?_
  refine va_get (D := g.1) (ci := 3) (v := .ref h0) (C := RX3) (T := TX3) (N := 8) hx hb hts i_X3_begin_X3 hown hE.1 hP 0 rfl rfl 0 (by decide) w1 (fun _ h9 => h9) rfl dX3_begin_14 ?_
  refine lv_aload_n hx hb dX3_begin_17 rfl (lv_at hl 0 rfl) ?_
  refine va_get (D := g.1) (ci := 3) (v := .ref s2) (C := RX3) (T := TX3) (N := 8) hx hb hts i_X3_begin_X3 hown hE.1 hP 0 rfl rfl 2 (by decide) w3 (fun _ h9 => h9) rfl dX3_begin_18 ?_
  refine lv_iconst (v := (0 : Int32)) hx hb dX3_begin_21 (by decide) ?_
  obtain ⟨f102, hg, hf⟩ := o1_s hf
  refine Ct.callV (ws' := wSv2 g s0 s1 s2 s3 h0 h1 h2 h3 i0 i1 i2 i3 (S.1, f102, S.2.2.1, a1, S.2.2.2.2.1, S.2.2.2.2.2.1, S.2.2.2.2.2.2) R101 N) (As := [.ref s2, .int (0 : Int32)]) (rest := []) (st1 := []) (c_X1_keepLevels l g h0 h1 h2 h3 s2 R101 48 S.2.1 (0 : Int32) hg) (cwV 2 hts gX3_begin_X1_keepLevels rfl rfl rfl q_X1_keepLevels ⟨Nat.le_of_ble_eq_true rfl, Nat.le_of_ble_eq_true rfl⟩) ⟨hx, hb, hml, hown, hts⟩ hE hP hD hS hA [4, 5, 6, 7, 2] rfl rfl rfl rfl 1 4 rfl rfl rfl rfl hl.1 rfl rfl (Nat.le_of_ble_eq_true rfl) dX3_begin_22 (fun H locs hP hD hS => ?_)
  cases hf
  exact Ct.vret hx hb hr hlocks hAe hP hD hS dX3_begin_25
def fX3_howMany_L4 (S : Sv) (kx : Int32 → Option (Int32)) : Nat → Int32 → Int32 → Option (Int32)
  | 0, _, _ => none
  | k + 1, x1, x2 => if S.2.2.2.1 ≤ x2 then (kx x1) else (fX3_howMany_L4 S kx k (x1 * (5 : Int32)) (x2 + (1 : Int32)))
def fX3_howMany (S : Sv) : Option (Int32) := fX3_howMany_L4 S (fun x101 => some x101) fu (1 : Int32) (0 : Int32)
theorem q_X3_howMany : yX3_howMany.cls = RX3 ∧ yX3_howMany.cls ≠ "java/lang/invoke/MethodHandle" ∧ yX3_howMany.cls ≠ "java/lang/invoke/VarHandle" ∧ (parseMethodDescriptor yX3_howMany.desc).map (fun d => d.parameters.length) = some 0 := by decide +kernel
theorem i_X3_howMany_X3 : ∀ w ∈ u_ws RX3 TX3 8, w ∈ wsX3_howMany := fun _ h => List.mem_cons_of_mem _ (List.mem_append_right _ (h))
set_option maxHeartbeats 4000000 in
set_option maxRecDepth 100000 in
theorem c_X3_howMany (l : Launch) (g : gG) (s0 s1 s2 s3 h0 h1 h2 h3 : Nat) (S : Sv) (R : Rf) {r : Int32} (hf : fX3_howMany S = some r) : Ct l yX3_howMany wsX3_howMany (rmm 0 0) g (wSv g s0 s1 s2 s3 h0 h1 h2 h3 S R) (wSv g s0 s1 s2 s3 h0 h1 h2 h3 S R) [.ref s0] (some (.int r)) := by
  refine Ct.mk (by decide) rfl (Nat.le_of_ble_eq_true rfl) ?_
  intro p e s m args below meth c A ls hx hb hr hml hts hown hlocks hA hE hP hD hS hl hAe
  have hown : s.vm.findClass RX3 = some m.cls := hown
  have hl : lv_has ls 3 [(0, .ref s0)] := hl
  have w1 := hts (.fieldLink RX3 21 "RainVault$Survey" "hours" "I") (List.mem_of_getElem? (i := 1) rfl)
  have L4 : ∀ (kx : Int32 → Option (Int32)) (k : Nat) (x1 : Int32) (x2 : Int32) (H : Heap) (locs : List Loc) (ls : Array Slot), fX3_howMany_L4 S kx k x1 x2 = some r → va_P g.1 vwK (wSv g s0 s1 s2 s3 h0 h1 h2 h3 S R) H → va_D A (wSv g s0 s1 s2 s3 h0 h1 h2 h3 S R) → va_S A s.heap H locs → lv_has ls 3 [(0, .ref s0), (1, .int x1), (2, .int x2)] → (∀ (x1 : Int32) (H : Heap) (locs : List Loc) (ls : Array Slot), kx x1 = some r → va_P g.1 vwK (wSv g s0 s1 s2 s3 h0 h1 h2 h3 S R) H → va_D A (wSv g s0 s1 s2 s3 h0 h1 h2 h3 S R) → va_S A s.heap H locs → lv_has ls 3 [(1, .int x1)] → W p l e (rmm 0 0) s m args below meth c H locs 0 0 (MQ below (QcG g (wSv g s0 s1 s2 s3 h0 h1 h2 h3 S R) (wSv g s0 s1 s2 s3 h0 h1 h2 h3 S R) (some (.int r)) s.heap.size) args s 0 0 A) (F0 m 22 ls [])) → W p l e (rmm 0 0) s m args below meth c H locs 0 0 (MQ below (QcG g (wSv g s0 s1 s2 s3 h0 h1 h2 h3 S R) (wSv g s0 s1 s2 s3 h0 h1 h2 h3 S R) (some (.int r)) s.heap.size) args s 0 0 A) (F0 m 4 ls []) := by
    intro kx k
    induction k with
    | zero => intro x1 x2 H locs ls hf; exact nomatch (show (none : Option (Int32)) = some _ from hf)
    | succ k ih =>
      intro x1 x2 H locs ls hf hP hD hS hl hk
      rw [fX3_howMany_L4] at hf
      refine lv_iload_n hx hb dX3_howMany_4 rfl (lv_at hl 2 rfl) ?_
      refine lv_aload_n hx hb dX3_howMany_5 rfl (lv_at hl 0 rfl) ?_
      refine va_get (D := g.1) (ci := 3) (v := .int S.2.2.2.1) (C := RX3) (T := TX3) (N := 8) hx hb hts i_X3_howMany_X3 hown hE.1 hP 0 rfl rfl 4 (by decide) w1 (fun _ h9 => h9) rfl dX3_howMany_6 ?_
      refine lv_icmp_ge (tgt := 22) hx hb dX3_howMany_9 (by decide) (fun hc => ?_) (fun hc => ?_)
      · have hf := if_t hf hc
        exact hk _ _ _ _  hf hP hD hS (lv_sub hl [1] rfl)
      · have hf := if_f hf hc
        refine lv_iload_n hx hb dX3_howMany_12 rfl (lv_at hl 1 rfl) ?_
        refine lv_iconst (v := (5 : Int32)) hx hb dX3_howMany_13 (by decide) ?_
        refine lv_imul hx hb dX3_howMany_14 ?_
        refine lv_istore_n (lv' := [(1, .int (x1 * (5 : Int32))), (0, .ref s0), (2, .int x2)]) hx hb dX3_howMany_15 rfl hl (by decide) rfl (fun ls hl => ?_)
        refine lv_iinc (v := (x2 + (1 : Int32))) (lv' := [(2, .int (x2 + (1 : Int32))), (1, .int (x1 * (5 : Int32))), (0, .ref s0)]) hx hb dX3_howMany_16 hl (k := 2) rfl rfl (by decide) rfl (fun ls hl => ?_)
        refine lv_goto (tgt := 4) hx hb dX3_howMany_19 (by decide) ?_
        exact ih _ _ _ _ _  hf hP hD hS (lv_sub hl [2, 1, 0] rfl) hk
  unfold fX3_howMany at hf
  refine lv_iconst (v := (1 : Int32)) hx hb dX3_howMany_0 (by decide) ?_
  refine lv_istore_n (lv' := [(1, .int (1 : Int32)), (0, .ref s0)]) hx hb dX3_howMany_1 rfl hl (by decide) rfl (fun ls hl => ?_)
  refine lv_iconst (v := (0 : Int32)) hx hb dX3_howMany_2 (by decide) ?_
  refine lv_istore_n (lv' := [(2, .int (0 : Int32)), (1, .int (1 : Int32)), (0, .ref s0)]) hx hb dX3_howMany_3 rfl hl (by decide) rfl (fun ls hl => ?_)
  refine L4 _ _ _ _ _ _ _  hf hP hD hS (lv_sub hl [2, 1, 0] rfl) (fun x101 H locs ls hf hP hD hS hl => ?_)
  refine lv_iload_n hx hb dX3_howMany_22 rfl (lv_at hl 0 rfl) ?_
  cases hf
  exact Ct.iret hx hb hr hlocks hAe hP hD hS dX3_howMany_23
def fX3_passRain_L15 (x1 : Int32) (kx : Sv → Int32 → Option (Sv × Rf)) : Nat → Sv → Int32 → Int32 → Int32 → Option (Sv × Rf)
  | 0, _, _, _, _ => none
  | k + 1, S, x2, x3, x4 => if x4 < 0 then (kx S x2) else (if x1 = 0 then (o1 (fX6_put 5 S.1 x4 (x3 - x3 / (5 : Int32) * (5 : Int32))) (fun f104 => fX3_passRain_L15 x1 kx k (f104, S.2.1, S.2.2.1, S.2.2.2.1, S.2.2.2.2.1, S.2.2.2.2.2.1, S.2.2.2.2.2.2) x4 (x3 / (5 : Int32)) (x4 + (-1 : Int32)))) else (o1 (fX6_at 5 S.1 x4) (fun x105 => if (x3 - x3 / (5 : Int32) * (5 : Int32)) = x105 then (fX3_passRain_L15 x1 kx k S x2 (x3 / (5 : Int32)) (x4 + (-1 : Int32))) else (o1 (fX6_put 5 S.1 x4 (x3 - x3 / (5 : Int32) * (5 : Int32))) (fun f106 => fX3_passRain_L15 x1 kx k (f106, S.2.1, S.2.2.1, S.2.2.2.1, S.2.2.2.2.1, S.2.2.2.2.2.1, S.2.2.2.2.2.2) x4 (x3 / (5 : Int32)) (x4 + (-1 : Int32)))))))
def fX3_passRain_L85 (kx : Sv → Rf → Option (Sv × Rf)) : Nat → Sv → Rf → Int32 → Option (Sv × Rf)
  | 0, _, _, _ => none
  | k + 1, S, R, x4 => if S.2.2.2.1 ≤ x4 then (kx S R) else (o1 (fX6_at 5 S.1 x4) (fun x116 => o1 (fX6_sideOf x116) (fun x117 => if x116 = 0 then (o1 (fX1_passHour R x117 (0 : Int32)) (fun R120 => o1 (fX1_keepLevels R120 48 S.2.1 ((x4 + (1 : Int32)) * (8 : Int32))) (fun f121 => fX3_passRain_L85 kx k (S.1, f121, S.2.2.1, S.2.2.2.1, S.2.2.2.2.1, S.2.2.2.2.2.1, S.2.2.2.2.2.2) R120 (x4 + (1 : Int32))))) else (o1 (fX1_passHour R x117 (3 : Int32)) (fun R118 => o1 (fX1_keepLevels R118 48 S.2.1 ((x4 + (1 : Int32)) * (8 : Int32))) (fun f119 => fX3_passRain_L85 kx k (S.1, f119, S.2.2.1, S.2.2.2.1, S.2.2.2.2.1, S.2.2.2.2.2.1, S.2.2.2.2.2.2) R118 (x4 + (1 : Int32))))))))
def fX3_passRain (S : Sv) (R : Rf) (a1 : Int32) : Option (Sv × Rf) := fX3_passRain_L15 a1 (fun S107 x108 => o1 (fX1_takeLevels R 48 S107.2.1 (x108 * (8 : Int32))) (fun R109 => fX3_passRain_L85 (fun S122 R123 => some (S122, R123)) fu S107 R109 x108)) fu S S.2.2.2.1 a1 (S.2.2.2.1 - (1 : Int32))
theorem q_X3_passRain : yX3_passRain.cls = RX3 ∧ yX3_passRain.cls ≠ "java/lang/invoke/MethodHandle" ∧ yX3_passRain.cls ≠ "java/lang/invoke/VarHandle" ∧ (parseMethodDescriptor yX3_passRain.desc).map (fun d => d.parameters.length) = some 1 := by decide +kernel
theorem i_X3_passRain_X3 : ∀ w ∈ u_ws RX3 TX3 8, w ∈ wsX3_passRain := fun _ h => List.mem_cons_of_mem _ (List.mem_append_left _ (List.mem_append_right _ (h)))
set_option maxHeartbeats 4000000 in
set_option maxRecDepth 100000 in
theorem c_X3_passRain (l : Launch) (g : gG) (s0 s1 s2 s3 h0 h1 h2 h3 : Nat) (S : Sv) (R : Rf) (a1 : Int32) {S' : Sv} {R' : Rf} (hf : fX3_passRain S R a1 = some (S', R')) : Ct l yX3_passRain wsX3_passRain (rmm 4 93) g (wSv g s0 s1 s2 s3 h0 h1 h2 h3 S R) (wSv g s0 s1 s2 s3 h0 h1 h2 h3 (S') (R')) [.ref s0, .int a1] none := by
  refine Ct.mk (by decide) rfl (Nat.le_of_ble_eq_true rfl) ?_
  intro p e s m args below meth c A ls hx hb hr hml hts hown hlocks hA hE hP hD hS hl hAe
  have hown : s.vm.findClass RX3 = some m.cls := hown
  have hl : lv_has ls 6 [(0, .ref s0), (1, .int a1)] := hl
  have w1 := hts (.fieldLink RX3 21 "RainVault$Survey" "hours" "I") (List.mem_of_getElem? (i := 1) rfl)
  have w2 := hts (.fieldLink RX3 9 "RainVault$Survey" "signs" "[I") (List.mem_of_getElem? (i := 2) rfl)
  have w3 := hts (.initialized RX6) (List.mem_of_getElem? (i := 6) rfl)
  have w4 := hts (.static yX6_put) (List.mem_of_getElem? (i := 8) rfl)
  have w5 := hts (.static yX6_at) (List.mem_of_getElem? (i := 5) rfl)
  have w6 := hts (.fieldLink RX3 34 "RainVault$Survey" "trial" "LRainVault$Roof;") (List.mem_of_getElem? (i := 3) rfl)
  have w7 := hts (.fieldLink RX3 15 "RainVault$Survey" "levels" "[I") (List.mem_of_getElem? (i := 4) rfl)
  have w8 := hts (.static yX6_sideOf) (List.mem_of_getElem? (i := 21) rfl)
  have L15 : ∀ (R : Rf) (x1 : Int32) (kx : Sv → Int32 → Option (Sv × Rf)) (k : Nat) (S : Sv) (x2 : Int32) (x3 : Int32) (x4 : Int32) (H : Heap) (locs : List Loc) (ls : Array Slot), fX3_passRain_L15 x1 kx k S x2 x3 x4 = some (S', R') → va_P g.1 vwK (wSv g s0 s1 s2 s3 h0 h1 h2 h3 S R) H → va_D A (wSv g s0 s1 s2 s3 h0 h1 h2 h3 S R) → va_S A s.heap H locs → lv_has ls 6 [(0, .ref s0), (1, .int x1), (2, .int x2), (3, .int x3), (4, .int x4)] → (∀ (S : Sv) (x2 : Int32) (H : Heap) (locs : List Loc) (ls : Array Slot), kx S x2 = some (S', R') → va_P g.1 vwK (wSv g s0 s1 s2 s3 h0 h1 h2 h3 S R) H → va_D A (wSv g s0 s1 s2 s3 h0 h1 h2 h3 S R) → va_S A s.heap H locs → lv_has ls 6 [(0, .ref s0), (2, .int x2)] → W p l e (rmm 4 93) s m args below meth c H locs 0 0 (MQ below (QcG g (wSv g s0 s1 s2 s3 h0 h1 h2 h3 S R) (wSv g s0 s1 s2 s3 h0 h1 h2 h3 (S') (R')) none s.heap.size) args s 0 0 A) (F0 m 67 ls [])) → W p l e (rmm 4 93) s m args below meth c H locs 0 0 (MQ below (QcG g (wSv g s0 s1 s2 s3 h0 h1 h2 h3 S R) (wSv g s0 s1 s2 s3 h0 h1 h2 h3 (S') (R')) none s.heap.size) args s 0 0 A) (F0 m 15 ls []) := by
    intro R x1 kx k
    induction k with
    | zero => intro S x2 x3 x4 H locs ls hf; exact nomatch (show (none : Option (Sv × Rf)) = some _ from hf)
    | succ k ih =>
      intro S x2 x3 x4 H locs ls hf hP hD hS hl hk
      rw [fX3_passRain_L15] at hf
      refine lv_iload hx hb dX3_passRain_15 (lv_at hl 4 rfl) ?_
      refine lv_if_lt (tgt := 67) hx hb dX3_passRain_17 (by decide) (fun hc => ?_) (fun hc => ?_)
      · have hf := if_t hf hc
        exact hk _ _ _ _ _  hf hP hD hS (lv_sub hl [0, 2] rfl)
      · have hf := if_f hf hc
        refine lv_iload_n hx hb dX3_passRain_20 rfl (lv_at hl 3 rfl) ?_
        refine lv_iconst (v := (5 : Int32)) hx hb dX3_passRain_21 (by decide) ?_
        refine lv_irem hx hb dX3_passRain_22 (by decide) ?_
        refine lv_istore (lv' := [(5, .int (x3 - x3 / (5 : Int32) * (5 : Int32))), (0, .ref s0), (1, .int x1), (2, .int x2), (3, .int x3), (4, .int x4)]) hx hb dX3_passRain_23 hl (by decide) rfl (fun ls hl => ?_)
        refine lv_iload_n hx hb dX3_passRain_25 rfl (lv_at hl 4 rfl) ?_
        refine lv_iconst (v := (5 : Int32)) hx hb dX3_passRain_26 (by decide) ?_
        refine lv_idiv hx hb dX3_passRain_27 (by decide) ?_
        refine lv_istore_n (lv' := [(3, .int (x3 / (5 : Int32))), (5, .int (x3 - x3 / (5 : Int32) * (5 : Int32))), (0, .ref s0), (1, .int x1), (2, .int x2), (4, .int x4)]) hx hb dX3_passRain_28 rfl hl (by decide) rfl (fun ls hl => ?_)
        refine lv_iload_n hx hb dX3_passRain_29 rfl (lv_at hl 3 rfl) ?_
        refine lv_if_eq (tgt := 47) hx hb dX3_passRain_30 (by decide) (fun hc => ?_) (fun hc => ?_)
        · have hf := if_t hf hc
          refine lv_aload_n hx hb dX3_passRain_47 rfl (lv_at hl 2 rfl) ?_
          refine va_get (D := g.1) (ci := 3) (v := .ref s1) (C := RX3) (T := TX3) (N := 8) hx hb hts i_X3_passRain_X3 hown hE.1 hP 0 rfl rfl 1 (by decide) w2 (fun _ h9 => h9) rfl dX3_passRain_48 ?_
          refine lv_iload hx hb dX3_passRain_51 (lv_at hl 5 rfl) ?_
          refine lv_iload hx hb dX3_passRain_53 (lv_at hl 1 rfl) ?_
          obtain ⟨f104, hg, hf⟩ := o1_s hf
          refine Ct.callSN (ws' := wSv g s0 s1 s2 s3 h0 h1 h2 h3 (f104, S.2.1, S.2.2.1, S.2.2.2.1, S.2.2.2.2.1, S.2.2.2.2.2.1, S.2.2.2.2.2.2) R) (As := [.ref s1, .int x4, .int (x3 - x3 / (5 : Int32) * (5 : Int32))]) (rest := []) (st1 := []) (c_X6_put l g s1 5 S.1 x4 (x3 - x3 / (5 : Int32) * (5 : Int32)) hg) (⟨va_cnB 3 hts gX3_passRain_X6_put_n52 rfl rfl rfl (hE.2.1 _ (List.mem_of_getElem? (i := 32) rfl)) w3 q_X6_put.2 ⟨Nat.le_of_ble_eq_true rfl, Nat.le_of_ble_eq_true rfl⟩, w4, trivial⟩) ⟨hx, hb, hml, hown, hts⟩ hE hP hD hS hA [1] rfl rfl rfl rfl rfl hl.1 rfl rfl (Nat.le_of_ble_eq_true rfl) dX3_passRain_55 (fun H locs hP hD hS => ?_)
          refine lv_iload hx hb dX3_passRain_58 (lv_at hl 5 rfl) ?_
          refine lv_istore_n (lv' := [(2, .int x4), (3, .int (x3 / (5 : Int32))), (5, .int (x3 - x3 / (5 : Int32) * (5 : Int32))), (0, .ref s0), (1, .int x1), (4, .int x4)]) hx hb dX3_passRain_60 rfl hl (by decide) rfl (fun ls hl => ?_)
          refine lv_iinc (v := (x4 + (-1 : Int32))) (lv' := [(4, .int (x4 + (-1 : Int32))), (2, .int x4), (3, .int (x3 / (5 : Int32))), (5, .int (x3 - x3 / (5 : Int32) * (5 : Int32))), (0, .ref s0), (1, .int x1)]) hx hb dX3_passRain_61 hl (k := 5) rfl rfl (by decide) rfl (fun ls hl => ?_)
          refine lv_goto (tgt := 15) hx hb dX3_passRain_64 (by decide) ?_
          exact ih _ _ _ _ _ _ _  hf hP hD hS (lv_sub hl [4, 5, 1, 2, 0] rfl) hk
        · have hf := if_f hf hc
          refine lv_iload hx hb dX3_passRain_33 (lv_at hl 1 rfl) ?_
          refine lv_aload_n hx hb dX3_passRain_35 rfl (lv_at hl 2 rfl) ?_
          refine va_get (D := g.1) (ci := 3) (v := .ref s1) (C := RX3) (T := TX3) (N := 8) hx hb hts i_X3_passRain_X3 hown hE.1 hP 0 rfl rfl 1 (by decide) w2 (fun _ h9 => h9) rfl dX3_passRain_36 ?_
          refine lv_iload hx hb dX3_passRain_39 (lv_at hl 5 rfl) ?_
          obtain ⟨x105, hg, hf⟩ := o1_s hf
          refine Ct.callSN (ws' := wSv g s0 s1 s2 s3 h0 h1 h2 h3 S R) (As := [.ref s1, .int x4]) (rest := [.int (x3 - x3 / (5 : Int32) * (5 : Int32))]) (st1 := [.int x105, .int (x3 - x3 / (5 : Int32) * (5 : Int32))]) (c_X6_at l g s1 5 S.1 x4 hg) (⟨va_cnB 2 hts gX3_passRain_X6_at_n48 rfl rfl rfl (hE.2.1 _ (List.mem_of_getElem? (i := 31) rfl)) w3 q_X6_at.2 ⟨Nat.le_of_ble_eq_true rfl, Nat.le_of_ble_eq_true rfl⟩, w5, trivial⟩) ⟨hx, hb, hml, hown, hts⟩ hE hP hD hS hA [1] rfl rfl rfl rfl rfl hl.1 rfl rfl (Nat.le_of_ble_eq_true rfl) dX3_passRain_41 (fun H locs hP hD hS => ?_)
          refine lv_icmp_eq (tgt := 61) hx hb dX3_passRain_44 (by decide) (fun hc => ?_) (fun hc => ?_)
          · have hf := if_t hf hc
            refine lv_iinc (v := (x4 + (-1 : Int32))) (lv' := [(4, .int (x4 + (-1 : Int32))), (3, .int (x3 / (5 : Int32))), (5, .int (x3 - x3 / (5 : Int32) * (5 : Int32))), (0, .ref s0), (1, .int x1), (2, .int x2)]) hx hb dX3_passRain_61 hl (k := 5) rfl rfl (by decide) rfl (fun ls hl => ?_)
            refine lv_goto (tgt := 15) hx hb dX3_passRain_64 (by decide) ?_
            exact ih _ _ _ _ _ _ _  hf hP hD hS (lv_sub hl [3, 4, 5, 1, 0] rfl) hk
          · have hf := if_f hf hc
            refine lv_aload_n hx hb dX3_passRain_47 rfl (lv_at hl 2 rfl) ?_
            refine va_get (D := g.1) (ci := 3) (v := .ref s1) (C := RX3) (T := TX3) (N := 8) hx hb hts i_X3_passRain_X3 hown hE.1 hP 0 rfl rfl 1 (by decide) w2 (fun _ h9 => h9) rfl dX3_passRain_48 ?_
            refine lv_iload hx hb dX3_passRain_51 (lv_at hl 5 rfl) ?_
            refine lv_iload hx hb dX3_passRain_53 (lv_at hl 1 rfl) ?_
            obtain ⟨f106, hg, hf⟩ := o1_s hf
            refine Ct.callSN (ws' := wSv g s0 s1 s2 s3 h0 h1 h2 h3 (f106, S.2.1, S.2.2.1, S.2.2.2.1, S.2.2.2.2.1, S.2.2.2.2.2.1, S.2.2.2.2.2.2) R) (As := [.ref s1, .int x4, .int (x3 - x3 / (5 : Int32) * (5 : Int32))]) (rest := []) (st1 := []) (c_X6_put l g s1 5 S.1 x4 (x3 - x3 / (5 : Int32) * (5 : Int32)) hg) (⟨va_cnB 3 hts gX3_passRain_X6_put_n52 rfl rfl rfl (hE.2.1 _ (List.mem_of_getElem? (i := 32) rfl)) w3 q_X6_put.2 ⟨Nat.le_of_ble_eq_true rfl, Nat.le_of_ble_eq_true rfl⟩, w4, trivial⟩) ⟨hx, hb, hml, hown, hts⟩ hE hP hD hS hA [1] rfl rfl rfl rfl rfl hl.1 rfl rfl (Nat.le_of_ble_eq_true rfl) dX3_passRain_55 (fun H locs hP hD hS => ?_)
            refine lv_iload hx hb dX3_passRain_58 (lv_at hl 5 rfl) ?_
            refine lv_istore_n (lv' := [(2, .int x4), (3, .int (x3 / (5 : Int32))), (5, .int (x3 - x3 / (5 : Int32) * (5 : Int32))), (0, .ref s0), (1, .int x1), (4, .int x4)]) hx hb dX3_passRain_60 rfl hl (by decide) rfl (fun ls hl => ?_)
            refine lv_iinc (v := (x4 + (-1 : Int32))) (lv' := [(4, .int (x4 + (-1 : Int32))), (2, .int x4), (3, .int (x3 / (5 : Int32))), (5, .int (x3 - x3 / (5 : Int32) * (5 : Int32))), (0, .ref s0), (1, .int x1)]) hx hb dX3_passRain_61 hl (k := 5) rfl rfl (by decide) rfl (fun ls hl => ?_)
            refine lv_goto (tgt := 15) hx hb dX3_passRain_64 (by decide) ?_
            exact ih _ _ _ _ _ _ _  hf hP hD hS (lv_sub hl [4, 5, 1, 2, 0] rfl) hk
  have L85 : ∀ (kx : Sv → Rf → Option (Sv × Rf)) (k : Nat) (S : Sv) (R : Rf) (x4 : Int32) (H : Heap) (locs : List Loc) (ls : Array Slot), fX3_passRain_L85 kx k S R x4 = some (S', R') → va_P g.1 vwK (wSv g s0 s1 s2 s3 h0 h1 h2 h3 S R) H → va_D A (wSv g s0 s1 s2 s3 h0 h1 h2 h3 S R) → va_S A s.heap H locs → lv_has ls 6 [(0, .ref s0), (4, .int x4)] → (∀ (S : Sv) (R : Rf) (H : Heap) (locs : List Loc) (ls : Array Slot), kx S R = some (S', R') → va_P g.1 vwK (wSv g s0 s1 s2 s3 h0 h1 h2 h3 S R) H → va_D A (wSv g s0 s1 s2 s3 h0 h1 h2 h3 S R) → va_S A s.heap H locs → lv_has ls 6 [] → W p l e (rmm 4 93) s m args below meth c H locs 0 0 (MQ below (QcG g (wSv g s0 s1 s2 s3 h0 h1 h2 h3 S R) (wSv g s0 s1 s2 s3 h0 h1 h2 h3 (S') (R')) none s.heap.size) args s 0 0 A) (F0 m 151 ls [])) → W p l e (rmm 4 93) s m args below meth c H locs 0 0 (MQ below (QcG g (wSv g s0 s1 s2 s3 h0 h1 h2 h3 S R) (wSv g s0 s1 s2 s3 h0 h1 h2 h3 (S') (R')) none s.heap.size) args s 0 0 A) (F0 m 85 ls []) := by
    intro kx k
    induction k with
    | zero => intro S R x4 H locs ls hf; exact nomatch (show (none : Option (Sv × Rf)) = some _ from hf)
    | succ k ih =>
      intro S R x4 H locs ls hf hP hD hS hl hk
      rw [fX3_passRain_L85] at hf
      refine lv_iload hx hb dX3_passRain_85 (lv_at hl 1 rfl) ?_
      refine lv_aload_n hx hb dX3_passRain_87 rfl (lv_at hl 0 rfl) ?_
      refine va_get (D := g.1) (ci := 3) (v := .int S.2.2.2.1) (C := RX3) (T := TX3) (N := 8) hx hb hts i_X3_passRain_X3 hown hE.1 hP 0 rfl rfl 4 (by decide) w1 (fun _ h9 => h9) rfl dX3_passRain_88 ?_
      refine lv_icmp_ge (tgt := 151) hx hb dX3_passRain_91 (by decide) (fun hc => ?_) (fun hc => ?_)
      · have hf := if_t hf hc
        exact hk _ _ _ _ _  hf hP hD hS (lv_sub hl [] rfl)
      · have hf := if_f hf hc
        refine lv_aload_n hx hb dX3_passRain_94 rfl (lv_at hl 0 rfl) ?_
        refine va_get (D := g.1) (ci := 3) (v := .ref s1) (C := RX3) (T := TX3) (N := 8) hx hb hts i_X3_passRain_X3 hown hE.1 hP 0 rfl rfl 1 (by decide) w2 (fun _ h9 => h9) rfl dX3_passRain_95 ?_
        refine lv_iload hx hb dX3_passRain_98 (lv_at hl 1 rfl) ?_
        obtain ⟨x116, hg, hf⟩ := o1_s hf
        refine Ct.callSN (ws' := wSv g s0 s1 s2 s3 h0 h1 h2 h3 S R) (As := [.ref s1, .int x4]) (rest := []) (st1 := [.int x116]) (c_X6_at l g s1 5 S.1 x4 hg) (⟨va_cnB 2 hts gX3_passRain_X6_at_n48 rfl rfl rfl (hE.2.1 _ (List.mem_of_getElem? (i := 31) rfl)) w3 q_X6_at.2 ⟨Nat.le_of_ble_eq_true rfl, Nat.le_of_ble_eq_true rfl⟩, w5, trivial⟩) ⟨hx, hb, hml, hown, hts⟩ hE hP hD hS hA [1] rfl rfl rfl rfl rfl hl.1 rfl rfl (Nat.le_of_ble_eq_true rfl) dX3_passRain_100 (fun H locs hP hD hS => ?_)
        refine lv_istore (lv' := [(5, .int x116), (0, .ref s0), (4, .int x4)]) hx hb dX3_passRain_103 hl (by decide) rfl (fun ls hl => ?_)
        refine lv_aload_n hx hb dX3_passRain_105 rfl (lv_at hl 1 rfl) ?_
        refine va_get (D := g.1) (ci := 3) (v := .ref h0) (C := RX3) (T := TX3) (N := 8) hx hb hts i_X3_passRain_X3 hown hE.1 hP 0 rfl rfl 0 (by decide) w6 (fun _ h9 => h9) rfl dX3_passRain_106 ?_
        refine lv_iload hx hb dX3_passRain_109 (lv_at hl 0 rfl) ?_
        obtain ⟨x117, hg, hf⟩ := o1_s hf
        refine Ct.callSN (ws' := wSv g s0 s1 s2 s3 h0 h1 h2 h3 S R) (As := [.int x116]) (rest := [.ref h0]) (st1 := [.int x117, .ref h0]) (c_X6_sideOf l g x116 hg) (⟨va_cnB 1 hts gX3_passRain_X6_sideOf_n59 rfl rfl rfl (hE.2.1 _ (List.mem_of_getElem? (i := 33) rfl)) w3 q_X6_sideOf.2 ⟨Nat.le_of_ble_eq_true rfl, Nat.le_of_ble_eq_true rfl⟩, w8, trivial⟩) ⟨hx, hb, hml, hown, hts⟩ hE hP hD hS hA [] rfl rfl rfl rfl rfl hl.1 rfl rfl (Nat.le_of_ble_eq_true rfl) dX3_passRain_111 (fun H locs hP hD hS => ?_)
        refine lv_iload hx hb dX3_passRain_114 (lv_at hl 0 rfl) ?_
        refine lv_if_ne (tgt := 123) hx hb dX3_passRain_116 (by decide) (fun hc => ?_) (fun hc => ?_)
        · have hf := if_f hf hc
          refine lv_iconst (v := (3 : Int32)) hx hb dX3_passRain_123 (by decide) ?_
          obtain ⟨R118, hg, hf⟩ := o1_s hf
          refine Ct.callV (ws' := wSv g s0 s1 s2 s3 h0 h1 h2 h3 S R118) (As := [.int x117, .int (3 : Int32)]) (rest := []) (st1 := []) (c_X1_passHour l g h0 h1 h2 h3 R x117 (3 : Int32) hg) (cwV 2 hts gX3_passRain_X1_passHour rfl rfl rfl q_X1_passHour ⟨Nat.le_of_ble_eq_true rfl, Nat.le_of_ble_eq_true rfl⟩) ⟨hx, hb, hml, hown, hts⟩ hE hP hD hS hA [4, 5, 6, 7] rfl rfl rfl rfl 1 4 rfl rfl rfl rfl hl.1 rfl rfl (Nat.le_of_ble_eq_true rfl) dX3_passRain_124 (fun H locs hP hD hS => ?_)
          refine lv_aload_n hx hb dX3_passRain_127 rfl (lv_at hl 1 rfl) ?_
          refine va_get (D := g.1) (ci := 3) (v := .ref h0) (C := RX3) (T := TX3) (N := 8) hx hb hts i_X3_passRain_X3 hown hE.1 hP 0 rfl rfl 0 (by decide) w6 (fun _ h9 => h9) rfl dX3_passRain_128 ?_
          refine lv_aload_n hx hb dX3_passRain_131 rfl (lv_at hl 1 rfl) ?_
          refine va_get (D := g.1) (ci := 3) (v := .ref s2) (C := RX3) (T := TX3) (N := 8) hx hb hts i_X3_passRain_X3 hown hE.1 hP 0 rfl rfl 2 (by decide) w7 (fun _ h9 => h9) rfl dX3_passRain_132 ?_
          refine lv_iload hx hb dX3_passRain_135 (lv_at hl 2 rfl) ?_
          refine lv_iconst (v := (1 : Int32)) hx hb dX3_passRain_137 (by decide) ?_
          refine lv_iadd hx hb dX3_passRain_138 ?_
          refine lv_bipush (v := (8 : Int32)) hx hb dX3_passRain_139 (by decide) ?_
          refine lv_imul hx hb dX3_passRain_141 ?_
          obtain ⟨f119, hg, hf⟩ := o1_s hf
          refine Ct.callV (ws' := wSv g s0 s1 s2 s3 h0 h1 h2 h3 (S.1, f119, S.2.2.1, S.2.2.2.1, S.2.2.2.2.1, S.2.2.2.2.2.1, S.2.2.2.2.2.2) R118) (As := [.ref s2, .int ((x4 + (1 : Int32)) * (8 : Int32))]) (rest := []) (st1 := []) (c_X1_keepLevels l g h0 h1 h2 h3 s2 R118 48 S.2.1 ((x4 + (1 : Int32)) * (8 : Int32)) hg) (cwV 2 hts gX3_passRain_X1_keepLevels rfl rfl rfl q_X1_keepLevels ⟨Nat.le_of_ble_eq_true rfl, Nat.le_of_ble_eq_true rfl⟩) ⟨hx, hb, hml, hown, hts⟩ hE hP hD hS hA [4, 5, 6, 7, 2] rfl rfl rfl rfl 1 4 rfl rfl rfl rfl hl.1 rfl rfl (Nat.le_of_ble_eq_true rfl) dX3_passRain_142 (fun H locs hP hD hS => ?_)
          refine lv_iinc (v := (x4 + (1 : Int32))) (lv' := [(4, .int (x4 + (1 : Int32))), (5, .int x116), (0, .ref s0)]) hx hb dX3_passRain_145 hl (k := 2) rfl rfl (by decide) rfl (fun ls hl => ?_)
          refine lv_goto (tgt := 85) hx hb dX3_passRain_148 (by decide) ?_
          exact ih _ _ _ _ _ _  hf hP hD hS (lv_sub hl [2, 0] rfl) hk
        · have hf := if_t hf hc
          refine lv_iconst (v := (0 : Int32)) hx hb dX3_passRain_119 (by decide) ?_
          refine lv_goto (tgt := 124) hx hb dX3_passRain_120 (by decide) ?_
          obtain ⟨R120, hg, hf⟩ := o1_s hf
          refine Ct.callV (ws' := wSv g s0 s1 s2 s3 h0 h1 h2 h3 S R120) (As := [.int x117, .int (0 : Int32)]) (rest := []) (st1 := []) (c_X1_passHour l g h0 h1 h2 h3 R x117 (0 : Int32) hg) (cwV 2 hts gX3_passRain_X1_passHour rfl rfl rfl q_X1_passHour ⟨Nat.le_of_ble_eq_true rfl, Nat.le_of_ble_eq_true rfl⟩) ⟨hx, hb, hml, hown, hts⟩ hE hP hD hS hA [4, 5, 6, 7] rfl rfl rfl rfl 1 4 rfl rfl rfl rfl hl.1 rfl rfl (Nat.le_of_ble_eq_true rfl) dX3_passRain_124 (fun H locs hP hD hS => ?_)
          refine lv_aload_n hx hb dX3_passRain_127 rfl (lv_at hl 1 rfl) ?_
          refine va_get (D := g.1) (ci := 3) (v := .ref h0) (C := RX3) (T := TX3) (N := 8) hx hb hts i_X3_passRain_X3 hown hE.1 hP 0 rfl rfl 0 (by decide) w6 (fun _ h9 => h9) rfl dX3_passRain_128 ?_
          refine lv_aload_n hx hb dX3_passRain_131 rfl (lv_at hl 1 rfl) ?_
          refine va_get (D := g.1) (ci := 3) (v := .ref s2) (C := RX3) (T := TX3) (N := 8) hx hb hts i_X3_passRain_X3 hown hE.1 hP 0 rfl rfl 2 (by decide) w7 (fun _ h9 => h9) rfl dX3_passRain_132 ?_
          refine lv_iload hx hb dX3_passRain_135 (lv_at hl 2 rfl) ?_
          refine lv_iconst (v := (1 : Int32)) hx hb dX3_passRain_137 (by decide) ?_
          refine lv_iadd hx hb dX3_passRain_138 ?_
          refine lv_bipush (v := (8 : Int32)) hx hb dX3_passRain_139 (by decide) ?_
          refine lv_imul hx hb dX3_passRain_141 ?_
          obtain ⟨f121, hg, hf⟩ := o1_s hf
          refine Ct.callV (ws' := wSv g s0 s1 s2 s3 h0 h1 h2 h3 (S.1, f121, S.2.2.1, S.2.2.2.1, S.2.2.2.2.1, S.2.2.2.2.2.1, S.2.2.2.2.2.2) R120) (As := [.ref s2, .int ((x4 + (1 : Int32)) * (8 : Int32))]) (rest := []) (st1 := []) (c_X1_keepLevels l g h0 h1 h2 h3 s2 R120 48 S.2.1 ((x4 + (1 : Int32)) * (8 : Int32)) hg) (cwV 2 hts gX3_passRain_X1_keepLevels rfl rfl rfl q_X1_keepLevels ⟨Nat.le_of_ble_eq_true rfl, Nat.le_of_ble_eq_true rfl⟩) ⟨hx, hb, hml, hown, hts⟩ hE hP hD hS hA [4, 5, 6, 7, 2] rfl rfl rfl rfl 1 4 rfl rfl rfl rfl hl.1 rfl rfl (Nat.le_of_ble_eq_true rfl) dX3_passRain_142 (fun H locs hP hD hS => ?_)
          refine lv_iinc (v := (x4 + (1 : Int32))) (lv' := [(4, .int (x4 + (1 : Int32))), (5, .int x116), (0, .ref s0)]) hx hb dX3_passRain_145 hl (k := 2) rfl rfl (by decide) rfl (fun ls hl => ?_)
          refine lv_goto (tgt := 85) hx hb dX3_passRain_148 (by decide) ?_
          exact ih _ _ _ _ _ _  hf hP hD hS (lv_sub hl [2, 0] rfl) hk
  unfold fX3_passRain at hf
  refine lv_aload_n hx hb dX3_passRain_0 rfl (lv_at hl 0 rfl) ?_
  refine va_get (D := g.1) (ci := 3) (v := .int S.2.2.2.1) (C := RX3) (T := TX3) (N := 8) hx hb hts i_X3_passRain_X3 hown hE.1 hP 0 rfl rfl 4 (by decide) w1 (fun _ h9 => h9) rfl dX3_passRain_1 ?_
  refine lv_istore_n (lv' := [(2, .int S.2.2.2.1), (0, .ref s0), (1, .int a1)]) hx hb dX3_passRain_4 rfl hl (by decide) rfl (fun ls hl => ?_)
  refine lv_iload_n hx hb dX3_passRain_5 rfl (lv_at hl 2 rfl) ?_
  refine lv_istore_n (lv' := [(3, .int a1), (2, .int S.2.2.2.1), (0, .ref s0), (1, .int a1)]) hx hb dX3_passRain_6 rfl hl (by decide) rfl (fun ls hl => ?_)
  refine lv_aload_n hx hb dX3_passRain_7 rfl (lv_at hl 2 rfl) ?_
  refine va_get (D := g.1) (ci := 3) (v := .int S.2.2.2.1) (C := RX3) (T := TX3) (N := 8) hx hb hts i_X3_passRain_X3 hown hE.1 hP 0 rfl rfl 4 (by decide) w1 (fun _ h9 => h9) rfl dX3_passRain_8 ?_
  refine lv_iconst (v := (1 : Int32)) hx hb dX3_passRain_11 (by decide) ?_
  refine lv_isub hx hb dX3_passRain_12 ?_
  refine lv_istore (lv' := [(4, .int (S.2.2.2.1 - (1 : Int32))), (3, .int a1), (2, .int S.2.2.2.1), (0, .ref s0), (1, .int a1)]) hx hb dX3_passRain_13 hl (by decide) rfl (fun ls hl => ?_)
  refine L15 _ _ _ _ _ _ _ _ _ _ _  hf hP hD hS (lv_sub hl [3, 4, 2, 1, 0] rfl) (fun S107 x108 H locs ls hf hP hD hS hl => ?_)
  refine lv_aload_n hx hb dX3_passRain_67 rfl (lv_at hl 0 rfl) ?_
  refine va_get (D := g.1) (ci := 3) (v := .ref h0) (C := RX3) (T := TX3) (N := 8) hx hb hts i_X3_passRain_X3 hown hE.1 hP 0 rfl rfl 0 (by decide) w6 (fun _ h9 => h9) rfl dX3_passRain_68 ?_
  refine lv_aload_n hx hb dX3_passRain_71 rfl (lv_at hl 0 rfl) ?_
  refine va_get (D := g.1) (ci := 3) (v := .ref s2) (C := RX3) (T := TX3) (N := 8) hx hb hts i_X3_passRain_X3 hown hE.1 hP 0 rfl rfl 2 (by decide) w7 (fun _ h9 => h9) rfl dX3_passRain_72 ?_
  refine lv_iload_n hx hb dX3_passRain_75 rfl (lv_at hl 1 rfl) ?_
  refine lv_bipush (v := (8 : Int32)) hx hb dX3_passRain_76 (by decide) ?_
  refine lv_imul hx hb dX3_passRain_78 ?_
  obtain ⟨R109, hg, hf⟩ := o1_s hf
  refine Ct.callV (ws' := wSv g s0 s1 s2 s3 h0 h1 h2 h3 S107 R109) (As := [.ref s2, .int (x108 * (8 : Int32))]) (rest := []) (st1 := []) (c_X1_takeLevels l g h0 h1 h2 h3 s2 R 48 S107.2.1 (x108 * (8 : Int32)) hg) (cwV 2 hts gX3_passRain_X1_takeLevels rfl rfl rfl q_X1_takeLevels ⟨Nat.le_of_ble_eq_true rfl, Nat.le_of_ble_eq_true rfl⟩) ⟨hx, hb, hml, hown, hts⟩ hE hP hD hS hA [4, 5, 6, 7, 2] rfl rfl rfl rfl 1 4 rfl rfl rfl rfl hl.1 rfl rfl (Nat.le_of_ble_eq_true rfl) dX3_passRain_79 (fun H locs hP hD hS => ?_)
  refine lv_iload_n hx hb dX3_passRain_82 rfl (lv_at hl 1 rfl) ?_
  refine lv_istore (lv' := [(4, .int x108), (0, .ref s0), (2, .int x108)]) hx hb dX3_passRain_83 hl (by decide) rfl (fun ls hl => ?_)
  refine L85 _ _ _ _ _ _ _ _  hf hP hD hS (lv_sub hl [1, 0] rfl) (fun S122 R123 H locs ls hf hP hD hS hl => ?_)
  cases hf
  exact Ct.vret hx hb hr hlocks hAe hP hD hS dX3_passRain_151
def fX3_note_L34 (S : Sv) (kx : Int32 → Int32 → Option (Sv)) : Nat → Int32 → Int32 → Int32 → Option (Sv)
  | 0, _, _, _ => none
  | k + 1, x1, x2, x3 => if S.2.2.2.1 ≤ x3 then (kx x1 x2) else (o1 (fX6_at 5 S.1 x3) (fun x103 => if x103 ≤ 0 then (fX3_note_L34 S kx k x1 x2 (x3 + (1 : Int32))) else (o1 (fX6_sideOf x103) (fun x104 => fX3_note_L34 S kx k (x1 + (1 : Int32)) (x2 ||| ((1 : Int32) <<< (x104 &&& 31))) (x3 + (1 : Int32))))))
def fX3_note_J18 (S : Sv) : Option (Sv) := fX3_note_L34 (S.1, S.2.1, S.2.2.1, S.2.2.2.1, (S.2.2.2.2.1 + (1 : Int32)), S.2.2.2.2.2.1, S.2.2.2.2.2.2) (fun x105 x106 => some (S.1, S.2.1, S.2.2.1, S.2.2.2.1, (S.2.2.2.2.1 + (1 : Int32)), (if x105 < S.2.2.2.2.2.1 then x105 else S.2.2.2.2.2.1), (S.2.2.2.2.2.2 &&& x106))) fu (0 : Int32) (0 : Int32) (0 : Int32)
def fX3_note (S : Sv) : Option (Sv) := if S.2.2.2.2.1 = 0 then (o1 (fX6_copyRow 5 S.1) (fun f2107 => fX3_note_J18 (S.1, S.2.1, f2107, S.2.2.2.1, S.2.2.2.2.1, S.2.2.2.2.2.1, S.2.2.2.2.2.2))) else (fX3_note_J18 S)
theorem q_X3_note : yX3_note.cls = RX3 ∧ yX3_note.cls ≠ "java/lang/invoke/MethodHandle" ∧ yX3_note.cls ≠ "java/lang/invoke/VarHandle" ∧ (parseMethodDescriptor yX3_note.desc).map (fun d => d.parameters.length) = some 0 := by decide +kernel
theorem i_X3_note_X3 : ∀ w ∈ u_ws RX3 TX3 8, w ∈ wsX3_note := fun _ h => List.mem_cons_of_mem _ (List.mem_append_right _ (h))
set_option maxHeartbeats 4000000 in
set_option maxRecDepth 100000 in
theorem c_X3_note (l : Launch) (g : gG) (s0 s1 s2 s3 h0 h1 h2 h3 : Nat) (S : Sv) (R : Rf) {S' : Sv} (hf : fX3_note S = some S') : Ct l yX3_note wsX3_note (rmm 2 81) g (wSv g s0 s1 s2 s3 h0 h1 h2 h3 S R) (wSv g s0 s1 s2 s3 h0 h1 h2 h3 (S') R) [.ref s0] none := by
  refine Ct.mk (by decide) rfl (Nat.le_of_ble_eq_true rfl) ?_
  intro p e s m args below meth c A ls hx hb hr hml hts hown hlocks hA hE hP hD hS hl hAe
  have hown : s.vm.findClass RX3 = some m.cls := hown
  have hl : lv_has ls 5 [(0, .ref s0)] := hl
  have w1 := hts (.fieldLink RX3 25 "RainVault$Survey" "opening" "I") (List.mem_of_getElem? (i := 1) rfl)
  have w2 := hts (.fieldLink RX3 21 "RainVault$Survey" "hours" "I") (List.mem_of_getElem? (i := 4) rfl)
  have w3 := hts (.fieldLink RX3 9 "RainVault$Survey" "signs" "[I") (List.mem_of_getElem? (i := 2) rfl)
  have w4 := hts (.initialized RX6) (List.mem_of_getElem? (i := 12) rfl)
  have w5 := hts (.static yX6_at) (List.mem_of_getElem? (i := 19) rfl)
  have w6 := hts (.static yX6_sideOf) (List.mem_of_getElem? (i := 21) rfl)
  have w7 := hts (.fieldLink RX3 28 "RainVault$Survey" "fewestWet" "I") (List.mem_of_getElem? (i := 5) rfl)
  have w8 := hts (.methodLink RX3 90 Lib.Math.min.name) (List.mem_of_getElem? (i := 6) rfl)
  have w9 := hts (.static Lib.Math.min.name) (List.mem_of_getElem? (i := 7) rfl)
  have w10 := hts (.initialized "java/lang/Math") (List.mem_of_getElem? (i := 8) rfl)
  have w11 := hts (.code Lib.Math.min.name Lib.Math.min.code 2 (some .int)) (List.mem_of_getElem? (i := 9) rfl)
  have w12 := hts (.fieldLink RX3 31 "RainVault$Survey" "commonSides" "I") (List.mem_of_getElem? (i := 10) rfl)
  have w13 := hts (.fieldLink RX3 18 "RainVault$Survey" "firstSigns" "[I") (List.mem_of_getElem? (i := 3) rfl)
  have w14 := hts (.static yX6_copyRow) (List.mem_of_getElem? (i := 11) rfl)
  have L34 : ∀ (S : Sv) (kx : Int32 → Int32 → Option (Sv)) (k : Nat) (x1 : Int32) (x2 : Int32) (x3 : Int32) (H : Heap) (locs : List Loc) (ls : Array Slot), fX3_note_L34 S kx k x1 x2 x3 = some S' → va_P g.1 vwK (wSv g s0 s1 s2 s3 h0 h1 h2 h3 S R) H → va_D A (wSv g s0 s1 s2 s3 h0 h1 h2 h3 S R) → va_S A s.heap H locs → lv_has ls 5 [(0, .ref s0), (1, .int x1), (2, .int x2), (3, .int x3)] → (∀ (x1 : Int32) (x2 : Int32) (H : Heap) (locs : List Loc) (ls : Array Slot), kx x1 x2 = some S' → va_P g.1 vwK (wSv g s0 s1 s2 s3 h0 h1 h2 h3 S R) H → va_D A (wSv g s0 s1 s2 s3 h0 h1 h2 h3 S R) → va_S A s.heap H locs → lv_has ls 5 [(0, .ref s0), (1, .int x1), (2, .int x2)] → W p l e (rmm 2 81) s m args below meth c H locs 0 0 (MQ below (QcG g (wSv g s0 s1 s2 s3 h0 h1 h2 h3 S R) (wSv g s0 s1 s2 s3 h0 h1 h2 h3 (S') R) none s.heap.size) args s 0 0 A) (F0 m 76 ls [])) → W p l e (rmm 2 81) s m args below meth c H locs 0 0 (MQ below (QcG g (wSv g s0 s1 s2 s3 h0 h1 h2 h3 S R) (wSv g s0 s1 s2 s3 h0 h1 h2 h3 (S') R) none s.heap.size) args s 0 0 A) (F0 m 34 ls []) := by
    intro S kx k
    induction k with
    | zero => intro x1 x2 x3 H locs ls hf; exact nomatch (show (none : Option (Sv)) = some _ from hf)
    | succ k ih =>
      intro x1 x2 x3 H locs ls hf hP hD hS hl hk
      rw [fX3_note_L34] at hf
      refine lv_iload_n hx hb dX3_note_34 rfl (lv_at hl 3 rfl) ?_
      refine lv_aload_n hx hb dX3_note_35 rfl (lv_at hl 0 rfl) ?_
      refine va_get (D := g.1) (ci := 3) (v := .int S.2.2.2.1) (C := RX3) (T := TX3) (N := 8) hx hb hts i_X3_note_X3 hown hE.1 hP 0 rfl rfl 4 (by decide) w2 (fun _ h9 => h9) rfl dX3_note_36 ?_
      refine lv_icmp_ge (tgt := 76) hx hb dX3_note_39 (by decide) (fun hc => ?_) (fun hc => ?_)
      · have hf := if_t hf hc
        exact hk _ _ _ _ _  hf hP hD hS (lv_sub hl [0, 1, 2] rfl)
      · have hf := if_f hf hc
        refine lv_aload_n hx hb dX3_note_42 rfl (lv_at hl 0 rfl) ?_
        refine va_get (D := g.1) (ci := 3) (v := .ref s1) (C := RX3) (T := TX3) (N := 8) hx hb hts i_X3_note_X3 hown hE.1 hP 0 rfl rfl 1 (by decide) w3 (fun _ h9 => h9) rfl dX3_note_43 ?_
        refine lv_iload_n hx hb dX3_note_46 rfl (lv_at hl 3 rfl) ?_
        obtain ⟨x103, hg, hf⟩ := o1_s hf
        refine Ct.callSN (ws' := wSv g s0 s1 s2 s3 h0 h1 h2 h3 S R) (As := [.ref s1, .int x3]) (rest := []) (st1 := [.int x103]) (c_X6_at l g s1 5 S.1 x3 hg) (⟨va_cnB 2 hts gX3_note_X6_at_n48 rfl rfl rfl (hE.2.1 _ (List.mem_of_getElem? (i := 31) rfl)) w4 q_X6_at.2 ⟨Nat.le_of_ble_eq_true rfl, Nat.le_of_ble_eq_true rfl⟩, w5, trivial⟩) ⟨hx, hb, hml, hown, hts⟩ hE hP hD hS hA [1] rfl rfl rfl rfl rfl hl.1 rfl rfl (Nat.le_of_ble_eq_true rfl) dX3_note_47 (fun H locs hP hD hS => ?_)
        refine lv_istore (lv' := [(4, .int x103), (0, .ref s0), (1, .int x1), (2, .int x2), (3, .int x3)]) hx hb dX3_note_50 hl (by decide) rfl (fun ls hl => ?_)
        refine lv_iload hx hb dX3_note_52 (lv_at hl 0 rfl) ?_
        refine lv_if_le (tgt := 70) hx hb dX3_note_54 (by decide) (fun hc => ?_) (fun hc => ?_)
        · have hf := if_t hf hc
          refine lv_iinc (v := (x3 + (1 : Int32))) (lv' := [(3, .int (x3 + (1 : Int32))), (4, .int x103), (0, .ref s0), (1, .int x1), (2, .int x2)]) hx hb dX3_note_70 hl (k := 4) rfl rfl (by decide) rfl (fun ls hl => ?_)
          refine lv_goto (tgt := 34) hx hb dX3_note_73 (by decide) ?_
          exact ih _ _ _ _ _ _  hf hP hD hS (lv_sub hl [2, 3, 4, 0] rfl) hk
        · have hf := if_f hf hc
          refine lv_iinc (v := (x1 + (1 : Int32))) (lv' := [(1, .int (x1 + (1 : Int32))), (4, .int x103), (0, .ref s0), (2, .int x2), (3, .int x3)]) hx hb dX3_note_57 hl (k := 2) rfl rfl (by decide) rfl (fun ls hl => ?_)
          refine lv_iload_n hx hb dX3_note_60 rfl (lv_at hl 3 rfl) ?_
          refine lv_iconst (v := (1 : Int32)) hx hb dX3_note_61 (by decide) ?_
          refine lv_iload hx hb dX3_note_62 (lv_at hl 1 rfl) ?_
          obtain ⟨x104, hg, hf⟩ := o1_s hf
          refine Ct.callSN (ws' := wSv g s0 s1 s2 s3 h0 h1 h2 h3 S R) (As := [.int x103]) (rest := [.int (1 : Int32), .int x2]) (st1 := [.int x104, .int (1 : Int32), .int x2]) (c_X6_sideOf l g x103 hg) (⟨va_cnB 1 hts gX3_note_X6_sideOf_n59 rfl rfl rfl (hE.2.1 _ (List.mem_of_getElem? (i := 33) rfl)) w4 q_X6_sideOf.2 ⟨Nat.le_of_ble_eq_true rfl, Nat.le_of_ble_eq_true rfl⟩, w6, trivial⟩) ⟨hx, hb, hml, hown, hts⟩ hE hP hD hS hA [] rfl rfl rfl rfl rfl hl.1 rfl rfl (Nat.le_of_ble_eq_true rfl) dX3_note_64 (fun H locs hP hD hS => ?_)
          refine lv_ishl hx hb dX3_note_67 ?_
          refine lv_ior hx hb dX3_note_68 ?_
          refine lv_istore_n (lv' := [(2, .int (x2 ||| ((1 : Int32) <<< (x104 &&& 31)))), (1, .int (x1 + (1 : Int32))), (4, .int x103), (0, .ref s0), (3, .int x3)]) hx hb dX3_note_69 rfl hl (by decide) rfl (fun ls hl => ?_)
          refine lv_iinc (v := (x3 + (1 : Int32))) (lv' := [(3, .int (x3 + (1 : Int32))), (2, .int (x2 ||| ((1 : Int32) <<< (x104 &&& 31)))), (1, .int (x1 + (1 : Int32))), (4, .int x103), (0, .ref s0)]) hx hb dX3_note_70 hl (k := 4) rfl rfl (by decide) rfl (fun ls hl => ?_)
          refine lv_goto (tgt := 34) hx hb dX3_note_73 (by decide) ?_
          exact ih _ _ _ _ _ _  hf hP hD hS (lv_sub hl [4, 2, 1, 0] rfl) hk
  have J18 : ∀ (S : Sv) (H : Heap) (locs : List Loc) (ls : Array Slot), fX3_note_J18 S = some S' → va_P g.1 vwK (wSv g s0 s1 s2 s3 h0 h1 h2 h3 S R) H → va_D A (wSv g s0 s1 s2 s3 h0 h1 h2 h3 S R) → va_S A s.heap H locs → lv_has ls 5 [(0, .ref s0)] → W p l e (rmm 2 81) s m args below meth c H locs 0 0 (MQ below (QcG g (wSv g s0 s1 s2 s3 h0 h1 h2 h3 S R) (wSv g s0 s1 s2 s3 h0 h1 h2 h3 (S') R) none s.heap.size) args s 0 0 A) (F0 m 18 ls []) := by
    intro S H locs ls hf hP hD hS hl
    unfold fX3_note_J18 at hf
    refine lv_aload_n hx hb dX3_note_18 rfl (lv_at hl 0 rfl) ?_
    refine lv_dup hx hb dX3_note_19 rfl ?_
    refine va_get (D := g.1) (ci := 3) (v := .int S.2.2.2.2.1) (C := RX3) (T := TX3) (N := 8) hx hb hts i_X3_note_X3 hown hE.1 hP 0 rfl rfl 5 (by decide) w1 (fun _ h9 => h9) rfl dX3_note_20 ?_
    refine lv_iconst (v := (1 : Int32)) hx hb dX3_note_23 (by decide) ?_
    refine lv_iadd hx hb dX3_note_24 ?_
    refine va_put (D := g.1) (ci := 3) (v := .int (S.2.2.2.2.1 + (1 : Int32))) (ty := .int) (C := RX3) (T := TX3) (N := 8) hx hb hts i_X3_note_X3 tyX3 tyX3_ok nmX3 hown hE.1 hP hD hS 0 rfl rfl 5 (by decide) w1 (fun _ h9 => h9) rfl (by decide +kernel) rfl rfl (by decide) dX3_note_25 (fun H locs hP hD hS => ?_)
    have hP : va_P g.1 vwK (wSv g s0 s1 s2 s3 h0 h1 h2 h3 (S.1, S.2.1, S.2.2.1, S.2.2.2.1, (S.2.2.2.2.1 + (1 : Int32)), S.2.2.2.2.2.1, S.2.2.2.2.2.2) R) H := hP
    have hD : va_D A (wSv g s0 s1 s2 s3 h0 h1 h2 h3 (S.1, S.2.1, S.2.2.1, S.2.2.2.1, (S.2.2.2.2.1 + (1 : Int32)), S.2.2.2.2.2.1, S.2.2.2.2.2.2) R) := hD
    refine lv_iconst (v := (0 : Int32)) hx hb dX3_note_28 (by decide) ?_
    refine lv_istore_n (lv' := [(1, .int (0 : Int32)), (0, .ref s0)]) hx hb dX3_note_29 rfl hl (by decide) rfl (fun ls hl => ?_)
    refine lv_iconst (v := (0 : Int32)) hx hb dX3_note_30 (by decide) ?_
    refine lv_istore_n (lv' := [(2, .int (0 : Int32)), (1, .int (0 : Int32)), (0, .ref s0)]) hx hb dX3_note_31 rfl hl (by decide) rfl (fun ls hl => ?_)
    refine lv_iconst (v := (0 : Int32)) hx hb dX3_note_32 (by decide) ?_
    refine lv_istore_n (lv' := [(3, .int (0 : Int32)), (2, .int (0 : Int32)), (1, .int (0 : Int32)), (0, .ref s0)]) hx hb dX3_note_33 rfl hl (by decide) rfl (fun ls hl => ?_)
    refine L34 _ _ _ _ _ _ _ _ _  hf hP hD hS (lv_sub hl [3, 2, 1, 0] rfl) (fun x105 x106 H locs ls hf hP hD hS hl => ?_)
    refine lv_aload_n hx hb dX3_note_76 rfl (lv_at hl 0 rfl) ?_
    refine lv_aload_n hx hb dX3_note_77 rfl (lv_at hl 0 rfl) ?_
    refine va_get (D := g.1) (ci := 3) (v := .int S.2.2.2.2.2.1) (C := RX3) (T := TX3) (N := 8) hx hb hts i_X3_note_X3 hown hE.1 hP 0 rfl rfl 6 (by decide) w7 (fun _ h9 => h9) rfl dX3_note_78 ?_
    refine lv_iload_n hx hb dX3_note_81 rfl (lv_at hl 1 rfl) ?_
    refine va_mmin hx hb (hml.trans hl.1.symm) hown w8 w9 w10 w11 (Nat.le_of_ble_eq_true rfl) (Nat.le_of_ble_eq_true rfl) (Nat.zero_le _) (Nat.zero_le _) dX3_note_82 ?_
    refine va_put (D := g.1) (ci := 3) (v := .int (if x105 < S.2.2.2.2.2.1 then x105 else S.2.2.2.2.2.1)) (ty := .int) (C := RX3) (T := TX3) (N := 8) hx hb hts i_X3_note_X3 tyX3 tyX3_ok nmX3 hown hE.1 hP hD hS 0 rfl rfl 6 (by decide) w7 (fun _ h9 => h9) rfl (by decide +kernel) rfl rfl (by decide) dX3_note_85 (fun H locs hP hD hS => ?_)
    have hP : va_P g.1 vwK (wSv g s0 s1 s2 s3 h0 h1 h2 h3 (S.1, S.2.1, S.2.2.1, S.2.2.2.1, (S.2.2.2.2.1 + (1 : Int32)), (if x105 < S.2.2.2.2.2.1 then x105 else S.2.2.2.2.2.1), S.2.2.2.2.2.2) R) H := hP
    have hD : va_D A (wSv g s0 s1 s2 s3 h0 h1 h2 h3 (S.1, S.2.1, S.2.2.1, S.2.2.2.1, (S.2.2.2.2.1 + (1 : Int32)), (if x105 < S.2.2.2.2.2.1 then x105 else S.2.2.2.2.2.1), S.2.2.2.2.2.2) R) := hD
    refine lv_aload_n hx hb dX3_note_88 rfl (lv_at hl 0 rfl) ?_
    refine lv_dup hx hb dX3_note_89 rfl ?_
    refine va_get (D := g.1) (ci := 3) (v := .int S.2.2.2.2.2.2) (C := RX3) (T := TX3) (N := 8) hx hb hts i_X3_note_X3 hown hE.1 hP 0 rfl rfl 7 (by decide) w12 (fun _ h9 => h9) rfl dX3_note_90 ?_
    refine lv_iload_n hx hb dX3_note_93 rfl (lv_at hl 2 rfl) ?_
    refine lv_iand hx hb dX3_note_94 ?_
    refine va_put (D := g.1) (ci := 3) (v := .int (S.2.2.2.2.2.2 &&& x106)) (ty := .int) (C := RX3) (T := TX3) (N := 8) hx hb hts i_X3_note_X3 tyX3 tyX3_ok nmX3 hown hE.1 hP hD hS 0 rfl rfl 7 (by decide) w12 (fun _ h9 => h9) rfl (by decide +kernel) rfl rfl (by decide) dX3_note_95 (fun H locs hP hD hS => ?_)
    have hP : va_P g.1 vwK (wSv g s0 s1 s2 s3 h0 h1 h2 h3 (S.1, S.2.1, S.2.2.1, S.2.2.2.1, (S.2.2.2.2.1 + (1 : Int32)), (if x105 < S.2.2.2.2.2.1 then x105 else S.2.2.2.2.2.1), (S.2.2.2.2.2.2 &&& x106)) R) H := hP
    have hD : va_D A (wSv g s0 s1 s2 s3 h0 h1 h2 h3 (S.1, S.2.1, S.2.2.1, S.2.2.2.1, (S.2.2.2.2.1 + (1 : Int32)), (if x105 < S.2.2.2.2.2.1 then x105 else S.2.2.2.2.2.1), (S.2.2.2.2.2.2 &&& x106)) R) := hD
    cases hf
    exact Ct.vret hx hb hr hlocks hAe hP hD hS dX3_note_98
  unfold fX3_note at hf
  refine lv_aload_n hx hb dX3_note_0 rfl (lv_at hl 0 rfl) ?_
  refine va_get (D := g.1) (ci := 3) (v := .int S.2.2.2.2.1) (C := RX3) (T := TX3) (N := 8) hx hb hts i_X3_note_X3 hown hE.1 hP 0 rfl rfl 5 (by decide) w1 (fun _ h9 => h9) rfl dX3_note_1 ?_
  refine lv_if_ne (tgt := 18) hx hb dX3_note_4 (by decide) (fun hc => ?_) (fun hc => ?_)
  · have hf := if_f hf hc
    exact J18 _ _ _ _  hf hP hD hS (lv_sub hl [0] rfl)
  · have hf := if_t hf hc
    refine lv_aload_n hx hb dX3_note_7 rfl (lv_at hl 0 rfl) ?_
    refine va_get (D := g.1) (ci := 3) (v := .ref s1) (C := RX3) (T := TX3) (N := 8) hx hb hts i_X3_note_X3 hown hE.1 hP 0 rfl rfl 1 (by decide) w3 (fun _ h9 => h9) rfl dX3_note_8 ?_
    refine lv_aload_n hx hb dX3_note_11 rfl (lv_at hl 0 rfl) ?_
    refine va_get (D := g.1) (ci := 3) (v := .ref s3) (C := RX3) (T := TX3) (N := 8) hx hb hts i_X3_note_X3 hown hE.1 hP 0 rfl rfl 3 (by decide) w13 (fun _ h9 => h9) rfl dX3_note_12 ?_
    obtain ⟨f2107, hg, hf⟩ := o1_s hf
    refine Ct.callSN (ws' := wSv g s0 s1 s2 s3 h0 h1 h2 h3 (S.1, S.2.1, f2107, S.2.2.2.1, S.2.2.2.2.1, S.2.2.2.2.2.1, S.2.2.2.2.2.2) R) (As := [.ref s1, .ref s3]) (rest := []) (st1 := []) (c_X6_copyRow l g s1 s3 5 S.1 S.2.2.1 hg) (⟨va_cnB 2 hts gX3_note_X6_copyRow_n86 rfl rfl rfl (hE.2.1 _ (List.mem_of_getElem? (i := 34) rfl)) w4 q_X6_copyRow.2 ⟨Nat.le_of_ble_eq_true rfl, Nat.le_of_ble_eq_true rfl⟩, w14, trivial⟩) ⟨hx, hb, hml, hown, hts⟩ hE hP hD hS hA [1, 3] rfl rfl rfl rfl rfl hl.1 rfl rfl (Nat.le_of_ble_eq_true rfl) dX3_note_15 (fun H locs hP hD hS => ?_)
    exact J18 _ _ _ _  hf hP hD hS (lv_sub hl [0] rfl)
def fX3_lookThrough_L30 (x3 : Int32) (kx : Sv → Rf → Option (Sv × Rf)) : Nat → Sv → Rf → Int32 → Option (Sv × Rf)
  | 0, _, _, _ => none
  | k + 1, S, R, x4 => if x3 ≤ x4 then (kx S R) else (o2 (fX3_passRain S R x4) (fun S108 R109 => o1 (fX1_isOpen R109) (fun x110 => if x110 = 0 then (fX3_lookThrough_L30 x3 kx k S108 R109 (x4 + (1 : Int32))) else (o1 (fX3_note S108) (fun S111 => fX3_lookThrough_L30 x3 kx k S111 R109 (x4 + (1 : Int32)))))))
def fX3_lookThrough (S : Sv) (R : Rf) (N : Rf) (a1 : Int32) : Option (Sv × Rf) := o2 (fX3_begin S R N a1) (fun S101 R102 => o1 (fX3_howMany (S101.1, S101.2.1, S101.2.2.1, S101.2.2.2.1, (0 : Int32), a1, (15 : Int32))) (fun x103 => fX3_lookThrough_L30 x103 (fun S112 R113 => some (S112, R113)) fu (S101.1, S101.2.1, S101.2.2.1, S101.2.2.2.1, (0 : Int32), a1, (15 : Int32)) R102 (0 : Int32)))
theorem q_X3_lookThrough : yX3_lookThrough.cls = RX3 ∧ yX3_lookThrough.cls ≠ "java/lang/invoke/MethodHandle" ∧ yX3_lookThrough.cls ≠ "java/lang/invoke/VarHandle" ∧ (parseMethodDescriptor yX3_lookThrough.desc).map (fun d => d.parameters.length) = some 2 := by decide +kernel
theorem i_X3_lookThrough_X3 : ∀ w ∈ u_ws RX3 TX3 8, w ∈ wsX3_lookThrough := fun _ h => List.mem_cons_of_mem _ (List.mem_append_left _ (List.mem_append_right _ (h)))
set_option maxHeartbeats 4000000 in
set_option maxRecDepth 100000 in
theorem c_X3_lookThrough (l : Launch) (g : gG) (s0 s1 s2 s3 h0 h1 h2 h3 i0 i1 i2 i3 : Nat) (S : Sv) (R : Rf) (N : Rf) (a1 : Int32) {S' : Sv} {R' : Rf} (hf : fX3_lookThrough S R N a1 = some (S', R')) : Ct l yX3_lookThrough wsX3_lookThrough (rmm 5 124) g (wSv2 g s0 s1 s2 s3 h0 h1 h2 h3 i0 i1 i2 i3 S R N) (wSv2 g s0 s1 s2 s3 h0 h1 h2 h3 i0 i1 i2 i3 (S') (R') N) [.ref s0, .ref i0, .int a1] none := by
  refine Ct.mk (by decide) rfl (Nat.le_of_ble_eq_true rfl) ?_
  intro p e s m args below meth c A ls hx hb hr hml hts hown hlocks hA hE hP hD hS hl hAe
  have hown : s.vm.findClass RX3 = some m.cls := hown
  have hl : lv_has ls 5 [(0, .ref s0), (1, .ref i0), (2, .int a1)] := hl
  have w1 := hts (.fieldLink RX3 25 "RainVault$Survey" "opening" "I") (List.mem_of_getElem? (i := 1) rfl)
  have w2 := hts (.fieldLink RX3 28 "RainVault$Survey" "fewestWet" "I") (List.mem_of_getElem? (i := 2) rfl)
  have w3 := hts (.fieldLink RX3 31 "RainVault$Survey" "commonSides" "I") (List.mem_of_getElem? (i := 3) rfl)
  have w4 := hts (.fieldLink RX3 34 "RainVault$Survey" "trial" "LRainVault$Roof;") (List.mem_of_getElem? (i := 4) rfl)
  have L30 : ∀ (x3 : Int32) (kx : Sv → Rf → Option (Sv × Rf)) (k : Nat) (S : Sv) (R : Rf) (x4 : Int32) (H : Heap) (locs : List Loc) (ls : Array Slot), fX3_lookThrough_L30 x3 kx k S R x4 = some (S', R') → va_P g.1 vwK (wSv2 g s0 s1 s2 s3 h0 h1 h2 h3 i0 i1 i2 i3 S R N) H → va_D A (wSv2 g s0 s1 s2 s3 h0 h1 h2 h3 i0 i1 i2 i3 S R N) → va_S A s.heap H locs → lv_has ls 5 [(0, .ref s0), (3, .int x3), (4, .int x4)] → (∀ (S : Sv) (R : Rf) (H : Heap) (locs : List Loc) (ls : Array Slot), kx S R = some (S', R') → va_P g.1 vwK (wSv2 g s0 s1 s2 s3 h0 h1 h2 h3 i0 i1 i2 i3 S R N) H → va_D A (wSv2 g s0 s1 s2 s3 h0 h1 h2 h3 i0 i1 i2 i3 S R N) → va_S A s.heap H locs → lv_has ls 5 [] → W p l e (rmm 5 124) s m args below meth c H locs 0 0 (MQ below (QcG g (wSv2 g s0 s1 s2 s3 h0 h1 h2 h3 i0 i1 i2 i3 S R N) (wSv2 g s0 s1 s2 s3 h0 h1 h2 h3 i0 i1 i2 i3 (S') (R') N) none s.heap.size) args s 0 0 A) (F0 m 62 ls [])) → W p l e (rmm 5 124) s m args below meth c H locs 0 0 (MQ below (QcG g (wSv2 g s0 s1 s2 s3 h0 h1 h2 h3 i0 i1 i2 i3 S R N) (wSv2 g s0 s1 s2 s3 h0 h1 h2 h3 i0 i1 i2 i3 (S') (R') N) none s.heap.size) args s 0 0 A) (F0 m 30 ls []) := by
    intro x3 kx k
    induction k with
    | zero => intro S R x4 H locs ls hf; exact nomatch (show (none : Option (Sv × Rf)) = some _ from hf)
    | succ k ih =>
      intro S R x4 H locs ls hf hP hD hS hl hk
      rw [fX3_lookThrough_L30] at hf
      refine lv_iload hx hb dX3_lookThrough_30 (lv_at hl 2 rfl) ?_
      refine lv_iload_n hx hb dX3_lookThrough_32 rfl (lv_at hl 1 rfl) ?_
      refine lv_icmp_ge (tgt := 62) hx hb dX3_lookThrough_33 (by decide) (fun hc => ?_) (fun hc => ?_)
      · have hf := if_t hf hc
        exact hk _ _ _ _ _  hf hP hD hS (lv_sub hl [] rfl)
      · have hf := if_f hf hc
        refine lv_aload_n hx hb dX3_lookThrough_36 rfl (lv_at hl 0 rfl) ?_
        refine lv_iload hx hb dX3_lookThrough_37 (lv_at hl 2 rfl) ?_
        obtain ⟨S108, R109, hg, hf⟩ := o2_s hf
        refine Ct.callV (ws' := wSv2 g s0 s1 s2 s3 h0 h1 h2 h3 i0 i1 i2 i3 S108 R109 N) (As := [.int x4]) (rest := []) (st1 := []) (c_X3_passRain l g s0 s1 s2 s3 h0 h1 h2 h3 S R x4 hg) (cwV 1 hts gX3_lookThrough_X3_passRain rfl rfl rfl q_X3_passRain ⟨Nat.le_of_ble_eq_true rfl, Nat.le_of_ble_eq_true rfl⟩) ⟨hx, hb, hml, hown, hts⟩ hE hP hD hS hA [0, 1, 2, 3, 4, 5, 6, 7] rfl rfl rfl rfl 3 0 rfl rfl rfl rfl hl.1 rfl rfl (Nat.le_of_ble_eq_true rfl) dX3_lookThrough_39 (fun H locs hP hD hS => ?_)
        refine lv_aload_n hx hb dX3_lookThrough_42 rfl (lv_at hl 0 rfl) ?_
        refine va_get (D := g.1) (ci := 3) (v := .ref h0) (C := RX3) (T := TX3) (N := 8) hx hb hts i_X3_lookThrough_X3 hown hE.1 hP 0 rfl rfl 0 (by decide) w4 (fun _ h9 => h9) rfl dX3_lookThrough_43 ?_
        obtain ⟨x110, hg, hf⟩ := o1_s hf
        refine Ct.callV (ws' := wSv2 g s0 s1 s2 s3 h0 h1 h2 h3 i0 i1 i2 i3 S108 R109 N) (As := []) (rest := []) (st1 := [.int x110]) (c_X1_isOpen l g h0 h1 h2 h3 R109 hg) (cwV 0 hts gX3_lookThrough_X1_isOpen rfl rfl rfl q_X1_isOpen ⟨Nat.le_of_ble_eq_true rfl, Nat.le_of_ble_eq_true rfl⟩) ⟨hx, hb, hml, hown, hts⟩ hE hP hD hS hA [4, 5, 6, 7] rfl rfl rfl rfl 1 4 rfl rfl rfl rfl hl.1 rfl rfl (Nat.le_of_ble_eq_true rfl) dX3_lookThrough_46 (fun H locs hP hD hS => ?_)
        refine lv_if_eq (tgt := 56) hx hb dX3_lookThrough_49 (by decide) (fun hc => ?_) (fun hc => ?_)
        · have hf := if_t hf hc
          refine lv_iinc (v := (x4 + (1 : Int32))) (lv' := [(4, .int (x4 + (1 : Int32))), (0, .ref s0), (3, .int x3)]) hx hb dX3_lookThrough_56 hl (k := 2) rfl rfl (by decide) rfl (fun ls hl => ?_)
          refine lv_goto (tgt := 30) hx hb dX3_lookThrough_59 (by decide) ?_
          exact ih _ _ _ _ _ _  hf hP hD hS (lv_sub hl [1, 2, 0] rfl) hk
        · have hf := if_f hf hc
          refine lv_aload_n hx hb dX3_lookThrough_52 rfl (lv_at hl 0 rfl) ?_
          obtain ⟨S111, hg, hf⟩ := o1_s hf
          refine Ct.callV (ws' := wSv2 g s0 s1 s2 s3 h0 h1 h2 h3 i0 i1 i2 i3 S111 R109 N) (As := []) (rest := []) (st1 := []) (c_X3_note l g s0 s1 s2 s3 h0 h1 h2 h3 S108 R109 hg) (cwV 0 hts gX3_lookThrough_X3_note rfl rfl rfl q_X3_note ⟨Nat.le_of_ble_eq_true rfl, Nat.le_of_ble_eq_true rfl⟩) ⟨hx, hb, hml, hown, hts⟩ hE hP hD hS hA [0, 1, 2, 3, 4, 5, 6, 7] rfl rfl rfl rfl 3 0 rfl rfl rfl rfl hl.1 rfl rfl (Nat.le_of_ble_eq_true rfl) dX3_lookThrough_53 (fun H locs hP hD hS => ?_)
          refine lv_iinc (v := (x4 + (1 : Int32))) (lv' := [(4, .int (x4 + (1 : Int32))), (0, .ref s0), (3, .int x3)]) hx hb dX3_lookThrough_56 hl (k := 2) rfl rfl (by decide) rfl (fun ls hl => ?_)
          refine lv_goto (tgt := 30) hx hb dX3_lookThrough_59 (by decide) ?_
          exact ih _ _ _ _ _ _  hf hP hD hS (lv_sub hl [1, 2, 0] rfl) hk
  unfold fX3_lookThrough at hf
  refine lv_aload_n hx hb dX3_lookThrough_0 rfl (lv_at hl 0 rfl) ?_
  refine lv_aload_n hx hb dX3_lookThrough_1 rfl (lv_at hl 1 rfl) ?_
  refine lv_iload_n hx hb dX3_lookThrough_2 rfl (lv_at hl 2 rfl) ?_
  obtain ⟨S101, R102, hg, hf⟩ := o2_s hf
  refine Ct.callV (ws' := wSv2 g s0 s1 s2 s3 h0 h1 h2 h3 i0 i1 i2 i3 S101 R102 N) (As := [.ref i0, .int a1]) (rest := []) (st1 := []) (c_X3_begin l g s0 s1 s2 s3 h0 h1 h2 h3 i0 i1 i2 i3 S R N a1 hg) (cwV 2 hts gX3_lookThrough_X3_begin rfl rfl rfl q_X3_begin ⟨Nat.le_of_ble_eq_true rfl, Nat.le_of_ble_eq_true rfl⟩) ⟨hx, hb, hml, hown, hts⟩ hE hP hD hS hA [0, 1, 2, 3, 4, 5, 6, 7, 8, 9, 10, 11] rfl rfl rfl rfl 3 0 rfl rfl rfl rfl hl.1 rfl rfl (Nat.le_of_ble_eq_true rfl) dX3_lookThrough_3 (fun H locs hP hD hS => ?_)
  refine lv_aload_n hx hb dX3_lookThrough_6 rfl (lv_at hl 0 rfl) ?_
  refine lv_iconst (v := (0 : Int32)) hx hb dX3_lookThrough_7 (by decide) ?_
  refine va_put (D := g.1) (ci := 3) (v := .int (0 : Int32)) (ty := .int) (C := RX3) (T := TX3) (N := 8) hx hb hts i_X3_lookThrough_X3 tyX3 tyX3_ok nmX3 hown hE.1 hP hD hS 0 rfl rfl 5 (by decide) w1 (fun _ h9 => h9) rfl (by decide +kernel) rfl rfl (by decide) dX3_lookThrough_8 (fun H locs hP hD hS => ?_)
  have hP : va_P g.1 vwK (wSv2 g s0 s1 s2 s3 h0 h1 h2 h3 i0 i1 i2 i3 (S101.1, S101.2.1, S101.2.2.1, S101.2.2.2.1, (0 : Int32), S101.2.2.2.2.2.1, S101.2.2.2.2.2.2) R102 N) H := hP
  have hD : va_D A (wSv2 g s0 s1 s2 s3 h0 h1 h2 h3 i0 i1 i2 i3 (S101.1, S101.2.1, S101.2.2.1, S101.2.2.2.1, (0 : Int32), S101.2.2.2.2.2.1, S101.2.2.2.2.2.2) R102 N) := hD
  refine lv_aload_n hx hb dX3_lookThrough_11 rfl (lv_at hl 0 rfl) ?_
  refine lv_iload_n hx hb dX3_lookThrough_12 rfl (lv_at hl 2 rfl) ?_
  refine va_put (D := g.1) (ci := 3) (v := .int a1) (ty := .int) (C := RX3) (T := TX3) (N := 8) hx hb hts i_X3_lookThrough_X3 tyX3 tyX3_ok nmX3 hown hE.1 hP hD hS 0 rfl rfl 6 (by decide) w2 (fun _ h9 => h9) rfl (by decide +kernel) rfl rfl (by decide) dX3_lookThrough_13 (fun H locs hP hD hS => ?_)
  have hP : va_P g.1 vwK (wSv2 g s0 s1 s2 s3 h0 h1 h2 h3 i0 i1 i2 i3 (S101.1, S101.2.1, S101.2.2.1, S101.2.2.2.1, (0 : Int32), a1, S101.2.2.2.2.2.2) R102 N) H := hP
  have hD : va_D A (wSv2 g s0 s1 s2 s3 h0 h1 h2 h3 i0 i1 i2 i3 (S101.1, S101.2.1, S101.2.2.1, S101.2.2.2.1, (0 : Int32), a1, S101.2.2.2.2.2.2) R102 N) := hD
  refine lv_aload_n hx hb dX3_lookThrough_16 rfl (lv_at hl 0 rfl) ?_
  refine lv_bipush (v := (15 : Int32)) hx hb dX3_lookThrough_17 (by decide) ?_
  refine va_put (D := g.1) (ci := 3) (v := .int (15 : Int32)) (ty := .int) (C := RX3) (T := TX3) (N := 8) hx hb hts i_X3_lookThrough_X3 tyX3 tyX3_ok nmX3 hown hE.1 hP hD hS 0 rfl rfl 7 (by decide) w3 (fun _ h9 => h9) rfl (by decide +kernel) rfl rfl (by decide) dX3_lookThrough_19 (fun H locs hP hD hS => ?_)
  have hP : va_P g.1 vwK (wSv2 g s0 s1 s2 s3 h0 h1 h2 h3 i0 i1 i2 i3 (S101.1, S101.2.1, S101.2.2.1, S101.2.2.2.1, (0 : Int32), a1, (15 : Int32)) R102 N) H := hP
  have hD : va_D A (wSv2 g s0 s1 s2 s3 h0 h1 h2 h3 i0 i1 i2 i3 (S101.1, S101.2.1, S101.2.2.1, S101.2.2.2.1, (0 : Int32), a1, (15 : Int32)) R102 N) := hD
  refine lv_aload_n hx hb dX3_lookThrough_22 rfl (lv_at hl 0 rfl) ?_
  obtain ⟨x103, hg, hf⟩ := o1_s hf
  refine Ct.callV (ws' := wSv2 g s0 s1 s2 s3 h0 h1 h2 h3 i0 i1 i2 i3 (S101.1, S101.2.1, S101.2.2.1, S101.2.2.2.1, (0 : Int32), a1, (15 : Int32)) R102 N) (As := []) (rest := []) (st1 := [.int x103]) (c_X3_howMany l g s0 s1 s2 s3 h0 h1 h2 h3 (S101.1, S101.2.1, S101.2.2.1, S101.2.2.2.1, (0 : Int32), a1, (15 : Int32)) R102 hg) (cwV 0 hts gX3_lookThrough_X3_howMany rfl rfl rfl q_X3_howMany ⟨Nat.le_of_ble_eq_true rfl, Nat.le_of_ble_eq_true rfl⟩) ⟨hx, hb, hml, hown, hts⟩ hE hP hD hS hA [0, 1, 2, 3, 4, 5, 6, 7] rfl rfl rfl rfl 3 0 rfl rfl rfl rfl hl.1 rfl rfl (Nat.le_of_ble_eq_true rfl) dX3_lookThrough_23 (fun H locs hP hD hS => ?_)
  refine lv_istore_n (lv' := [(3, .int x103), (0, .ref s0), (1, .ref i0), (2, .int a1)]) hx hb dX3_lookThrough_26 rfl hl (by decide) rfl (fun ls hl => ?_)
  refine lv_iconst (v := (0 : Int32)) hx hb dX3_lookThrough_27 (by decide) ?_
  refine lv_istore (lv' := [(4, .int (0 : Int32)), (3, .int x103), (0, .ref s0), (1, .ref i0), (2, .int a1)]) hx hb dX3_lookThrough_28 hl (by decide) rfl (fun ls hl => ?_)
  refine L30 _ _ _ _ _ _ _ _ _  hf hP hD hS (lv_sub hl [2, 1, 0] rfl) (fun S112 R113 H locs ls hf hP hD hS hl => ?_)
  cases hf
  exact Ct.vret hx hb hr hlocks hAe hP hD hS dX3_lookThrough_62
def fX6_isRain (a1 : Int32) (a2 : Int32) : Option (Int32) := o1 (fX6_isWithin a1 (0 : Int32) (3 : Int32)) (fun x101 => if x101 = 0 then (some (0 : Int32)) else (o1 (fX6_isWithin a2 (0 : Int32) (9 : Int32)) (fun x102 => if x102 = 0 then (some (0 : Int32)) else (some (1 : Int32)))))
theorem q_X6_isRain : yX6_isRain.cls = RX6 ∧ yX6_isRain.cls ≠ "java/lang/invoke/MethodHandle" ∧ yX6_isRain.cls ≠ "java/lang/invoke/VarHandle" ∧ (parseMethodDescriptor yX6_isRain.desc).map (fun d => d.parameters.length) = some 2 := by decide +kernel
set_option maxHeartbeats 4000000 in
set_option maxRecDepth 100000 in
theorem c_X6_isRain (l : Launch) (g : gG) (a1 : Int32) (a2 : Int32) {r : Int32} (hf : fX6_isRain a1 a2 = some r) : Ct l yX6_isRain wsX6_isRain (rmm 1 22) g (wNil g  ) (wNil g  ) [.int a1, .int a2] (some (.int r)) := by
  refine Ct.mk (by decide) rfl (Nat.le_of_ble_eq_true rfl) ?_
  intro p e s m args below meth c A ls hx hb hr hml hts hown hlocks hA hE hP hD hS hl hAe
  have hown : s.vm.findClass RX6 = some m.cls := hown
  have hl : lv_has ls 2 [(0, .int a1), (1, .int a2)] := hl
  unfold fX6_isRain at hf
  refine lv_iload_n hx hb dX6_isRain_0 rfl (lv_at hl 0 rfl) ?_
  refine lv_iconst (v := (0 : Int32)) hx hb dX6_isRain_1 (by decide) ?_
  refine lv_iconst (v := (3 : Int32)) hx hb dX6_isRain_2 (by decide) ?_
  obtain ⟨x101, hg, hf⟩ := o1_s hf
  refine Ct.callS (ws' := wNil g  ) (As := [.int a1, .int (0 : Int32), .int (3 : Int32)]) (rest := []) (st1 := [.int x101]) (c_X6_isWithin l g a1 (0 : Int32) (3 : Int32) hg) (va_cwS 3 hts gX6_isRain_X6_isWithin rfl rfl rfl q_X6_isWithin.2 ⟨Nat.le_of_ble_eq_true rfl, Nat.le_of_ble_eq_true rfl⟩) ⟨hx, hb, hml, hown, hts⟩ hE hP hD hS hA [] rfl rfl rfl rfl rfl hl.1 rfl rfl (Nat.le_of_ble_eq_true rfl) dX6_isRain_3 (fun H locs hP hD hS => ?_)
  refine lv_if_eq (tgt := 23) hx hb dX6_isRain_6 (by decide) (fun hc => ?_) (fun hc => ?_)
  · have hf := if_t hf hc
    refine lv_iconst (v := (0 : Int32)) hx hb dX6_isRain_23 (by decide) ?_
    cases hf
    exact Ct.zret hx hb hr (by decide) hlocks hAe hP hD hS dX6_isRain_24
  · have hf := if_f hf hc
    refine lv_iload_n hx hb dX6_isRain_9 rfl (lv_at hl 1 rfl) ?_
    refine lv_iconst (v := (0 : Int32)) hx hb dX6_isRain_10 (by decide) ?_
    refine lv_bipush (v := (9 : Int32)) hx hb dX6_isRain_11 (by decide) ?_
    obtain ⟨x102, hg, hf⟩ := o1_s hf
    refine Ct.callS (ws' := wNil g  ) (As := [.int a2, .int (0 : Int32), .int (9 : Int32)]) (rest := []) (st1 := [.int x102]) (c_X6_isWithin l g a2 (0 : Int32) (9 : Int32) hg) (va_cwS 3 hts gX6_isRain_X6_isWithin rfl rfl rfl q_X6_isWithin.2 ⟨Nat.le_of_ble_eq_true rfl, Nat.le_of_ble_eq_true rfl⟩) ⟨hx, hb, hml, hown, hts⟩ hE hP hD hS hA [] rfl rfl rfl rfl rfl hl.1 rfl rfl (Nat.le_of_ble_eq_true rfl) dX6_isRain_13 (fun H locs hP hD hS => ?_)
    refine lv_if_eq (tgt := 23) hx hb dX6_isRain_16 (by decide) (fun hc => ?_) (fun hc => ?_)
    · have hf := if_t hf hc
      refine lv_iconst (v := (0 : Int32)) hx hb dX6_isRain_23 (by decide) ?_
      cases hf
      exact Ct.zret hx hb hr (by decide) hlocks hAe hP hD hS dX6_isRain_24
    · have hf := if_f hf hc
      refine lv_iconst (v := (1 : Int32)) hx hb dX6_isRain_19 (by decide) ?_
      refine lv_goto (tgt := 24) hx hb dX6_isRain_20 (by decide) ?_
      cases hf
      exact Ct.zret hx hb hr (by decide) hlocks hAe hP hD hS dX6_isRain_24
def fX6_mostRight (a1 : Int32) : Option (Int32) := if a1 = (4 : Int32) then (some (40 : Int32)) else (some (7 : Int32))
theorem q_X6_mostRight : yX6_mostRight.cls = RX6 ∧ yX6_mostRight.cls ≠ "java/lang/invoke/MethodHandle" ∧ yX6_mostRight.cls ≠ "java/lang/invoke/VarHandle" ∧ (parseMethodDescriptor yX6_mostRight.desc).map (fun d => d.parameters.length) = some 1 := by decide +kernel
set_option maxHeartbeats 4000000 in
set_option maxRecDepth 100000 in
theorem c_X6_mostRight (l : Launch) (g : gG) (a1 : Int32) {r : Int32} (hf : fX6_mostRight a1 = some r) : Ct l yX6_mostRight wsX6_mostRight (rmm 0 0) g (wNil g  ) (wNil g  ) [.int a1] (some (.int r)) := by
  refine Ct.mk (by decide) rfl (Nat.le_of_ble_eq_true rfl) ?_
  intro p e s m args below meth c A ls hx hb hr hml hts hown hlocks hA hE hP hD hS hl hAe
  have hown : s.vm.findClass RX6 = some m.cls := hown
  have hl : lv_has ls 1 [(0, .int a1)] := hl
  unfold fX6_mostRight at hf
  refine lv_iload_n hx hb dX6_mostRight_0 rfl (lv_at hl 0 rfl) ?_
  refine lv_iconst (v := (4 : Int32)) hx hb dX6_mostRight_1 (by decide) ?_
  refine lv_icmp_ne (tgt := 10) hx hb dX6_mostRight_2 (by decide) (fun hc => ?_) (fun hc => ?_)
  · have hf := if_f hf hc
    refine lv_bipush (v := (7 : Int32)) hx hb dX6_mostRight_10 (by decide) ?_
    cases hf
    exact Ct.iret hx hb hr hlocks hAe hP hD hS dX6_mostRight_12
  · have hf := if_t hf hc
    refine lv_bipush (v := (40 : Int32)) hx hb dX6_mostRight_5 (by decide) ?_
    refine lv_goto (tgt := 12) hx hb dX6_mostRight_7 (by decide) ?_
    cases hf
    exact Ct.iret hx hb hr hlocks hAe hP hD hS dX6_mostRight_12
