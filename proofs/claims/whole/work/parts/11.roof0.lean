def fX1_get (R : Rf) (a1 : Int32) (a2 : Int32) : Option (Int32) := if ((a1 * (11 : Int32)) + a2) < 0 then (some (0 : Int32)) else (if (88 : Int32) ≤ ((a1 * (11 : Int32)) + a2) then (some (0 : Int32)) else (rd R.1 88 ((a1 * (11 : Int32)) + a2) (fun x101 => some x101)))
theorem q_X1_get : yX1_get.cls = RX1 ∧ yX1_get.cls ≠ "java/lang/invoke/MethodHandle" ∧ yX1_get.cls ≠ "java/lang/invoke/VarHandle" ∧ (parseMethodDescriptor yX1_get.desc).map (fun d => d.parameters.length) = some 2 := by decide +kernel
theorem i_X1_get_X1 : ∀ w ∈ u_ws RX1 TX1 9, w ∈ wsX1_get := fun _ h => List.mem_cons_of_mem _ (List.mem_append_right _ (h))
set_option maxHeartbeats 4000000 in
set_option maxRecDepth 100000 in
theorem c_X1_get (l : Launch) (g : gG) (h0 h1 h2 h3 : Nat) (R : Rf) (a1 : Int32) (a2 : Int32) {r : Int32} (hf : fX1_get R a1 a2 = some r) : Ct l yX1_get wsX1_get (rmm 0 0) g (wRf g h0 h1 h2 h3 R) (wRf g h0 h1 h2 h3 R) [.ref h0, .int a1, .int a2] (some (.int r)) := by
  refine Ct.mk (by decide) rfl (Nat.le_of_ble_eq_true rfl) ?_
  intro p e s m args below meth c A ls hx hb hr hml hts hown hlocks hA hE hP hD hS hl hAe
  obtain ⟨Qx, hQ⟩ : ∃ Qx : State → Prop, Qx = MQ below (QcG g (wRf g h0 h1 h2 h3 R) (wRf g h0 h1 h2 h3 R) (some (.int r)) s.heap.size) args s 0 0 A := ⟨_, rfl⟩
  rw [← hQ]
  have hown : s.vm.findClass RX1 = some m.cls := hown
  have hl : lv_has ls 4 [(0, .ref h0), (1, .int a1), (2, .int a2)] := hl
  have w1 := hts (.fieldLink RX1 9 "RainVault$Roof" "facts" "[I") (List.mem_of_getElem? (i := 1) rfl)
  unfold fX1_get at hf
  refine lv_iload_n hx hb dX1_get_0 rfl (lv_at hl 1 rfl) ?_
  refine lv_bipush (v := (11 : Int32)) hx hb dX1_get_1 (by decide) ?_
  refine lv_imul hx hb dX1_get_3 ?_
  refine lv_iload_n hx hb dX1_get_4 rfl (lv_at hl 2 rfl) ?_
  refine lv_iadd hx hb dX1_get_5 ?_
  refine lv_istore_n (lv' := [(3, .int ((a1 * (11 : Int32)) + a2)), (0, .ref h0), (1, .int a1), (2, .int a2)]) hx hb dX1_get_6 rfl hl (by decide) rfl (fun ls hl => ?_)
  refine lv_iload_n hx hb dX1_get_7 rfl (lv_at hl 0 rfl) ?_
  refine lv_if_lt (tgt := 29) hx hb dX1_get_8 (by decide) (fun hc => ?_) (fun hc => ?_)
  · have hf := if_t hf hc
    refine lv_iconst (v := (0 : Int32)) hx hb dX1_get_29 (by decide) ?_
    obtain rfl := Option.some.inj hf
    rw [hQ]; exact Ct.iret hx hb hr hlocks hAe hP hD hS dX1_get_30
  · have hf := if_f hf hc
    refine lv_iload_n hx hb dX1_get_11 rfl (lv_at hl 0 rfl) ?_
    refine lv_aload_n hx hb dX1_get_12 rfl (lv_at hl 1 rfl) ?_
    refine va_get (D := g.1) (ci := 1) (v := .ref h1) (C := RX1) (T := TX1) (N := 9) hx hb hts i_X1_get_X1 hown hE.1 hP 0 rfl rfl 0 (by decide) w1 (fun _ h9 => h9) rfl dX1_get_13 ?_
    refine va_alen (v := (88 : Int32)) hx hb hE.1 hP 1 0 rfl rfl (show Int32.ofNat 88 = (88 : Int32) by decide) dX1_get_16 ?_
    refine lv_icmp_ge (tgt := 29) hx hb dX1_get_17 (by decide) (fun hc => ?_) (fun hc => ?_)
    · have hf := if_t hf hc
      refine lv_iconst (v := (0 : Int32)) hx hb dX1_get_29 (by decide) ?_
      obtain rfl := Option.some.inj hf
      rw [hQ]; exact Ct.iret hx hb hr hlocks hAe hP hD hS dX1_get_30
    · have hf := if_f hf hc
      refine lv_aload_n hx hb dX1_get_20 rfl (lv_at hl 1 rfl) ?_
      refine va_get (D := g.1) (ci := 1) (v := .ref h1) (C := RX1) (T := TX1) (N := 9) hx hb hts i_X1_get_X1 hown hE.1 hP 0 rfl rfl 0 (by decide) w1 (fun _ h9 => h9) rfl dX1_get_21 ?_
      refine lv_iload_n hx hb dX1_get_24 rfl (lv_at hl 0 rfl) ?_
      obtain ⟨x101, ex, hin, hf⟩ := rd_s hf
      refine st_iald (f := R.1) hx hb hE.1 hP 1 0 rfl rfl hin ex dX1_get_25 ?_
      refine lv_goto (tgt := 30) hx hb dX1_get_26 (by decide) ?_
      obtain rfl := Option.some.inj hf
      rw [hQ]; exact Ct.iret hx hb hr hlocks hAe hP hD hS dX1_get_30
def fX6_put (n : Nat) (f : Nat → Int32) (a1 : Int32) (a2 : Int32) : Option ((Nat → Int32)) := if a1 < 0 then (some f) else (if (Int32.ofNat n) ≤ a1 then (some f) else (wr f n a1 a2 (fun f101 => some f101)))
theorem q_X6_put : yX6_put.cls = RX6 ∧ yX6_put.cls ≠ "java/lang/invoke/MethodHandle" ∧ yX6_put.cls ≠ "java/lang/invoke/VarHandle" ∧ (parseMethodDescriptor yX6_put.desc).map (fun d => d.parameters.length) = some 3 := by decide +kernel
set_option maxHeartbeats 4000000 in
set_option maxRecDepth 100000 in
theorem c_X6_put (l : Launch) (g : gG) (a0 : Nat) (n : Nat) (f : Nat → Int32) (a1 : Int32) (a2 : Int32) {f' : Nat → Int32} (hf : fX6_put n f a1 a2 = some f') : Ct l yX6_put wsX6_put (rmm 0 0) g (wRow g a0 n f) (wRow g a0 n (f')) [.ref a0, .int a1, .int a2] none := by
  refine Ct.mk (by decide) rfl (Nat.le_of_ble_eq_true rfl) ?_
  intro p e s m args below meth c A ls hx hb hr hml hts hown hlocks hA hE hP hD hS hl hAe
  obtain ⟨Qx, hQ⟩ : ∃ Qx : State → Prop, Qx = MQ below (QcG g (wRow g a0 n f) (wRow g a0 n (f')) none s.heap.size) args s 0 0 A := ⟨_, rfl⟩
  rw [← hQ]
  have hown : s.vm.findClass RX6 = some m.cls := hown
  have hl : lv_has ls 3 [(0, .ref a0), (1, .int a1), (2, .int a2)] := hl
  unfold fX6_put at hf
  refine lv_iload_n hx hb dX6_put_0 rfl (lv_at hl 1 rfl) ?_
  refine lv_if_lt (tgt := 14) hx hb dX6_put_1 (by decide) (fun hc => ?_) (fun hc => ?_)
  · have hf := if_t hf hc
    obtain rfl := Option.some.inj hf
    rw [hQ]; exact Ct.vret hx hb hr hlocks hAe hP hD hS dX6_put_14
  · have hf := if_f hf hc
    refine lv_iload_n hx hb dX6_put_4 rfl (lv_at hl 1 rfl) ?_
    refine lv_aload_n hx hb dX6_put_5 rfl (lv_at hl 0 rfl) ?_
    refine va_alen (v := Int32.ofNat n) hx hb hE.1 hP 0 0 rfl rfl rfl dX6_put_6 ?_
    refine lv_icmp_ge (tgt := 14) hx hb dX6_put_7 (by decide) (fun hc => ?_) (fun hc => ?_)
    · have hf := if_t hf hc
      obtain rfl := Option.some.inj hf
      rw [hQ]; exact Ct.vret hx hb hr hlocks hAe hP hD hS dX6_put_14
    · have hf := if_f hf hc
      refine lv_aload_n hx hb dX6_put_10 rfl (lv_at hl 0 rfl) ?_
      refine lv_iload_n hx hb dX6_put_11 rfl (lv_at hl 1 rfl) ?_
      refine lv_iload_n hx hb dX6_put_12 rfl (lv_at hl 2 rfl) ?_
      obtain ⟨f101, ef, hin, hf⟩ := wr_s hf
      refine st_iast (ws' := wRow g a0 n f101) (f := f) (f2 := f101) hx hb hE.1 hP hD hS 0 0 rfl rfl hin ef rfl dX6_put_13 (fun H locs hP hD hS => ?_)
      obtain rfl := Option.some.inj hf
      rw [hQ]; exact Ct.vret hx hb hr hlocks hAe hP hD hS dX6_put_14
def fX1_keepLevels_L2 (R : Rf) (n : Nat) (x2 : Int32) (kx : (Nat → Int32) → Option ((Nat → Int32))) : Nat → (Nat → Int32) → Int32 → Option ((Nat → Int32))
  | 0, _, _ => none
  | k + 1, f, x3 => if R.2.2.2.1 ≤ x3 then (kx f) else (o1 (fX1_get R x3 (2 : Int32)) (fun x103 => o1 (fX6_put n f (x2 + x3) x103) (fun f104 => fX1_keepLevels_L2 R n x2 kx k f104 (x3 + (1 : Int32)))))
def fX1_keepLevels (R : Rf) (n : Nat) (f : Nat → Int32) (a1 : Int32) : Option ((Nat → Int32)) := fX1_keepLevels_L2 R n a1 (fun f105 => some f105) fu f (0 : Int32)
theorem q_X1_keepLevels : yX1_keepLevels.cls = RX1 ∧ yX1_keepLevels.cls ≠ "java/lang/invoke/MethodHandle" ∧ yX1_keepLevels.cls ≠ "java/lang/invoke/VarHandle" ∧ (parseMethodDescriptor yX1_keepLevels.desc).map (fun d => d.parameters.length) = some 2 := by decide +kernel
theorem i_X1_keepLevels_X1 : ∀ w ∈ u_ws RX1 TX1 9, w ∈ wsX1_keepLevels := fun _ h => List.mem_cons_of_mem _ (List.mem_append_right _ (h))
set_option maxHeartbeats 4000000 in
set_option maxRecDepth 100000 in
theorem c_X1_keepLevels (l : Launch) (g : gG) (h0 h1 h2 h3 a0 : Nat) (R : Rf) (n : Nat) (f : Nat → Int32) (a1 : Int32) {f' : Nat → Int32} (hf : fX1_keepLevels R n f a1 = some f') : Ct l yX1_keepLevels wsX1_keepLevels (rmm 1 23) g (wRfRow g h0 h1 h2 h3 a0 R n f) (wRfRow g h0 h1 h2 h3 a0 R n (f')) [.ref h0, .ref a0, .int a1] none := by
  refine Ct.mk (by decide) rfl (Nat.le_of_ble_eq_true rfl) ?_
  intro p e s m args below meth c A ls hx hb hr hml hts hown hlocks hA hE hP hD hS hl hAe
  obtain ⟨Qx, hQ⟩ : ∃ Qx : State → Prop, Qx = MQ below (QcG g (wRfRow g h0 h1 h2 h3 a0 R n f) (wRfRow g h0 h1 h2 h3 a0 R n (f')) none s.heap.size) args s 0 0 A := ⟨_, rfl⟩
  rw [← hQ]
  have hown : s.vm.findClass RX1 = some m.cls := hown
  have hl : lv_has ls 4 [(0, .ref h0), (1, .ref a0), (2, .int a1)] := hl
  have w1 := hts (.fieldLink RX1 21 "RainVault$Roof" "cisterns" "I") (List.mem_of_getElem? (i := 1) rfl)
  have w2 := hts (.initialized RX6) (List.mem_of_getElem? (i := 9) rfl)
  have w3 := hts (.static yX6_put) (List.mem_of_getElem? (i := 8) rfl)
  have L2 : ∀ (x2 : Int32) (kx : (Nat → Int32) → Option ((Nat → Int32))) (k : Nat) (f : Nat → Int32) (x3 : Int32) (H : Heap) (locs : List Loc) (ls : Array Slot), fX1_keepLevels_L2 R n x2 kx k f x3 = some f' → va_P g.1 vwK (wRfRow g h0 h1 h2 h3 a0 R n f) H → va_D A (wRfRow g h0 h1 h2 h3 a0 R n f) → va_S A s.heap H locs → lv_has ls 4 [(0, .ref h0), (1, .ref a0), (2, .int x2), (3, .int x3)] → (∀ (f : Nat → Int32) (H : Heap) (locs : List Loc) (ls : Array Slot), kx f = some f' → va_P g.1 vwK (wRfRow g h0 h1 h2 h3 a0 R n f) H → va_D A (wRfRow g h0 h1 h2 h3 a0 R n f) → va_S A s.heap H locs → lv_has ls 4 [] → W p l e (rmm 1 23) s m args below meth c H locs 0 0 Qx (F0 m 29 ls [])) → W p l e (rmm 1 23) s m args below meth c H locs 0 0 Qx (F0 m 2 ls []) := by
    intro x2 kx k
    induction k with
    | zero => intro f x3 H locs ls hf; exact nomatch (show (none : Option ((Nat → Int32))) = some _ from hf)
    | succ k ih =>
      intro f x3 H locs ls hf hP hD hS hl hk
      rw [fX1_keepLevels_L2] at hf
      refine lv_iload_n hx hb dX1_keepLevels_2 rfl (lv_at hl 3 rfl) ?_
      refine lv_aload_n hx hb dX1_keepLevels_3 rfl (lv_at hl 0 rfl) ?_
      refine va_get (D := g.1) (ci := 1) (v := .int R.2.2.2.1) (C := RX1) (T := TX1) (N := 9) hx hb hts i_X1_keepLevels_X1 hown hE.1 hP 0 rfl rfl 3 (by decide) w1 (fun _ h9 => h9) rfl dX1_keepLevels_4 ?_
      refine lv_icmp_ge (tgt := 29) hx hb dX1_keepLevels_7 (by decide) (fun hc => ?_) (fun hc => ?_)
      · have hf := if_t hf hc
        exact hk _ _ _ _  hf hP hD hS (lv_sub hl [] rfl)
      · have hf := if_f hf hc
        refine lv_aload_n hx hb dX1_keepLevels_10 rfl (lv_at hl 1 rfl) ?_
        refine lv_iload_n hx hb dX1_keepLevels_11 rfl (lv_at hl 2 rfl) ?_
        refine lv_iload_n hx hb dX1_keepLevels_12 rfl (lv_at hl 3 rfl) ?_
        refine lv_iadd hx hb dX1_keepLevels_13 ?_
        refine lv_aload_n hx hb dX1_keepLevels_14 rfl (lv_at hl 0 rfl) ?_
        refine lv_iload_n hx hb dX1_keepLevels_15 rfl (lv_at hl 3 rfl) ?_
        refine lv_iconst (v := (2 : Int32)) hx hb dX1_keepLevels_16 (by decide) ?_
        obtain ⟨x103, hg, hf⟩ := o1_s hf
        refine Ct.callV (ws' := wRfRow g h0 h1 h2 h3 a0 R n f) (As := [.int x3, .int (2 : Int32)]) (rest := [.int (x2 + x3), .ref a0]) (st1 := [.int x103, .int (x2 + x3), .ref a0]) (c_X1_get l g h0 h1 h2 h3 R x3 (2 : Int32) hg) (cwV 2 hts gX1_keepLevels_X1_get rfl rfl rfl q_X1_get ⟨Nat.le_of_ble_eq_true rfl, Nat.le_of_ble_eq_true rfl⟩) ⟨hx, hb, hml, hown, hts⟩ hE hP hD hS hA [0, 1, 2, 3] rfl rfl rfl rfl 1 0 rfl rfl rfl rfl hl.1 rfl rfl (Nat.le_of_ble_eq_true rfl) dX1_keepLevels_17 (fun H locs hP hD hS => ?_)
        obtain ⟨f104, hg, hf⟩ := o1_s hf
        refine Ct.callSN (ws' := wRfRow g h0 h1 h2 h3 a0 R n f104) (As := [.ref a0, .int (x2 + x3), .int x103]) (rest := []) (st1 := []) (c_X6_put l g a0 n f (x2 + x3) x103 hg) (⟨va_cnB 3 hts gX1_keepLevels_X6_put_n126 rfl rfl rfl (hE.2.1 _ (List.mem_of_getElem? (i := 28) rfl)) w2 q_X6_put.2 ⟨Nat.le_of_ble_eq_true rfl, Nat.le_of_ble_eq_true rfl⟩, w3, trivial⟩) ⟨hx, hb, hml, hown, hts⟩ hE hP hD hS hA [4] rfl rfl rfl rfl rfl hl.1 rfl rfl (Nat.le_of_ble_eq_true rfl) dX1_keepLevels_20 (fun H locs hP hD hS => ?_)
        refine lv_iinc (v := (x3 + (1 : Int32))) (lv' := [(3, .int (x3 + (1 : Int32))), (0, .ref h0), (1, .ref a0), (2, .int x2)]) hx hb dX1_keepLevels_23 hl (k := 3) rfl rfl (by decide) rfl (fun ls hl => ?_)
        refine lv_goto (tgt := 2) hx hb dX1_keepLevels_26 (by decide) ?_
        exact ih _ _ _ _ _  hf hP hD hS (lv_sub hl [1, 2, 3, 0] rfl) hk
  unfold fX1_keepLevels at hf
  refine lv_iconst (v := (0 : Int32)) hx hb dX1_keepLevels_0 (by decide) ?_
  refine lv_istore_n (lv' := [(3, .int (0 : Int32)), (0, .ref h0), (1, .ref a0), (2, .int a1)]) hx hb dX1_keepLevels_1 rfl hl (by decide) rfl (fun ls hl => ?_)
  refine L2 _ _ _ _ _ _ _ _  hf hP hD hS (lv_sub hl [1, 2, 3, 0] rfl) (fun f105 H locs ls hf hP hD hS hl => ?_)
  obtain rfl := Option.some.inj hf
  rw [hQ]; exact Ct.vret hx hb hr hlocks hAe hP hD hS dX1_keepLevels_29
def fX0_beginWays_L2 (kx : Ca → Option (Ca)) : Nat → Ca → Int32 → Option (Ca)
  | 0, _, _ => none
  | k + 1, C, x1 => if (4 : Int32) ≤ x1 then (kx C) else (wr C.2 4 x1 (0 : Int32) (fun f102 => fX0_beginWays_L2 kx k (C.1, f102) (x1 + (1 : Int32))))
def fX0_beginWays (C : Ca) : Option (Ca) := fX0_beginWays_L2 (fun C103 => some C103) fu C (0 : Int32)
theorem q_X0_beginWays : yX0_beginWays.cls = RX0 ∧ yX0_beginWays.cls ≠ "java/lang/invoke/MethodHandle" ∧ yX0_beginWays.cls ≠ "java/lang/invoke/VarHandle" ∧ (parseMethodDescriptor yX0_beginWays.desc).map (fun d => d.parameters.length) = some 0 := by decide +kernel
theorem i_X0_beginWays_X0 : ∀ w ∈ u_ws RX0 TX0 3, w ∈ wsX0_beginWays := fun _ h => List.mem_cons_of_mem _ (List.mem_append_right _ (h))
set_option maxHeartbeats 4000000 in
set_option maxRecDepth 100000 in
theorem c_X0_beginWays (l : Launch) (g : gG) (c0 c1 c2 h0 h1 h2 h3 : Nat) (C : Ca) (R : Rf) {C' : Ca} (hf : fX0_beginWays C = some C') : Ct l yX0_beginWays wsX0_beginWays (rmm 0 0) g (wCa g c0 c1 c2 h0 h1 h2 h3 C R) (wCa g c0 c1 c2 h0 h1 h2 h3 (C') R) [.ref c0] none := by
  refine Ct.mk (by decide) rfl (Nat.le_of_ble_eq_true rfl) ?_
  intro p e s m args below meth c A ls hx hb hr hml hts hown hlocks hA hE hP hD hS hl hAe
  obtain ⟨Qx, hQ⟩ : ∃ Qx : State → Prop, Qx = MQ below (QcG g (wCa g c0 c1 c2 h0 h1 h2 h3 C R) (wCa g c0 c1 c2 h0 h1 h2 h3 (C') R) none s.heap.size) args s 0 0 A := ⟨_, rfl⟩
  rw [← hQ]
  have hown : s.vm.findClass RX0 = some m.cls := hown
  have hl : lv_has ls 2 [(0, .ref c0)] := hl
  have w1 := hts (.fieldLink RX0 15 "RainVault$Carrier" "way" "[I") (List.mem_of_getElem? (i := 1) rfl)
  have L2 : ∀ (kx : Ca → Option (Ca)) (k : Nat) (C : Ca) (x1 : Int32) (H : Heap) (locs : List Loc) (ls : Array Slot), fX0_beginWays_L2 kx k C x1 = some C' → va_P g.1 vwK (wCa g c0 c1 c2 h0 h1 h2 h3 C R) H → va_D A (wCa g c0 c1 c2 h0 h1 h2 h3 C R) → va_S A s.heap H locs → lv_has ls 2 [(0, .ref c0), (1, .int x1)] → (∀ (C : Ca) (H : Heap) (locs : List Loc) (ls : Array Slot), kx C = some C' → va_P g.1 vwK (wCa g c0 c1 c2 h0 h1 h2 h3 C R) H → va_D A (wCa g c0 c1 c2 h0 h1 h2 h3 C R) → va_S A s.heap H locs → lv_has ls 2 [] → W p l e (rmm 0 0) s m args below meth c H locs 0 0 Qx (F0 m 24 ls [])) → W p l e (rmm 0 0) s m args below meth c H locs 0 0 Qx (F0 m 2 ls []) := by
    intro kx k
    induction k with
    | zero => intro C x1 H locs ls hf; exact nomatch (show (none : Option (Ca)) = some _ from hf)
    | succ k ih =>
      intro C x1 H locs ls hf hP hD hS hl hk
      rw [fX0_beginWays_L2] at hf
      refine lv_iload_n hx hb dX0_beginWays_2 rfl (lv_at hl 1 rfl) ?_
      refine lv_aload_n hx hb dX0_beginWays_3 rfl (lv_at hl 0 rfl) ?_
      refine va_get (D := g.1) (ci := 0) (v := .ref c2) (C := RX0) (T := TX0) (N := 3) hx hb hts i_X0_beginWays_X0 hown hE.1 hP 0 rfl rfl 2 (by decide) w1 (fun _ h9 => h9) rfl dX0_beginWays_4 ?_
      refine va_alen (v := (4 : Int32)) hx hb hE.1 hP 2 0 rfl rfl (show Int32.ofNat 4 = (4 : Int32) by decide) dX0_beginWays_7 ?_
      refine lv_icmp_ge (tgt := 24) hx hb dX0_beginWays_8 (by decide) (fun hc => ?_) (fun hc => ?_)
      · have hf := if_t hf hc
        exact hk _ _ _ _  hf hP hD hS (lv_sub hl [] rfl)
      · have hf := if_f hf hc
        refine lv_aload_n hx hb dX0_beginWays_11 rfl (lv_at hl 0 rfl) ?_
        refine va_get (D := g.1) (ci := 0) (v := .ref c2) (C := RX0) (T := TX0) (N := 3) hx hb hts i_X0_beginWays_X0 hown hE.1 hP 0 rfl rfl 2 (by decide) w1 (fun _ h9 => h9) rfl dX0_beginWays_12 ?_
        refine lv_iload_n hx hb dX0_beginWays_15 rfl (lv_at hl 1 rfl) ?_
        refine lv_iconst (v := (0 : Int32)) hx hb dX0_beginWays_16 (by decide) ?_
        obtain ⟨f102, ef, hin, hf⟩ := wr_s hf
        refine st_iast (ws' := wCa g c0 c1 c2 h0 h1 h2 h3 (C.1, f102) R) (f := C.2) (f2 := f102) hx hb hE.1 hP hD hS 2 0 rfl rfl hin ef rfl dX0_beginWays_17 (fun H locs hP hD hS => ?_)
        refine lv_iinc (v := (x1 + (1 : Int32))) (lv' := [(1, .int (x1 + (1 : Int32))), (0, .ref c0)]) hx hb dX0_beginWays_18 hl (k := 1) rfl rfl (by decide) rfl (fun ls hl => ?_)
        refine lv_goto (tgt := 2) hx hb dX0_beginWays_21 (by decide) ?_
        exact ih _ _ _ _ _  hf hP hD hS (lv_sub hl [1, 0] rfl) hk
  unfold fX0_beginWays at hf
  refine lv_iconst (v := (0 : Int32)) hx hb dX0_beginWays_0 (by decide) ?_
  refine lv_istore_n (lv' := [(1, .int (0 : Int32)), (0, .ref c0)]) hx hb dX0_beginWays_1 rfl hl (by decide) rfl (fun ls hl => ?_)
  refine L2 _ _ _ _ _ _ _  hf hP hD hS (lv_sub hl [1, 0] rfl) (fun C103 H locs ls hf hP hD hS hl => ?_)
  obtain rfl := Option.some.inj hf
  rw [hQ]; exact Ct.vret hx hb hr hlocks hAe hP hD hS dX0_beginWays_24
def fX6_at (n : Nat) (f : Nat → Int32) (a1 : Int32) : Option (Int32) := if a1 < 0 then (some (0 : Int32)) else (if (Int32.ofNat n) ≤ a1 then (some (0 : Int32)) else (rd f n a1 (fun x101 => some x101)))
theorem q_X6_at : yX6_at.cls = RX6 ∧ yX6_at.cls ≠ "java/lang/invoke/MethodHandle" ∧ yX6_at.cls ≠ "java/lang/invoke/VarHandle" ∧ (parseMethodDescriptor yX6_at.desc).map (fun d => d.parameters.length) = some 2 := by decide +kernel
set_option maxHeartbeats 4000000 in
set_option maxRecDepth 100000 in
theorem c_X6_at (l : Launch) (g : gG) (a0 : Nat) (n : Nat) (f : Nat → Int32) (a1 : Int32) {r : Int32} (hf : fX6_at n f a1 = some r) : Ct l yX6_at wsX6_at (rmm 0 0) g (wRow g a0 n f) (wRow g a0 n f) [.ref a0, .int a1] (some (.int r)) := by
  refine Ct.mk (by decide) rfl (Nat.le_of_ble_eq_true rfl) ?_
  intro p e s m args below meth c A ls hx hb hr hml hts hown hlocks hA hE hP hD hS hl hAe
  obtain ⟨Qx, hQ⟩ : ∃ Qx : State → Prop, Qx = MQ below (QcG g (wRow g a0 n f) (wRow g a0 n f) (some (.int r)) s.heap.size) args s 0 0 A := ⟨_, rfl⟩
  rw [← hQ]
  have hown : s.vm.findClass RX6 = some m.cls := hown
  have hl : lv_has ls 2 [(0, .ref a0), (1, .int a1)] := hl
  unfold fX6_at at hf
  refine lv_iload_n hx hb dX6_at_0 rfl (lv_at hl 1 rfl) ?_
  refine lv_if_lt (tgt := 16) hx hb dX6_at_1 (by decide) (fun hc => ?_) (fun hc => ?_)
  · have hf := if_t hf hc
    refine lv_iconst (v := (0 : Int32)) hx hb dX6_at_16 (by decide) ?_
    obtain rfl := Option.some.inj hf
    rw [hQ]; exact Ct.iret hx hb hr hlocks hAe hP hD hS dX6_at_17
  · have hf := if_f hf hc
    refine lv_iload_n hx hb dX6_at_4 rfl (lv_at hl 1 rfl) ?_
    refine lv_aload_n hx hb dX6_at_5 rfl (lv_at hl 0 rfl) ?_
    refine va_alen (v := Int32.ofNat n) hx hb hE.1 hP 0 0 rfl rfl rfl dX6_at_6 ?_
    refine lv_icmp_ge (tgt := 16) hx hb dX6_at_7 (by decide) (fun hc => ?_) (fun hc => ?_)
    · have hf := if_t hf hc
      refine lv_iconst (v := (0 : Int32)) hx hb dX6_at_16 (by decide) ?_
      obtain rfl := Option.some.inj hf
      rw [hQ]; exact Ct.iret hx hb hr hlocks hAe hP hD hS dX6_at_17
    · have hf := if_f hf hc
      refine lv_aload_n hx hb dX6_at_10 rfl (lv_at hl 0 rfl) ?_
      refine lv_iload_n hx hb dX6_at_11 rfl (lv_at hl 1 rfl) ?_
      obtain ⟨x101, ex, hin, hf⟩ := rd_s hf
      refine st_iald (f := f) hx hb hE.1 hP 0 0 rfl rfl hin ex dX6_at_12 ?_
      refine lv_goto (tgt := 17) hx hb dX6_at_13 (by decide) ?_
      obtain rfl := Option.some.inj hf
      rw [hQ]; exact Ct.iret hx hb hr hlocks hAe hP hD hS dX6_at_17
def fX6_at_K0 (a1 : Int32) : Option (Int32) := if a1 < 0 then (some (0 : Int32)) else (if (11 : Int32) ≤ a1 then (some (0 : Int32)) else (rd kLeast 11 a1 (fun x101 => some x101)))
set_option maxHeartbeats 4000000 in
set_option maxRecDepth 100000 in
theorem c_X6_at_K0 (l : Launch) (g : gG) (a1 : Int32) {r : Int32} (hf : fX6_at_K0 a1 = some r) : Ct l yX6_at wsX6_at (rmm 0 0) g (wNil g  ) (wNil g  ) [.ref (g.2.2 0), .int a1] (some (.int r)) := by
  refine Ct.mk (by decide) rfl (Nat.le_of_ble_eq_true rfl) ?_
  intro p e s m args below meth c A ls hx hb hr hml hts hown hlocks hA hE hP hD hS hl hAe
  obtain ⟨Qx, hQ⟩ : ∃ Qx : State → Prop, Qx = MQ below (QcG g (wNil g  ) (wNil g  ) (some (.int r)) s.heap.size) args s 0 0 A := ⟨_, rfl⟩
  rw [← hQ]
  have hown : s.vm.findClass RX6 = some m.cls := hown
  have hl : lv_has ls 2 [(0, .ref (g.2.2 0)), (1, .int a1)] := hl
  unfold fX6_at_K0 at hf
  refine lv_iload_n hx hb dX6_at_0 rfl (lv_at hl 1 rfl) ?_
  refine lv_if_lt (tgt := 16) hx hb dX6_at_1 (by decide) (fun hc => ?_) (fun hc => ?_)
  · have hf := if_t hf hc
    refine lv_iconst (v := (0 : Int32)) hx hb dX6_at_16 (by decide) ?_
    obtain rfl := Option.some.inj hf
    rw [hQ]; exact Ct.iret hx hb hr hlocks hAe hP hD hS dX6_at_17
  · have hf := if_f hf hc
    refine lv_iload_n hx hb dX6_at_4 rfl (lv_at hl 1 rfl) ?_
    refine lv_aload_n hx hb dX6_at_5 rfl (lv_at hl 0 rfl) ?_
    refine va_tlen (v := (11 : Int32)) hx hb hE.2.2.1.1 hS (show Int32.ofNat 11 = (11 : Int32) by decide) dX6_at_6 ?_
    refine lv_icmp_ge (tgt := 16) hx hb dX6_at_7 (by decide) (fun hc => ?_) (fun hc => ?_)
    · have hf := if_t hf hc
      refine lv_iconst (v := (0 : Int32)) hx hb dX6_at_16 (by decide) ?_
      obtain rfl := Option.some.inj hf
      rw [hQ]; exact Ct.iret hx hb hr hlocks hAe hP hD hS dX6_at_17
    · have hf := if_f hf hc
      refine lv_aload_n hx hb dX6_at_10 rfl (lv_at hl 0 rfl) ?_
      refine lv_iload_n hx hb dX6_at_11 rfl (lv_at hl 1 rfl) ?_
      obtain ⟨x101, ex, hin, hf⟩ := rd_s hf
      refine va_ti hx hb hE.2.2.1.1 hS hin (congrArg Value.int ex.symm) dX6_at_12 ?_
      refine lv_goto (tgt := 17) hx hb dX6_at_13 (by decide) ?_
      obtain rfl := Option.some.inj hf
      rw [hQ]; exact Ct.iret hx hb hr hlocks hAe hP hD hS dX6_at_17
def fX6_at_K1 (a1 : Int32) : Option (Int32) := if a1 < 0 then (some (0 : Int32)) else (if (11 : Int32) ≤ a1 then (some (0 : Int32)) else (rd kMost 11 a1 (fun x101 => some x101)))
set_option maxHeartbeats 4000000 in
set_option maxRecDepth 100000 in
theorem c_X6_at_K1 (l : Launch) (g : gG) (a1 : Int32) {r : Int32} (hf : fX6_at_K1 a1 = some r) : Ct l yX6_at wsX6_at (rmm 0 0) g (wNil g  ) (wNil g  ) [.ref (g.2.2 1), .int a1] (some (.int r)) := by
  refine Ct.mk (by decide) rfl (Nat.le_of_ble_eq_true rfl) ?_
  intro p e s m args below meth c A ls hx hb hr hml hts hown hlocks hA hE hP hD hS hl hAe
  obtain ⟨Qx, hQ⟩ : ∃ Qx : State → Prop, Qx = MQ below (QcG g (wNil g  ) (wNil g  ) (some (.int r)) s.heap.size) args s 0 0 A := ⟨_, rfl⟩
  rw [← hQ]
  have hown : s.vm.findClass RX6 = some m.cls := hown
  have hl : lv_has ls 2 [(0, .ref (g.2.2 1)), (1, .int a1)] := hl
  unfold fX6_at_K1 at hf
  refine lv_iload_n hx hb dX6_at_0 rfl (lv_at hl 1 rfl) ?_
  refine lv_if_lt (tgt := 16) hx hb dX6_at_1 (by decide) (fun hc => ?_) (fun hc => ?_)
  · have hf := if_t hf hc
    refine lv_iconst (v := (0 : Int32)) hx hb dX6_at_16 (by decide) ?_
    obtain rfl := Option.some.inj hf
    rw [hQ]; exact Ct.iret hx hb hr hlocks hAe hP hD hS dX6_at_17
  · have hf := if_f hf hc
    refine lv_iload_n hx hb dX6_at_4 rfl (lv_at hl 1 rfl) ?_
    refine lv_aload_n hx hb dX6_at_5 rfl (lv_at hl 0 rfl) ?_
    refine va_tlen (v := (11 : Int32)) hx hb hE.2.2.1.2.1 hS (show Int32.ofNat 11 = (11 : Int32) by decide) dX6_at_6 ?_
    refine lv_icmp_ge (tgt := 16) hx hb dX6_at_7 (by decide) (fun hc => ?_) (fun hc => ?_)
    · have hf := if_t hf hc
      refine lv_iconst (v := (0 : Int32)) hx hb dX6_at_16 (by decide) ?_
      obtain rfl := Option.some.inj hf
      rw [hQ]; exact Ct.iret hx hb hr hlocks hAe hP hD hS dX6_at_17
    · have hf := if_f hf hc
      refine lv_aload_n hx hb dX6_at_10 rfl (lv_at hl 0 rfl) ?_
      refine lv_iload_n hx hb dX6_at_11 rfl (lv_at hl 1 rfl) ?_
      obtain ⟨x101, ex, hin, hf⟩ := rd_s hf
      refine va_ti hx hb hE.2.2.1.2.1 hS hin (congrArg Value.int ex.symm) dX6_at_12 ?_
      refine lv_goto (tgt := 17) hx hb dX6_at_13 (by decide) ?_
      obtain rfl := Option.some.inj hf
      rw [hQ]; exact Ct.iret hx hb hr hlocks hAe hP hD hS dX6_at_17
def fX6_copyRow_raw (n : Nat) (f : Nat → Int32) (f2 : Nat → Int32) : Option ((Nat → Int32)) := cp f f2 n n (0 : Int32) (0 : Int32) (if (Int32.ofNat n) < (Int32.ofNat n) then (Int32.ofNat n) else (Int32.ofNat n)) (fun f101 => some f101)
theorem q_X6_copyRow : yX6_copyRow.cls = RX6 ∧ yX6_copyRow.cls ≠ "java/lang/invoke/MethodHandle" ∧ yX6_copyRow.cls ≠ "java/lang/invoke/VarHandle" ∧ (parseMethodDescriptor yX6_copyRow.desc).map (fun d => d.parameters.length) = some 2 := by decide +kernel
set_option maxHeartbeats 4000000 in
set_option maxRecDepth 100000 in
theorem c_X6_copyRow_raw (l : Launch) (g : gG) (a0 a1 : Nat) (n : Nat) (f : Nat → Int32) (f2 : Nat → Int32) {f2' : Nat → Int32} (hf : fX6_copyRow_raw n f f2 = some f2') : Ct l yX6_copyRow wsX6_copyRow (rmm 1 60) g (wRow2 g a0 a1 n f f2) (wRow2 g a0 a1 n f (f2')) [.ref a0, .ref a1] none := by
  refine Ct.mk (by decide) rfl (Nat.le_of_ble_eq_true rfl) ?_
  intro p e s m args below meth c A ls hx hb hr hml hts hown hlocks hA hE hP hD hS hl hAe
  obtain ⟨Qx, hQ⟩ : ∃ Qx : State → Prop, Qx = MQ below (QcG g (wRow2 g a0 a1 n f f2) (wRow2 g a0 a1 n f (f2')) none s.heap.size) args s 0 0 A := ⟨_, rfl⟩
  rw [← hQ]
  have hown : s.vm.findClass RX6 = some m.cls := hown
  have hl : lv_has ls 2 [(0, .ref a0), (1, .ref a1)] := hl
  have w1 := hts (.methodLink RX6 276 Lib.Math.min.name) (List.mem_of_getElem? (i := 1) rfl)
  have w2 := hts (.static Lib.Math.min.name) (List.mem_of_getElem? (i := 2) rfl)
  have w3 := hts (.initialized "java/lang/Math") (List.mem_of_getElem? (i := 3) rfl)
  have w4 := hts (.code Lib.Math.min.name Lib.Math.min.code 2 (some .int)) (List.mem_of_getElem? (i := 4) rfl)
  have w5 := hts (.methodLink RX6 252 arraycopyName) (List.mem_of_getElem? (i := 5) rfl)
  have w6 := hts (.native arraycopyName) (List.mem_of_getElem? (i := 6) rfl)
  have w7 := hts (.static arraycopyName) (List.mem_of_getElem? (i := 7) rfl)
  have w8 := hts (.initialized "java/lang/System") (List.mem_of_getElem? (i := 8) rfl)
  unfold fX6_copyRow_raw at hf
  refine lv_aload_n hx hb dX6_copyRow_0 rfl (lv_at hl 0 rfl) ?_
  refine lv_iconst (v := (0 : Int32)) hx hb dX6_copyRow_1 (by decide) ?_
  refine lv_aload_n hx hb dX6_copyRow_2 rfl (lv_at hl 1 rfl) ?_
  refine lv_iconst (v := (0 : Int32)) hx hb dX6_copyRow_3 (by decide) ?_
  refine lv_aload_n hx hb dX6_copyRow_4 rfl (lv_at hl 0 rfl) ?_
  refine va_alen (v := Int32.ofNat n) hx hb hE.1 hP 0 0 rfl rfl rfl dX6_copyRow_5 ?_
  refine lv_aload_n hx hb dX6_copyRow_6 rfl (lv_at hl 1 rfl) ?_
  refine va_alen (v := Int32.ofNat n) hx hb hE.1 hP 1 0 rfl rfl rfl dX6_copyRow_7 ?_
  refine va_mmin hx hb (hml.trans hl.1.symm) hown w1 w2 w3 w4 (Nat.le_of_ble_eq_true rfl) (Nat.le_of_ble_eq_true rfl) (Nat.zero_le _) (Nat.zero_le _) dX6_copyRow_8 ?_
  obtain ⟨f101, ef, hcp, hf⟩ := cp_s hf
  refine st_copy (ws' := wRow2 g a0 a1 n f f101) (f := f) (g := f2) (f2 := f101) hx hb (hml.trans hl.1.symm) hown w5 w6 w7 w8 hE.1 hP hD hS 0 1 0 rfl rfl rfl ef hcp rfl (Nat.le_of_ble_eq_true rfl) (Nat.le_of_ble_eq_true rfl) dX6_copyRow_11 (fun H locs hP hD hS => ?_)
  obtain rfl := Option.some.inj hf
  rw [hQ]; exact Ct.vret hx hb hr hlocks hAe hP hD hS dX6_copyRow_14
def fX6_copyRow (n : Nat) (f : Nat → Int32) : Option (Nat → Int32) := if n < 2147483648 then some f else none
theorem c_X6_copyRow (l : Launch) (g : gG) (a0 a1 : Nat) (n : Nat) (f f2 : Nat → Int32) {f2' : Nat → Int32} (hf : fX6_copyRow n f = some f2') : Ct l yX6_copyRow wsX6_copyRow (rmm 1 60) g (wRow2 g a0 a1 n f f2) (wRow2 g a0 a1 n f f2') [.ref a0, .ref a1] none := by
  unfold fX6_copyRow at hf
  by_cases hn : n < 2147483648
  · rw [if_pos hn] at hf
    cases hf
    have hc : (Int32.ofNat n).toNatClampNeg = n := Int32.toNatClampNeg_ofNat_of_lt hn
    have h0 : ¬ Int32.ofNat n < 0 := nI_pos hn
    refine (c_X6_copyRow_raw l g a0 a1 n f f2 (f2' := va_cpy f f2 0 0 n) ?_).conv (fun H hP k q hk => ?_) rfl
    · unfold fX6_copyRow_raw cp
      rw [show (if Int32.ofNat n < Int32.ofNat n then Int32.ofNat n else Int32.ofNat n) = Int32.ofNat n from ite_self _]
      rw [if_pos ⟨by decide, by decide, h0, by rw [hc]; simp, by rw [hc]; simp⟩, hc]
      rfl
    · match k, hk with
      | 0, hk => exact hP 0 q hk
      | 1, hk =>
        cases hk
        exact row_eq (f := va_cpy f f2 0 0 n) (fun j hj => by rw [pk_cpy_in (Nat.zero_le _) (by omega)]; congr 1; omega) (hP 1 _ rfl)
      | k + 2, hk => cases hk
  · rw [if_neg hn] at hf; cases hf
def fX1_set (R : Rf) (a1 : Int32) (a2 : Int32) (a3 : Int32) : Option (Rf) := if ((a1 * (11 : Int32)) + a2) < 0 then (some R) else (if (88 : Int32) ≤ ((a1 * (11 : Int32)) + a2) then (some R) else (wr R.1 88 ((a1 * (11 : Int32)) + a2) a3 (fun f101 => some (f101, R.2.1, R.2.2.1, R.2.2.2.1, R.2.2.2.2.1, R.2.2.2.2.2.1, R.2.2.2.2.2.2.1, R.2.2.2.2.2.2.2.1, R.2.2.2.2.2.2.2.2))))
theorem q_X1_set : yX1_set.cls = RX1 ∧ yX1_set.cls ≠ "java/lang/invoke/MethodHandle" ∧ yX1_set.cls ≠ "java/lang/invoke/VarHandle" ∧ (parseMethodDescriptor yX1_set.desc).map (fun d => d.parameters.length) = some 3 := by decide +kernel
theorem i_X1_set_X1 : ∀ w ∈ u_ws RX1 TX1 9, w ∈ wsX1_set := fun _ h => List.mem_cons_of_mem _ (List.mem_append_right _ (h))
set_option maxHeartbeats 4000000 in
set_option maxRecDepth 100000 in
theorem c_X1_set (l : Launch) (g : gG) (h0 h1 h2 h3 : Nat) (R : Rf) (a1 : Int32) (a2 : Int32) (a3 : Int32) {R' : Rf} (hf : fX1_set R a1 a2 a3 = some R') : Ct l yX1_set wsX1_set (rmm 0 0) g (wRf g h0 h1 h2 h3 R) (wRf g h0 h1 h2 h3 (R')) [.ref h0, .int a1, .int a2, .int a3] none := by
  refine Ct.mk (by decide) rfl (Nat.le_of_ble_eq_true rfl) ?_
  intro p e s m args below meth c A ls hx hb hr hml hts hown hlocks hA hE hP hD hS hl hAe
  obtain ⟨Qx, hQ⟩ : ∃ Qx : State → Prop, Qx = MQ below (QcG g (wRf g h0 h1 h2 h3 R) (wRf g h0 h1 h2 h3 (R')) none s.heap.size) args s 0 0 A := ⟨_, rfl⟩
  rw [← hQ]
  have hown : s.vm.findClass RX1 = some m.cls := hown
  have hl : lv_has ls 5 [(0, .ref h0), (1, .int a1), (2, .int a2), (3, .int a3)] := hl
  have w1 := hts (.fieldLink RX1 9 "RainVault$Roof" "facts" "[I") (List.mem_of_getElem? (i := 1) rfl)
  unfold fX1_set at hf
  refine lv_iload_n hx hb dX1_set_0 rfl (lv_at hl 1 rfl) ?_
  refine lv_bipush (v := (11 : Int32)) hx hb dX1_set_1 (by decide) ?_
  refine lv_imul hx hb dX1_set_3 ?_
  refine lv_iload_n hx hb dX1_set_4 rfl (lv_at hl 2 rfl) ?_
  refine lv_iadd hx hb dX1_set_5 ?_
  refine lv_istore (lv' := [(4, .int ((a1 * (11 : Int32)) + a2)), (0, .ref h0), (1, .int a1), (2, .int a2), (3, .int a3)]) hx hb dX1_set_6 hl (by decide) rfl (fun ls hl => ?_)
  refine lv_iload hx hb dX1_set_8 (lv_at hl 0 rfl) ?_
  refine lv_if_lt (tgt := 31) hx hb dX1_set_10 (by decide) (fun hc => ?_) (fun hc => ?_)
  · have hf := if_t hf hc
    obtain rfl := Option.some.inj hf
    rw [hQ]; exact Ct.vret hx hb hr hlocks hAe hP hD hS dX1_set_31
  · have hf := if_f hf hc
    refine lv_iload hx hb dX1_set_13 (lv_at hl 0 rfl) ?_
    refine lv_aload_n hx hb dX1_set_15 rfl (lv_at hl 1 rfl) ?_
    refine va_get (D := g.1) (ci := 1) (v := .ref h1) (C := RX1) (T := TX1) (N := 9) hx hb hts i_X1_set_X1 hown hE.1 hP 0 rfl rfl 0 (by decide) w1 (fun _ h9 => h9) rfl dX1_set_16 ?_
    refine va_alen (v := (88 : Int32)) hx hb hE.1 hP 1 0 rfl rfl (show Int32.ofNat 88 = (88 : Int32) by decide) dX1_set_19 ?_
    refine lv_icmp_ge (tgt := 31) hx hb dX1_set_20 (by decide) (fun hc => ?_) (fun hc => ?_)
    · have hf := if_t hf hc
      obtain rfl := Option.some.inj hf
      rw [hQ]; exact Ct.vret hx hb hr hlocks hAe hP hD hS dX1_set_31
    · have hf := if_f hf hc
      refine lv_aload_n hx hb dX1_set_23 rfl (lv_at hl 1 rfl) ?_
      refine va_get (D := g.1) (ci := 1) (v := .ref h1) (C := RX1) (T := TX1) (N := 9) hx hb hts i_X1_set_X1 hown hE.1 hP 0 rfl rfl 0 (by decide) w1 (fun _ h9 => h9) rfl dX1_set_24 ?_
      refine lv_iload hx hb dX1_set_27 (lv_at hl 0 rfl) ?_
      refine lv_iload_n hx hb dX1_set_29 rfl (lv_at hl 4 rfl) ?_
      obtain ⟨f101, ef, hin, hf⟩ := wr_s hf
      refine st_iast (ws' := wRf g h0 h1 h2 h3 (f101, R.2.1, R.2.2.1, R.2.2.2.1, R.2.2.2.2.1, R.2.2.2.2.2.1, R.2.2.2.2.2.2.1, R.2.2.2.2.2.2.2.1, R.2.2.2.2.2.2.2.2)) (f := R.1) (f2 := f101) hx hb hE.1 hP hD hS 1 0 rfl rfl hin ef rfl dX1_set_30 (fun H locs hP hD hS => ?_)
      obtain rfl := Option.some.inj hf
      rw [hQ]; exact Ct.vret hx hb hr hlocks hAe hP hD hS dX1_set_31
def fX1_takeLevels_L2 (n : Nat) (f : Nat → Int32) (x2 : Int32) (kx : Rf → Option (Rf)) : Nat → Rf → Int32 → Option (Rf)
  | 0, _, _ => none
  | k + 1, R, x3 => if R.2.2.2.1 ≤ x3 then (kx R) else (o1 (fX6_at n f (x2 + x3)) (fun x103 => o1 (fX1_set R x3 (2 : Int32) x103) (fun R104 => fX1_takeLevels_L2 n f x2 kx k R104 (x3 + (1 : Int32)))))
def fX1_takeLevels (R : Rf) (n : Nat) (f : Nat → Int32) (a1 : Int32) : Option (Rf) := fX1_takeLevels_L2 n f a1 (fun R105 => some R105) fu R (0 : Int32)
theorem q_X1_takeLevels : yX1_takeLevels.cls = RX1 ∧ yX1_takeLevels.cls ≠ "java/lang/invoke/MethodHandle" ∧ yX1_takeLevels.cls ≠ "java/lang/invoke/VarHandle" ∧ (parseMethodDescriptor yX1_takeLevels.desc).map (fun d => d.parameters.length) = some 2 := by decide +kernel
theorem i_X1_takeLevels_X1 : ∀ w ∈ u_ws RX1 TX1 9, w ∈ wsX1_takeLevels := fun _ h => List.mem_cons_of_mem _ (List.mem_append_right _ (h))
set_option maxHeartbeats 4000000 in
set_option maxRecDepth 100000 in
theorem c_X1_takeLevels (l : Launch) (g : gG) (h0 h1 h2 h3 a0 : Nat) (R : Rf) (n : Nat) (f : Nat → Int32) (a1 : Int32) {R' : Rf} (hf : fX1_takeLevels R n f a1 = some R') : Ct l yX1_takeLevels wsX1_takeLevels (rmm 1 24) g (wRfRow g h0 h1 h2 h3 a0 R n f) (wRfRow g h0 h1 h2 h3 a0 (R') n f) [.ref h0, .ref a0, .int a1] none := by
  refine Ct.mk (by decide) rfl (Nat.le_of_ble_eq_true rfl) ?_
  intro p e s m args below meth c A ls hx hb hr hml hts hown hlocks hA hE hP hD hS hl hAe
  obtain ⟨Qx, hQ⟩ : ∃ Qx : State → Prop, Qx = MQ below (QcG g (wRfRow g h0 h1 h2 h3 a0 R n f) (wRfRow g h0 h1 h2 h3 a0 (R') n f) none s.heap.size) args s 0 0 A := ⟨_, rfl⟩
  rw [← hQ]
  have hown : s.vm.findClass RX1 = some m.cls := hown
  have hl : lv_has ls 4 [(0, .ref h0), (1, .ref a0), (2, .int a1)] := hl
  have w1 := hts (.fieldLink RX1 21 "RainVault$Roof" "cisterns" "I") (List.mem_of_getElem? (i := 1) rfl)
  have w2 := hts (.initialized RX6) (List.mem_of_getElem? (i := 3) rfl)
  have w3 := hts (.static yX6_at) (List.mem_of_getElem? (i := 2) rfl)
  have L2 : ∀ (x2 : Int32) (kx : Rf → Option (Rf)) (k : Nat) (R : Rf) (x3 : Int32) (H : Heap) (locs : List Loc) (ls : Array Slot), fX1_takeLevels_L2 n f x2 kx k R x3 = some R' → va_P g.1 vwK (wRfRow g h0 h1 h2 h3 a0 R n f) H → va_D A (wRfRow g h0 h1 h2 h3 a0 R n f) → va_S A s.heap H locs → lv_has ls 4 [(0, .ref h0), (1, .ref a0), (2, .int x2), (3, .int x3)] → (∀ (R : Rf) (H : Heap) (locs : List Loc) (ls : Array Slot), kx R = some R' → va_P g.1 vwK (wRfRow g h0 h1 h2 h3 a0 R n f) H → va_D A (wRfRow g h0 h1 h2 h3 a0 R n f) → va_S A s.heap H locs → lv_has ls 4 [] → W p l e (rmm 1 24) s m args below meth c H locs 0 0 Qx (F0 m 29 ls [])) → W p l e (rmm 1 24) s m args below meth c H locs 0 0 Qx (F0 m 2 ls []) := by
    intro x2 kx k
    induction k with
    | zero => intro R x3 H locs ls hf; exact nomatch (show (none : Option (Rf)) = some _ from hf)
    | succ k ih =>
      intro R x3 H locs ls hf hP hD hS hl hk
      rw [fX1_takeLevels_L2] at hf
      refine lv_iload_n hx hb dX1_takeLevels_2 rfl (lv_at hl 3 rfl) ?_
      refine lv_aload_n hx hb dX1_takeLevels_3 rfl (lv_at hl 0 rfl) ?_
      refine va_get (D := g.1) (ci := 1) (v := .int R.2.2.2.1) (C := RX1) (T := TX1) (N := 9) hx hb hts i_X1_takeLevels_X1 hown hE.1 hP 0 rfl rfl 3 (by decide) w1 (fun _ h9 => h9) rfl dX1_takeLevels_4 ?_
      refine lv_icmp_ge (tgt := 29) hx hb dX1_takeLevels_7 (by decide) (fun hc => ?_) (fun hc => ?_)
      · have hf := if_t hf hc
        exact hk _ _ _ _  hf hP hD hS (lv_sub hl [] rfl)
      · have hf := if_f hf hc
        refine lv_aload_n hx hb dX1_takeLevels_10 rfl (lv_at hl 0 rfl) ?_
        refine lv_iload_n hx hb dX1_takeLevels_11 rfl (lv_at hl 3 rfl) ?_
        refine lv_iconst (v := (2 : Int32)) hx hb dX1_takeLevels_12 (by decide) ?_
        refine lv_aload_n hx hb dX1_takeLevels_13 rfl (lv_at hl 1 rfl) ?_
        refine lv_iload_n hx hb dX1_takeLevels_14 rfl (lv_at hl 2 rfl) ?_
        refine lv_iload_n hx hb dX1_takeLevels_15 rfl (lv_at hl 3 rfl) ?_
        refine lv_iadd hx hb dX1_takeLevels_16 ?_
        obtain ⟨x103, hg, hf⟩ := o1_s hf
        refine Ct.callSN (ws' := wRfRow g h0 h1 h2 h3 a0 R n f) (As := [.ref a0, .int (x2 + x3)]) (rest := [.int (2 : Int32), .int x3, .ref h0]) (st1 := [.int x103, .int (2 : Int32), .int x3, .ref h0]) (c_X6_at l g a0 n f (x2 + x3) hg) (⟨va_cnB 2 hts gX1_takeLevels_X6_at_n61 rfl rfl rfl (hE.2.1 _ (List.mem_of_getElem? (i := 26) rfl)) w2 q_X6_at.2 ⟨Nat.le_of_ble_eq_true rfl, Nat.le_of_ble_eq_true rfl⟩, w3, trivial⟩) ⟨hx, hb, hml, hown, hts⟩ hE hP hD hS hA [4] rfl rfl rfl rfl rfl hl.1 rfl rfl (Nat.le_of_ble_eq_true rfl) dX1_takeLevels_17 (fun H locs hP hD hS => ?_)
        obtain ⟨R104, hg, hf⟩ := o1_s hf
        refine Ct.callV (ws' := wRfRow g h0 h1 h2 h3 a0 R104 n f) (As := [.int x3, .int (2 : Int32), .int x103]) (rest := []) (st1 := []) (c_X1_set l g h0 h1 h2 h3 R x3 (2 : Int32) x103 hg) (cwV 3 hts gX1_takeLevels_X1_set rfl rfl rfl q_X1_set ⟨Nat.le_of_ble_eq_true rfl, Nat.le_of_ble_eq_true rfl⟩) ⟨hx, hb, hml, hown, hts⟩ hE hP hD hS hA [0, 1, 2, 3] rfl rfl rfl rfl 1 0 rfl rfl rfl rfl hl.1 rfl rfl (Nat.le_of_ble_eq_true rfl) dX1_takeLevels_20 (fun H locs hP hD hS => ?_)
        refine lv_iinc (v := (x3 + (1 : Int32))) (lv' := [(3, .int (x3 + (1 : Int32))), (0, .ref h0), (1, .ref a0), (2, .int x2)]) hx hb dX1_takeLevels_23 hl (k := 3) rfl rfl (by decide) rfl (fun ls hl => ?_)
        refine lv_goto (tgt := 2) hx hb dX1_takeLevels_26 (by decide) ?_
        exact ih _ _ _ _ _  hf hP hD hS (lv_sub hl [1, 2, 3, 0] rfl) hk
  unfold fX1_takeLevels at hf
  refine lv_iconst (v := (0 : Int32)) hx hb dX1_takeLevels_0 (by decide) ?_
  refine lv_istore_n (lv' := [(3, .int (0 : Int32)), (0, .ref h0), (1, .ref a0), (2, .int a1)]) hx hb dX1_takeLevels_1 rfl hl (by decide) rfl (fun ls hl => ?_)
  refine L2 _ _ _ _ _ _ _ _  hf hP hD hS (lv_sub hl [1, 2, 3, 0] rfl) (fun R105 H locs ls hf hP hD hS hl => ?_)
  obtain rfl := Option.some.inj hf
  rw [hQ]; exact Ct.vret hx hb hr hlocks hAe hP hD hS dX1_takeLevels_29
def fX1_hasCistern (R : Rf) (a1 : Int32) : Option (Int32) := if a1 < 0 then (some (0 : Int32)) else (if R.2.2.2.1 ≤ a1 then (some (0 : Int32)) else (some (1 : Int32)))
theorem q_X1_hasCistern : yX1_hasCistern.cls = RX1 ∧ yX1_hasCistern.cls ≠ "java/lang/invoke/MethodHandle" ∧ yX1_hasCistern.cls ≠ "java/lang/invoke/VarHandle" ∧ (parseMethodDescriptor yX1_hasCistern.desc).map (fun d => d.parameters.length) = some 1 := by decide +kernel
theorem i_X1_hasCistern_X1 : ∀ w ∈ u_ws RX1 TX1 9, w ∈ wsX1_hasCistern := fun _ h => List.mem_cons_of_mem _ (List.mem_append_right _ (h))
set_option maxHeartbeats 4000000 in
set_option maxRecDepth 100000 in
theorem c_X1_hasCistern (l : Launch) (g : gG) (h0 h1 h2 h3 : Nat) (R : Rf) (a1 : Int32) {r : Int32} (hf : fX1_hasCistern R a1 = some r) : Ct l yX1_hasCistern wsX1_hasCistern (rmm 0 0) g (wRf g h0 h1 h2 h3 R) (wRf g h0 h1 h2 h3 R) [.ref h0, .int a1] (some (.int r)) := by
  refine Ct.mk (by decide) rfl (Nat.le_of_ble_eq_true rfl) ?_
  intro p e s m args below meth c A ls hx hb hr hml hts hown hlocks hA hE hP hD hS hl hAe
  obtain ⟨Qx, hQ⟩ : ∃ Qx : State → Prop, Qx = MQ below (QcG g (wRf g h0 h1 h2 h3 R) (wRf g h0 h1 h2 h3 R) (some (.int r)) s.heap.size) args s 0 0 A := ⟨_, rfl⟩
  rw [← hQ]
  have hown : s.vm.findClass RX1 = some m.cls := hown
  have hl : lv_has ls 2 [(0, .ref h0), (1, .int a1)] := hl
  have w1 := hts (.fieldLink RX1 21 "RainVault$Roof" "cisterns" "I") (List.mem_of_getElem? (i := 1) rfl)
  unfold fX1_hasCistern at hf
  refine lv_iload_n hx hb dX1_hasCistern_0 rfl (lv_at hl 1 rfl) ?_
  refine lv_if_lt (tgt := 16) hx hb dX1_hasCistern_1 (by decide) (fun hc => ?_) (fun hc => ?_)
  · have hf := if_t hf hc
    refine lv_iconst (v := (0 : Int32)) hx hb dX1_hasCistern_16 (by decide) ?_
    obtain rfl := Option.some.inj hf
    rw [hQ]; exact Ct.zret hx hb hr (by decide) hlocks hAe hP hD hS dX1_hasCistern_17
  · have hf := if_f hf hc
    refine lv_iload_n hx hb dX1_hasCistern_4 rfl (lv_at hl 1 rfl) ?_
    refine lv_aload_n hx hb dX1_hasCistern_5 rfl (lv_at hl 0 rfl) ?_
    refine va_get (D := g.1) (ci := 1) (v := .int R.2.2.2.1) (C := RX1) (T := TX1) (N := 9) hx hb hts i_X1_hasCistern_X1 hown hE.1 hP 0 rfl rfl 3 (by decide) w1 (fun _ h9 => h9) rfl dX1_hasCistern_6 ?_
    refine lv_icmp_ge (tgt := 16) hx hb dX1_hasCistern_9 (by decide) (fun hc => ?_) (fun hc => ?_)
    · have hf := if_t hf hc
      refine lv_iconst (v := (0 : Int32)) hx hb dX1_hasCistern_16 (by decide) ?_
      obtain rfl := Option.some.inj hf
      rw [hQ]; exact Ct.zret hx hb hr (by decide) hlocks hAe hP hD hS dX1_hasCistern_17
    · have hf := if_f hf hc
      refine lv_iconst (v := (1 : Int32)) hx hb dX1_hasCistern_12 (by decide) ?_
      refine lv_goto (tgt := 17) hx hb dX1_hasCistern_13 (by decide) ?_
      obtain rfl := Option.some.inj hf
      rw [hQ]; exact Ct.zret hx hb hr (by decide) hlocks hAe hP hD hS dX1_hasCistern_17
def fX1_raise (R : Rf) (a1 : Int32) (a2 : Int32) : Option (Rf) := o1 (fX1_get R a1 (2 : Int32)) (fun x101 => o1 (fX1_set R a1 (2 : Int32) (x101 + a2)) (fun R102 => some R102))
theorem q_X1_raise : yX1_raise.cls = RX1 ∧ yX1_raise.cls ≠ "java/lang/invoke/MethodHandle" ∧ yX1_raise.cls ≠ "java/lang/invoke/VarHandle" ∧ (parseMethodDescriptor yX1_raise.desc).map (fun d => d.parameters.length) = some 2 := by decide +kernel
set_option maxHeartbeats 4000000 in
set_option maxRecDepth 100000 in
theorem c_X1_raise (l : Launch) (g : gG) (h0 h1 h2 h3 : Nat) (R : Rf) (a1 : Int32) (a2 : Int32) {R' : Rf} (hf : fX1_raise R a1 a2 = some R') : Ct l yX1_raise wsX1_raise (rmm 1 24) g (wRf g h0 h1 h2 h3 R) (wRf g h0 h1 h2 h3 (R')) [.ref h0, .int a1, .int a2] none := by
  refine Ct.mk (by decide) rfl (Nat.le_of_ble_eq_true rfl) ?_
  intro p e s m args below meth c A ls hx hb hr hml hts hown hlocks hA hE hP hD hS hl hAe
  obtain ⟨Qx, hQ⟩ : ∃ Qx : State → Prop, Qx = MQ below (QcG g (wRf g h0 h1 h2 h3 R) (wRf g h0 h1 h2 h3 (R')) none s.heap.size) args s 0 0 A := ⟨_, rfl⟩
  rw [← hQ]
  have hown : s.vm.findClass RX1 = some m.cls := hown
  have hl : lv_has ls 3 [(0, .ref h0), (1, .int a1), (2, .int a2)] := hl
  unfold fX1_raise at hf
  refine lv_aload_n hx hb dX1_raise_0 rfl (lv_at hl 0 rfl) ?_
  refine lv_iload_n hx hb dX1_raise_1 rfl (lv_at hl 1 rfl) ?_
  refine lv_iconst (v := (2 : Int32)) hx hb dX1_raise_2 (by decide) ?_
  refine lv_aload_n hx hb dX1_raise_3 rfl (lv_at hl 0 rfl) ?_
  refine lv_iload_n hx hb dX1_raise_4 rfl (lv_at hl 1 rfl) ?_
  refine lv_iconst (v := (2 : Int32)) hx hb dX1_raise_5 (by decide) ?_
  obtain ⟨x101, hg, hf⟩ := o1_s hf
  refine Ct.callV0 (ws' := wRf g h0 h1 h2 h3 R) (As := [.int a1, .int (2 : Int32)]) (rest := [.int (2 : Int32), .int a1, .ref h0]) (st1 := [.int x101, .int (2 : Int32), .int a1, .ref h0]) (c_X1_get l g h0 h1 h2 h3 R a1 (2 : Int32) hg) (cwV 2 hts gX1_raise_X1_get rfl rfl rfl q_X1_get ⟨Nat.le_of_ble_eq_true rfl, Nat.le_of_ble_eq_true rfl⟩) ⟨hx, hb, hml, hown, hts⟩ hE hP hD hS hA 1 0 rfl rfl rfl rfl hl.1 rfl rfl (Nat.le_of_ble_eq_true rfl) dX1_raise_6 (fun H locs hP hD hS => ?_)
  refine lv_iload_n hx hb dX1_raise_9 rfl (lv_at hl 2 rfl) ?_
  refine lv_iadd hx hb dX1_raise_10 ?_
  obtain ⟨R102, hg, hf⟩ := o1_s hf
  refine Ct.callV0 (ws' := wRf g h0 h1 h2 h3 R102) (As := [.int a1, .int (2 : Int32), .int (x101 + a2)]) (rest := []) (st1 := []) (c_X1_set l g h0 h1 h2 h3 R a1 (2 : Int32) (x101 + a2) hg) (cwV 3 hts gX1_raise_X1_set rfl rfl rfl q_X1_set ⟨Nat.le_of_ble_eq_true rfl, Nat.le_of_ble_eq_true rfl⟩) ⟨hx, hb, hml, hown, hts⟩ hE hP hD hS hA 1 0 rfl rfl rfl rfl hl.1 rfl rfl (Nat.le_of_ble_eq_true rfl) dX1_raise_11 (fun H locs hP hD hS => ?_)
  obtain rfl := Option.some.inj hf
  rw [hQ]; exact Ct.vret hx hb hr hlocks hAe hP hD hS dX1_raise_14
def fX0_carryOnTrial_L14 (C : Ca) (x1 : Int32) (kx : Rf → Option (Int32 × Rf)) : Nat → Rf → Int32 → Option (Int32 × Rf)
  | 0, _, _ => none
  | k + 1, R, x2 => if x1 ≤ x2 then (kx R) else (o1 (fX6_at 4 C.2 x2) (fun x107 => o1 (fX1_hasCistern R x107) (fun x108 => if x108 = 0 then (some ((0 : Int32), R)) else (o1 (fX1_get R x107 (2 : Int32)) (fun x109 => o1 (fX1_get R x107 (1 : Int32)) (fun x110 => if x109 < x110 then (o1 (fX1_raise R x107 (1 : Int32)) (fun R111 => fX0_carryOnTrial_L14 C x1 kx k R111 (x2 + (1 : Int32)))) else (some ((0 : Int32), R))))))))
def fX0_carryOnTrial (C : Ca) (R : Rf) (a1 : Int32) : Option (Int32 × Rf) := o1 (fX1_takeLevels R 8 C.1 (0 : Int32)) (fun R101 => fX0_carryOnTrial_L14 C a1 (fun R112 => some ((1 : Int32), R112)) fu R101 (0 : Int32))
theorem q_X0_carryOnTrial : yX0_carryOnTrial.cls = RX0 ∧ yX0_carryOnTrial.cls ≠ "java/lang/invoke/MethodHandle" ∧ yX0_carryOnTrial.cls ≠ "java/lang/invoke/VarHandle" ∧ (parseMethodDescriptor yX0_carryOnTrial.desc).map (fun d => d.parameters.length) = some 1 := by decide +kernel
theorem i_X0_carryOnTrial_X0 : ∀ w ∈ u_ws RX0 TX0 3, w ∈ wsX0_carryOnTrial := fun _ h => List.mem_cons_of_mem _ (List.mem_append_left _ (List.mem_append_right _ (h)))
set_option maxHeartbeats 4000000 in
set_option maxRecDepth 100000 in
theorem c_X0_carryOnTrial (l : Launch) (g : gG) (c0 c1 c2 h0 h1 h2 h3 : Nat) (C : Ca) (R : Rf) (a1 : Int32) {r : Int32} {R' : Rf} (hf : fX0_carryOnTrial C R a1 = some (r, R')) : Ct l yX0_carryOnTrial wsX0_carryOnTrial (rmm 2 47) g (wCa g c0 c1 c2 h0 h1 h2 h3 C R) (wCa g c0 c1 c2 h0 h1 h2 h3 C (R')) [.ref c0, .int a1] (some (.int r)) := by
  refine Ct.mk (by decide) rfl (Nat.le_of_ble_eq_true rfl) ?_
  intro p e s m args below meth c A ls hx hb hr hml hts hown hlocks hA hE hP hD hS hl hAe
  obtain ⟨Qx, hQ⟩ : ∃ Qx : State → Prop, Qx = MQ below (QcG g (wCa g c0 c1 c2 h0 h1 h2 h3 C R) (wCa g c0 c1 c2 h0 h1 h2 h3 C (R')) (some (.int r)) s.heap.size) args s 0 0 A := ⟨_, rfl⟩
  rw [← hQ]
  have hown : s.vm.findClass RX0 = some m.cls := hown
  have hl : lv_has ls 4 [(0, .ref c0), (1, .int a1)] := hl
  have w1 := hts (.fieldLink RX0 18 "RainVault$Carrier" "trial" "LRainVault$Roof;") (List.mem_of_getElem? (i := 1) rfl)
  have w2 := hts (.fieldLink RX0 9 "RainVault$Carrier" "levels" "[I") (List.mem_of_getElem? (i := 2) rfl)
  have w3 := hts (.fieldLink RX0 15 "RainVault$Carrier" "way" "[I") (List.mem_of_getElem? (i := 3) rfl)
  have w4 := hts (.initialized RX6) (List.mem_of_getElem? (i := 11) rfl)
  have w5 := hts (.static yX6_at) (List.mem_of_getElem? (i := 10) rfl)
  have L14 : ∀ (x1 : Int32) (kx : Rf → Option (Int32 × Rf)) (k : Nat) (R : Rf) (x2 : Int32) (H : Heap) (locs : List Loc) (ls : Array Slot), fX0_carryOnTrial_L14 C x1 kx k R x2 = some (r, R') → va_P g.1 vwK (wCa g c0 c1 c2 h0 h1 h2 h3 C R) H → va_D A (wCa g c0 c1 c2 h0 h1 h2 h3 C R) → va_S A s.heap H locs → lv_has ls 4 [(0, .ref c0), (1, .int x1), (2, .int x2)] → (∀ (R : Rf) (H : Heap) (locs : List Loc) (ls : Array Slot), kx R = some (r, R') → va_P g.1 vwK (wCa g c0 c1 c2 h0 h1 h2 h3 C R) H → va_D A (wCa g c0 c1 c2 h0 h1 h2 h3 C R) → va_S A s.heap H locs → lv_has ls 4 [] → W p l e (rmm 2 47) s m args below meth c H locs 0 0 Qx (F0 m 77 ls [])) → W p l e (rmm 2 47) s m args below meth c H locs 0 0 Qx (F0 m 14 ls []) := by
    intro x1 kx k
    induction k with
    | zero => intro R x2 H locs ls hf; exact nomatch (show (none : Option (Int32 × Rf)) = some _ from hf)
    | succ k ih =>
      intro R x2 H locs ls hf hP hD hS hl hk
      rw [fX0_carryOnTrial_L14] at hf
      refine lv_iload_n hx hb dX0_carryOnTrial_14 rfl (lv_at hl 2 rfl) ?_
      refine lv_iload_n hx hb dX0_carryOnTrial_15 rfl (lv_at hl 1 rfl) ?_
      refine lv_icmp_ge (tgt := 77) hx hb dX0_carryOnTrial_16 (by decide) (fun hc => ?_) (fun hc => ?_)
      · have hf := if_t hf hc
        exact hk _ _ _ _  hf hP hD hS (lv_sub hl [] rfl)
      · have hf := if_f hf hc
        refine lv_aload_n hx hb dX0_carryOnTrial_19 rfl (lv_at hl 0 rfl) ?_
        refine va_get (D := g.1) (ci := 0) (v := .ref c2) (C := RX0) (T := TX0) (N := 3) hx hb hts i_X0_carryOnTrial_X0 hown hE.1 hP 0 rfl rfl 2 (by decide) w3 (fun _ h9 => h9) rfl dX0_carryOnTrial_20 ?_
        refine lv_iload_n hx hb dX0_carryOnTrial_23 rfl (lv_at hl 2 rfl) ?_
        obtain ⟨x107, hg, hf⟩ := o1_s hf
        refine Ct.callSN (ws' := wCa g c0 c1 c2 h0 h1 h2 h3 C R) (As := [.ref c2, .int x2]) (rest := []) (st1 := [.int x107]) (c_X6_at l g c2 4 C.2 x2 hg) (⟨va_cnB 2 hts gX0_carryOnTrial_X6_at_n42 rfl rfl rfl (hE.2.1 _ (List.mem_of_getElem? (i := 35) rfl)) w4 q_X6_at.2 ⟨Nat.le_of_ble_eq_true rfl, Nat.le_of_ble_eq_true rfl⟩, w5, trivial⟩) ⟨hx, hb, hml, hown, hts⟩ hE hP hD hS hA [2] rfl rfl rfl rfl rfl hl.1 rfl rfl (Nat.le_of_ble_eq_true rfl) dX0_carryOnTrial_24 (fun H locs hP hD hS => ?_)
        refine lv_istore_n (lv' := [(3, .int x107), (0, .ref c0), (1, .int x1), (2, .int x2)]) hx hb dX0_carryOnTrial_27 rfl hl (by decide) rfl (fun ls hl => ?_)
        refine lv_aload_n hx hb dX0_carryOnTrial_28 rfl (lv_at hl 1 rfl) ?_
        refine va_get (D := g.1) (ci := 0) (v := .ref h0) (C := RX0) (T := TX0) (N := 3) hx hb hts i_X0_carryOnTrial_X0 hown hE.1 hP 0 rfl rfl 0 (by decide) w1 (fun _ h9 => h9) rfl dX0_carryOnTrial_29 ?_
        refine lv_iload_n hx hb dX0_carryOnTrial_32 rfl (lv_at hl 0 rfl) ?_
        obtain ⟨x108, hg, hf⟩ := o1_s hf
        refine Ct.callV (ws' := wCa g c0 c1 c2 h0 h1 h2 h3 C R) (As := [.int x107]) (rest := []) (st1 := [.int x108]) (c_X1_hasCistern l g h0 h1 h2 h3 R x107 hg) (cwV 1 hts gX0_carryOnTrial_X1_hasCistern rfl rfl rfl q_X1_hasCistern ⟨Nat.le_of_ble_eq_true rfl, Nat.le_of_ble_eq_true rfl⟩) ⟨hx, hb, hml, hown, hts⟩ hE hP hD hS hA [3, 4, 5, 6] rfl rfl rfl rfl 1 3 rfl rfl rfl rfl hl.1 rfl rfl (Nat.le_of_ble_eq_true rfl) dX0_carryOnTrial_33 (fun H locs hP hD hS => ?_)
        refine lv_if_eq (tgt := 60) hx hb dX0_carryOnTrial_36 (by decide) (fun hc => ?_) (fun hc => ?_)
        · have hf := if_t hf hc
          refine lv_iconst (v := (0 : Int32)) hx hb dX0_carryOnTrial_60 (by decide) ?_
          obtain ⟨rfl, rfl⟩ := some_p2 hf
          rw [hQ]; exact Ct.zret hx hb hr (by decide) hlocks hAe hP hD hS dX0_carryOnTrial_61
        · have hf := if_f hf hc
          refine lv_aload_n hx hb dX0_carryOnTrial_39 rfl (lv_at hl 1 rfl) ?_
          refine va_get (D := g.1) (ci := 0) (v := .ref h0) (C := RX0) (T := TX0) (N := 3) hx hb hts i_X0_carryOnTrial_X0 hown hE.1 hP 0 rfl rfl 0 (by decide) w1 (fun _ h9 => h9) rfl dX0_carryOnTrial_40 ?_
          refine lv_iload_n hx hb dX0_carryOnTrial_43 rfl (lv_at hl 0 rfl) ?_
          refine lv_iconst (v := (2 : Int32)) hx hb dX0_carryOnTrial_44 (by decide) ?_
          obtain ⟨x109, hg, hf⟩ := o1_s hf
          refine Ct.callV (ws' := wCa g c0 c1 c2 h0 h1 h2 h3 C R) (As := [.int x107, .int (2 : Int32)]) (rest := []) (st1 := [.int x109]) (c_X1_get l g h0 h1 h2 h3 R x107 (2 : Int32) hg) (cwV 2 hts gX0_carryOnTrial_X1_get rfl rfl rfl q_X1_get ⟨Nat.le_of_ble_eq_true rfl, Nat.le_of_ble_eq_true rfl⟩) ⟨hx, hb, hml, hown, hts⟩ hE hP hD hS hA [3, 4, 5, 6] rfl rfl rfl rfl 1 3 rfl rfl rfl rfl hl.1 rfl rfl (Nat.le_of_ble_eq_true rfl) dX0_carryOnTrial_45 (fun H locs hP hD hS => ?_)
          refine lv_aload_n hx hb dX0_carryOnTrial_48 rfl (lv_at hl 1 rfl) ?_
          refine va_get (D := g.1) (ci := 0) (v := .ref h0) (C := RX0) (T := TX0) (N := 3) hx hb hts i_X0_carryOnTrial_X0 hown hE.1 hP 0 rfl rfl 0 (by decide) w1 (fun _ h9 => h9) rfl dX0_carryOnTrial_49 ?_
          refine lv_iload_n hx hb dX0_carryOnTrial_52 rfl (lv_at hl 0 rfl) ?_
          refine lv_iconst (v := (1 : Int32)) hx hb dX0_carryOnTrial_53 (by decide) ?_
          obtain ⟨x110, hg, hf⟩ := o1_s hf
          refine Ct.callV (ws' := wCa g c0 c1 c2 h0 h1 h2 h3 C R) (As := [.int x107, .int (1 : Int32)]) (rest := [.int x109]) (st1 := [.int x110, .int x109]) (c_X1_get l g h0 h1 h2 h3 R x107 (1 : Int32) hg) (cwV 2 hts gX0_carryOnTrial_X1_get rfl rfl rfl q_X1_get ⟨Nat.le_of_ble_eq_true rfl, Nat.le_of_ble_eq_true rfl⟩) ⟨hx, hb, hml, hown, hts⟩ hE hP hD hS hA [3, 4, 5, 6] rfl rfl rfl rfl 1 3 rfl rfl rfl rfl hl.1 rfl rfl (Nat.le_of_ble_eq_true rfl) dX0_carryOnTrial_54 (fun H locs hP hD hS => ?_)
          refine lv_icmp_lt (tgt := 62) hx hb dX0_carryOnTrial_57 (by decide) (fun hc => ?_) (fun hc => ?_)
          · have hf := if_t hf hc
            refine lv_aload_n hx hb dX0_carryOnTrial_62 rfl (lv_at hl 1 rfl) ?_
            refine va_get (D := g.1) (ci := 0) (v := .ref h0) (C := RX0) (T := TX0) (N := 3) hx hb hts i_X0_carryOnTrial_X0 hown hE.1 hP 0 rfl rfl 0 (by decide) w1 (fun _ h9 => h9) rfl dX0_carryOnTrial_63 ?_
            refine lv_iload_n hx hb dX0_carryOnTrial_66 rfl (lv_at hl 0 rfl) ?_
            refine lv_iconst (v := (1 : Int32)) hx hb dX0_carryOnTrial_67 (by decide) ?_
            obtain ⟨R111, hg, hf⟩ := o1_s hf
            refine Ct.callV (ws' := wCa g c0 c1 c2 h0 h1 h2 h3 C R111) (As := [.int x107, .int (1 : Int32)]) (rest := []) (st1 := []) (c_X1_raise l g h0 h1 h2 h3 R x107 (1 : Int32) hg) (cwV 2 hts gX0_carryOnTrial_X1_raise rfl rfl rfl q_X1_raise ⟨Nat.le_of_ble_eq_true rfl, Nat.le_of_ble_eq_true rfl⟩) ⟨hx, hb, hml, hown, hts⟩ hE hP hD hS hA [3, 4, 5, 6] rfl rfl rfl rfl 1 3 rfl rfl rfl rfl hl.1 rfl rfl (Nat.le_of_ble_eq_true rfl) dX0_carryOnTrial_68 (fun H locs hP hD hS => ?_)
            refine lv_iinc (v := (x2 + (1 : Int32))) (lv' := [(2, .int (x2 + (1 : Int32))), (3, .int x107), (0, .ref c0), (1, .int x1)]) hx hb dX0_carryOnTrial_71 hl (k := 3) rfl rfl (by decide) rfl (fun ls hl => ?_)
            refine lv_goto (tgt := 14) hx hb dX0_carryOnTrial_74 (by decide) ?_
            exact ih _ _ _ _ _  hf hP hD hS (lv_sub hl [2, 3, 0] rfl) hk
          · have hf := if_f hf hc
            refine lv_iconst (v := (0 : Int32)) hx hb dX0_carryOnTrial_60 (by decide) ?_
            obtain ⟨rfl, rfl⟩ := some_p2 hf
            rw [hQ]; exact Ct.zret hx hb hr (by decide) hlocks hAe hP hD hS dX0_carryOnTrial_61
  unfold fX0_carryOnTrial at hf
  refine lv_aload_n hx hb dX0_carryOnTrial_0 rfl (lv_at hl 0 rfl) ?_
  refine va_get (D := g.1) (ci := 0) (v := .ref h0) (C := RX0) (T := TX0) (N := 3) hx hb hts i_X0_carryOnTrial_X0 hown hE.1 hP 0 rfl rfl 0 (by decide) w1 (fun _ h9 => h9) rfl dX0_carryOnTrial_1 ?_
  refine lv_aload_n hx hb dX0_carryOnTrial_4 rfl (lv_at hl 0 rfl) ?_
  refine va_get (D := g.1) (ci := 0) (v := .ref c1) (C := RX0) (T := TX0) (N := 3) hx hb hts i_X0_carryOnTrial_X0 hown hE.1 hP 0 rfl rfl 1 (by decide) w2 (fun _ h9 => h9) rfl dX0_carryOnTrial_5 ?_
  refine lv_iconst (v := (0 : Int32)) hx hb dX0_carryOnTrial_8 (by decide) ?_
  obtain ⟨R101, hg, hf⟩ := o1_s hf
  refine Ct.callV (ws' := wCa g c0 c1 c2 h0 h1 h2 h3 C R101) (As := [.ref c1, .int (0 : Int32)]) (rest := []) (st1 := []) (c_X1_takeLevels l g h0 h1 h2 h3 c1 R 8 C.1 (0 : Int32) hg) (cwV 2 hts gX0_carryOnTrial_X1_takeLevels rfl rfl rfl q_X1_takeLevels ⟨Nat.le_of_ble_eq_true rfl, Nat.le_of_ble_eq_true rfl⟩) ⟨hx, hb, hml, hown, hts⟩ hE hP hD hS hA [3, 4, 5, 6, 1] rfl rfl rfl rfl 1 3 rfl rfl rfl rfl hl.1 rfl rfl (Nat.le_of_ble_eq_true rfl) dX0_carryOnTrial_9 (fun H locs hP hD hS => ?_)
  refine lv_iconst (v := (0 : Int32)) hx hb dX0_carryOnTrial_12 (by decide) ?_
  refine lv_istore_n (lv' := [(2, .int (0 : Int32)), (0, .ref c0), (1, .int a1)]) hx hb dX0_carryOnTrial_13 rfl hl (by decide) rfl (fun ls hl => ?_)
  refine L14 _ _ _ _ _ _ _ _  hf hP hD hS (lv_sub hl [1, 2, 0] rfl) (fun R112 H locs ls hf hP hD hS hl => ?_)
  refine lv_iconst (v := (1 : Int32)) hx hb dX0_carryOnTrial_77 (by decide) ?_
  obtain ⟨rfl, rfl⟩ := some_p2 hf
  rw [hQ]; exact Ct.zret hx hb hr (by decide) hlocks hAe hP hD hS dX0_carryOnTrial_78
def fX1_conditionFact (R : Rf) (a1 : Int32) (a2 : Int32) : Option (Int32) := o1 (fX6_at 24 R.2.1 ((a1 * (3 : Int32)) + a2)) (fun x101 => some x101)
theorem q_X1_conditionFact : yX1_conditionFact.cls = RX1 ∧ yX1_conditionFact.cls ≠ "java/lang/invoke/MethodHandle" ∧ yX1_conditionFact.cls ≠ "java/lang/invoke/VarHandle" ∧ (parseMethodDescriptor yX1_conditionFact.desc).map (fun d => d.parameters.length) = some 2 := by decide +kernel
theorem i_X1_conditionFact_X1 : ∀ w ∈ u_ws RX1 TX1 9, w ∈ wsX1_conditionFact := fun _ h => List.mem_cons_of_mem _ (List.mem_append_right _ (h))
set_option maxHeartbeats 4000000 in
set_option maxRecDepth 100000 in
theorem c_X1_conditionFact (l : Launch) (g : gG) (h0 h1 h2 h3 : Nat) (R : Rf) (a1 : Int32) (a2 : Int32) {r : Int32} (hf : fX1_conditionFact R a1 a2 = some r) : Ct l yX1_conditionFact wsX1_conditionFact (rmm 1 21) g (wRf g h0 h1 h2 h3 R) (wRf g h0 h1 h2 h3 R) [.ref h0, .int a1, .int a2] (some (.int r)) := by
  refine Ct.mk (by decide) rfl (Nat.le_of_ble_eq_true rfl) ?_
  intro p e s m args below meth c A ls hx hb hr hml hts hown hlocks hA hE hP hD hS hl hAe
  obtain ⟨Qx, hQ⟩ : ∃ Qx : State → Prop, Qx = MQ below (QcG g (wRf g h0 h1 h2 h3 R) (wRf g h0 h1 h2 h3 R) (some (.int r)) s.heap.size) args s 0 0 A := ⟨_, rfl⟩
  rw [← hQ]
  have hown : s.vm.findClass RX1 = some m.cls := hown
  have hl : lv_has ls 3 [(0, .ref h0), (1, .int a1), (2, .int a2)] := hl
  have w1 := hts (.fieldLink RX1 15 "RainVault$Roof" "conditionFacts" "[I") (List.mem_of_getElem? (i := 1) rfl)
  have w2 := hts (.initialized RX6) (List.mem_of_getElem? (i := 3) rfl)
  have w3 := hts (.static yX6_at) (List.mem_of_getElem? (i := 2) rfl)
  unfold fX1_conditionFact at hf
  refine lv_aload_n hx hb dX1_conditionFact_0 rfl (lv_at hl 0 rfl) ?_
  refine va_get (D := g.1) (ci := 1) (v := .ref h2) (C := RX1) (T := TX1) (N := 9) hx hb hts i_X1_conditionFact_X1 hown hE.1 hP 0 rfl rfl 1 (by decide) w1 (fun _ h9 => h9) rfl dX1_conditionFact_1 ?_
  refine lv_iload_n hx hb dX1_conditionFact_4 rfl (lv_at hl 1 rfl) ?_
  refine lv_iconst (v := (3 : Int32)) hx hb dX1_conditionFact_5 (by decide) ?_
  refine lv_imul hx hb dX1_conditionFact_6 ?_
  refine lv_iload_n hx hb dX1_conditionFact_7 rfl (lv_at hl 2 rfl) ?_
  refine lv_iadd hx hb dX1_conditionFact_8 ?_
  obtain ⟨x101, hg, hf⟩ := o1_s hf
  refine Ct.callSN (ws' := wRf g h0 h1 h2 h3 R) (As := [.ref h2, .int ((a1 * (3 : Int32)) + a2)]) (rest := []) (st1 := [.int x101]) (c_X6_at l g h2 24 R.2.1 ((a1 * (3 : Int32)) + a2) hg) (⟨va_cnB 2 hts gX1_conditionFact_X6_at_n61 rfl rfl rfl (hE.2.1 _ (List.mem_of_getElem? (i := 26) rfl)) w2 q_X6_at.2 ⟨Nat.le_of_ble_eq_true rfl, Nat.le_of_ble_eq_true rfl⟩, w3, trivial⟩) ⟨hx, hb, hml, hown, hts⟩ hE hP hD hS hA [2] rfl rfl rfl rfl rfl hl.1 rfl rfl (Nat.le_of_ble_eq_true rfl) dX1_conditionFact_9 (fun H locs hP hD hS => ?_)
  obtain rfl := Option.some.inj hf
  rw [hQ]; exact Ct.iret hx hb hr hlocks hAe hP hD hS dX1_conditionFact_12
def fX1_isOf (R : Rf) (a1 : Int32) (a2 : Int32) : Option (Int32) := o1 (fX1_get R a1 (0 : Int32)) (fun x101 => if x101 < 0 then (some (0 : Int32)) else (if (7 : Int32) ≤ x101 then (some (0 : Int32)) else (rd kKinds 7 x101 (fun x102 => if ((x102 >>> (a2 &&& 31)) &&& (1 : Int32)) = (1 : Int32) then (some (1 : Int32)) else (some (0 : Int32))))))
theorem q_X1_isOf : yX1_isOf.cls = RX1 ∧ yX1_isOf.cls ≠ "java/lang/invoke/MethodHandle" ∧ yX1_isOf.cls ≠ "java/lang/invoke/VarHandle" ∧ (parseMethodDescriptor yX1_isOf.desc).map (fun d => d.parameters.length) = some 2 := by decide +kernel
set_option maxHeartbeats 4000000 in
set_option maxRecDepth 100000 in
theorem c_X1_isOf (l : Launch) (g : gG) (h0 h1 h2 h3 : Nat) (R : Rf) (a1 : Int32) (a2 : Int32) {r : Int32} (hf : fX1_isOf R a1 a2 = some r) : Ct l yX1_isOf wsX1_isOf (rmm 1 23) g (wRf g h0 h1 h2 h3 R) (wRf g h0 h1 h2 h3 R) [.ref h0, .int a1, .int a2] (some (.int r)) := by
  refine Ct.mk (by decide) rfl (Nat.le_of_ble_eq_true rfl) ?_
  intro p e s m args below meth c A ls hx hb hr hml hts hown hlocks hA hE hP hD hS hl hAe
  obtain ⟨Qx, hQ⟩ : ∃ Qx : State → Prop, Qx = MQ below (QcG g (wRf g h0 h1 h2 h3 R) (wRf g h0 h1 h2 h3 R) (some (.int r)) s.heap.size) args s 0 0 A := ⟨_, rfl⟩
  rw [← hQ]
  have hown : s.vm.findClass RX1 = some m.cls := hown
  have hl : lv_has ls 4 [(0, .ref h0), (1, .int a1), (2, .int a2)] := hl
  unfold fX1_isOf at hf
  refine lv_aload_n hx hb dX1_isOf_0 rfl (lv_at hl 0 rfl) ?_
  refine lv_iload_n hx hb dX1_isOf_1 rfl (lv_at hl 1 rfl) ?_
  refine lv_iconst (v := (0 : Int32)) hx hb dX1_isOf_2 (by decide) ?_
  obtain ⟨x101, hg, hf⟩ := o1_s hf
  refine Ct.callV0 (ws' := wRf g h0 h1 h2 h3 R) (As := [.int a1, .int (0 : Int32)]) (rest := []) (st1 := [.int x101]) (c_X1_get l g h0 h1 h2 h3 R a1 (0 : Int32) hg) (cwV 2 hts gX1_isOf_X1_get rfl rfl rfl q_X1_get ⟨Nat.le_of_ble_eq_true rfl, Nat.le_of_ble_eq_true rfl⟩) ⟨hx, hb, hml, hown, hts⟩ hE hP hD hS hA 1 0 rfl rfl rfl rfl hl.1 rfl rfl (Nat.le_of_ble_eq_true rfl) dX1_isOf_3 (fun H locs hP hD hS => ?_)
  refine lv_istore_n (lv' := [(3, .int x101), (0, .ref h0), (1, .int a1), (2, .int a2)]) hx hb dX1_isOf_6 rfl hl (by decide) rfl (fun ls hl => ?_)
  refine lv_iload_n hx hb dX1_isOf_7 rfl (lv_at hl 0 rfl) ?_
  refine lv_if_lt (tgt := 36) hx hb dX1_isOf_8 (by decide) (fun hc => ?_) (fun hc => ?_)
  · have hf := if_t hf hc
    refine lv_iconst (v := (0 : Int32)) hx hb dX1_isOf_36 (by decide) ?_
    obtain rfl := Option.some.inj hf
    rw [hQ]; exact Ct.zret hx hb hr (by decide) hlocks hAe hP hD hS dX1_isOf_37
  · have hf := if_f hf hc
    refine lv_iload_n hx hb dX1_isOf_11 rfl (lv_at hl 0 rfl) ?_
    refine va_getsN hx hb hE.2.2.2.2.1.2.2 hS hown (va_Nw.use rfl (hE.2.1 _ (List.mem_of_getElem? (i := 21) rfl))) (fun _ h9 => h9) dX1_isOf_12 ?_
    refine va_tlen (v := (7 : Int32)) hx hb hE.2.2.1.2.2 hS (show Int32.ofNat 7 = (7 : Int32) by decide) dX1_isOf_15 ?_
    refine lv_icmp_ge (tgt := 36) hx hb dX1_isOf_16 (by decide) (fun hc => ?_) (fun hc => ?_)
    · have hf := if_t hf hc
      refine lv_iconst (v := (0 : Int32)) hx hb dX1_isOf_36 (by decide) ?_
      obtain rfl := Option.some.inj hf
      rw [hQ]; exact Ct.zret hx hb hr (by decide) hlocks hAe hP hD hS dX1_isOf_37
    · have hf := if_f hf hc
      refine va_getsN hx hb hE.2.2.2.2.1.2.2 hS hown (va_Nw.use rfl (hE.2.1 _ (List.mem_of_getElem? (i := 21) rfl))) (fun _ h9 => h9) dX1_isOf_19 ?_
      refine lv_iload_n hx hb dX1_isOf_22 rfl (lv_at hl 0 rfl) ?_
      obtain ⟨x102, ex, hin, hf⟩ := rd_s hf
      refine va_ti hx hb hE.2.2.1.2.2 hS hin (congrArg Value.int ex.symm) dX1_isOf_23 ?_
      refine lv_iload_n hx hb dX1_isOf_24 rfl (lv_at hl 3 rfl) ?_
      refine lv_ishr hx hb dX1_isOf_25 ?_
      refine lv_iconst (v := (1 : Int32)) hx hb dX1_isOf_26 (by decide) ?_
      refine lv_iand hx hb dX1_isOf_27 ?_
      refine lv_iconst (v := (1 : Int32)) hx hb dX1_isOf_28 (by decide) ?_
      refine lv_icmp_ne (tgt := 36) hx hb dX1_isOf_29 (by decide) (fun hc => ?_) (fun hc => ?_)
      · have hf := if_f hf hc
        refine lv_iconst (v := (0 : Int32)) hx hb dX1_isOf_36 (by decide) ?_
        obtain rfl := Option.some.inj hf
        rw [hQ]; exact Ct.zret hx hb hr (by decide) hlocks hAe hP hD hS dX1_isOf_37
      · have hf := if_t hf hc
        refine lv_iconst (v := (1 : Int32)) hx hb dX1_isOf_32 (by decide) ?_
        refine lv_goto (tgt := 37) hx hb dX1_isOf_33 (by decide) ?_
        obtain rfl := Option.some.inj hf
        rw [hQ]; exact Ct.zret hx hb hr (by decide) hlocks hAe hP hD hS dX1_isOf_37
