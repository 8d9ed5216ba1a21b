def fX6_sides_L24 (R : Rf) (x1 : Int32) (x2 : Int32) (kx : Rf → Int32 → Option (Int32 × Rf × (Nat → Int32))) : Nat → Rf → Int32 → Int32 → Option (Int32 × Rf × (Nat → Int32))
  | 0, _, _, _ => none
  | k + 1, B, x4, x5 => if (4 : Int32) ≤ x5 then (kx B x4) else (o1 (fX1_become B R) (fun R106 => o2 (fX1_passHours R106 x5 x1 x2) (fun x107 R108 => o1 (fX1_isOpen R108) (fun x109 => if x109 = 0 then (fX6_sides_L24 R x1 x2 kx k R108 x4 (x5 + (1 : Int32))) else (fX6_sides_L24 R x1 x2 kx k R108 (x4 ||| ((1 : Int32) <<< (x5 &&& 31))) (x5 + (1 : Int32)))))))
def fX6_sides (R : Rf) (B : Rf) (fd : Nat → Int32) (a1 : Int32) (a2 : Int32) : Option (Int32 × Rf × (Nat → Int32)) := o1 (fX6_faultOfTrial R (0 : Int32) a1 a2) (fun x101 => if x101 = 0 then (fX6_sides_L24 R a1 a2 (fun B110 x111 => some (x111, B110, fd)) fu B (0 : Int32) (0 : Int32)) else (o2 (fX6_finding fd x101) (fun x112 fd113 => some (x112, B, fd113))))
theorem q_X6_sides : yX6_sides.cls = RX6 ∧ yX6_sides.cls ≠ "java/lang/invoke/MethodHandle" ∧ yX6_sides.cls ≠ "java/lang/invoke/VarHandle" ∧ (parseMethodDescriptor yX6_sides.desc).map (fun d => d.parameters.length) = some 2 := by decide +kernel
theorem i_X6_sides_X6 : ∀ w ∈ u_ws RX6 TX6 11, w ∈ wsX6_sides := fun _ h => List.mem_cons_of_mem _ (List.mem_append_left _ (List.mem_append_right _ (h)))
set_option maxHeartbeats 4000000 in
set_option maxRecDepth 100000 in
theorem c_X6_sides (l : Launch) (g : gG) (v0 u0 u1 u2 u3 k0 k1 k2 k3 h0 h1 h2 h3 s0 s1 s2 s3 c0 c1 c2 p0 r0 t0 t1 t2 t3 z0 f0 : Nat) (ea : Nat → Nat) (R : Rf) (N : Rf) (B : Rf) (S : Sv) (C : Ca) (P : Nat → Int32) (Q : Tr) (K : Tk) (X : F4) (fd : Nat → Int32) (tl : Int32) (ik : Int32) (a1 : Int32) (a2 : Int32) {r : Int32} {B' : Rf} {fd' : Nat → Int32} (hf : fX6_sides R B fd a1 a2 = some (r, B', fd')) : Ct l yX6_sides wsX6_sides (rmm 6 137) g (wV g v0 u0 u1 u2 u3 k0 k1 k2 k3 h0 h1 h2 h3 s0 s1 s2 s3 c0 c1 c2 p0 r0 t0 t1 t2 t3 z0 f0 ea R N B S C P Q K X fd tl ik) (wV g v0 u0 u1 u2 u3 k0 k1 k2 k3 h0 h1 h2 h3 s0 s1 s2 s3 c0 c1 c2 p0 r0 t0 t1 t2 t3 z0 f0 ea R N (B') S C P Q K X (fd') tl ik) [.ref v0, .int a1, .int a2] (some (.int r)) := by
  refine Ct.mk (by decide) rfl (Nat.le_of_ble_eq_true rfl) ?_
  intro p e s m args below meth c A ls hx hb hr hml hts hown hlocks hA hE hP hD hS hl hAe
  obtain ⟨Qx, hQ⟩ : ∃ Qx : State → Prop, Qx = MQ below (QcG g (wV g v0 u0 u1 u2 u3 k0 k1 k2 k3 h0 h1 h2 h3 s0 s1 s2 s3 c0 c1 c2 p0 r0 t0 t1 t2 t3 z0 f0 ea R N B S C P Q K X fd tl ik) (wV g v0 u0 u1 u2 u3 k0 k1 k2 k3 h0 h1 h2 h3 s0 s1 s2 s3 c0 c1 c2 p0 r0 t0 t1 t2 t3 z0 f0 ea R N (B') S C P Q K X (fd') tl ik) (some (.int r)) s.heap.size) args s 0 0 A := ⟨_, rfl⟩
  rw [← hQ]
  have hown : s.vm.findClass RX6 = some m.cls := hown
  have hl : lv_has ls 6 [(0, .ref v0), (1, .int a1), (2, .int a2)] := hl
  have w1 := hts (.fieldLink RX6 19 "RainVault" "trial" "LRainVault$Roof;") (List.mem_of_getElem? (i := 1) rfl)
  have w2 := hts (.fieldLink RX6 10 "RainVault" "roof" "LRainVault$Roof;") (List.mem_of_getElem? (i := 2) rfl)
  have L24 : ∀ (fd : Nat → Int32) (x1 : Int32) (x2 : Int32) (kx : Rf → Int32 → Option (Int32 × Rf × (Nat → Int32))) (k : Nat) (B : Rf) (x4 : Int32) (x5 : Int32) (H : Heap) (locs : List Loc) (ls : Array Slot), fX6_sides_L24 R x1 x2 kx k B x4 x5 = some (r, B', fd') → va_P g.1 vwK (wV g v0 u0 u1 u2 u3 k0 k1 k2 k3 h0 h1 h2 h3 s0 s1 s2 s3 c0 c1 c2 p0 r0 t0 t1 t2 t3 z0 f0 ea R N B S C P Q K X fd tl ik) H → va_D A (wV g v0 u0 u1 u2 u3 k0 k1 k2 k3 h0 h1 h2 h3 s0 s1 s2 s3 c0 c1 c2 p0 r0 t0 t1 t2 t3 z0 f0 ea R N B S C P Q K X fd tl ik) → va_S A s.heap H locs → lv_has ls 6 [(0, .ref v0), (1, .int x1), (2, .int x2), (4, .int x4), (5, .int x5)] → (∀ (B : Rf) (x4 : Int32) (H : Heap) (locs : List Loc) (ls : Array Slot), kx B x4 = some (r, B', fd') → va_P g.1 vwK (wV g v0 u0 u1 u2 u3 k0 k1 k2 k3 h0 h1 h2 h3 s0 s1 s2 s3 c0 c1 c2 p0 r0 t0 t1 t2 t3 z0 f0 ea R N B S C P Q K X fd tl ik) H → va_D A (wV g v0 u0 u1 u2 u3 k0 k1 k2 k3 h0 h1 h2 h3 s0 s1 s2 s3 c0 c1 c2 p0 r0 t0 t1 t2 t3 z0 f0 ea R N B S C P Q K X fd tl ik) → va_S A s.heap H locs → lv_has ls 6 [(4, .int x4)] → W p l e (rmm 6 137) s m args below meth c H locs 0 0 Qx (F0 m 78 ls [])) → W p l e (rmm 6 137) s m args below meth c H locs 0 0 Qx (F0 m 24 ls []) := by
    intro fd x1 x2 kx k
    induction k with
    | zero => intro B x4 x5 H locs ls hf; exact nomatch (show (none : Option (Int32 × Rf × (Nat → Int32))) = some _ from hf)
    | succ k ih =>
      intro B x4 x5 H locs ls hf hP hD hS hl hk
      rw [fX6_sides_L24] at hf
      refine lv_iload hx hb dX6_sides_24 (lv_at hl 4 rfl) ?_
      refine lv_iconst (v := (4 : Int32)) hx hb dX6_sides_26 (by decide) ?_
      refine lv_icmp_ge (tgt := 78) hx hb dX6_sides_27 (by decide) (fun hc => ?_) (fun hc => ?_)
      · have hf := if_t hf hc
        exact hk _ _ _ _ _  hf hP hD hS (lv_sub hl [3] rfl)
      · have hf := if_f hf hc
        refine lv_aload_n hx hb dX6_sides_30 rfl (lv_at hl 0 rfl) ?_
        refine va_get (D := g.1) (ci := 6) (v := .ref h0) (C := RX6) (T := TX6) (N := 11) hx hb hts i_X6_sides_X6 hown hE.1 hP 0 rfl rfl 2 (by decide) w1 (fun _ h9 => h9) rfl dX6_sides_31 ?_
        refine lv_aload_n hx hb dX6_sides_34 rfl (lv_at hl 0 rfl) ?_
        refine va_get (D := g.1) (ci := 6) (v := .ref u0) (C := RX6) (T := TX6) (N := 11) hx hb hts i_X6_sides_X6 hown hE.1 hP 0 rfl rfl 0 (by decide) w2 (fun _ h9 => h9) rfl dX6_sides_35 ?_
        obtain ⟨R106, hg, hf⟩ := o1_s hf
        refine Ct.callV (ws' := wV g v0 u0 u1 u2 u3 k0 k1 k2 k3 h0 h1 h2 h3 s0 s1 s2 s3 c0 c1 c2 p0 r0 t0 t1 t2 t3 z0 f0 ea R N R106 S C P Q K X fd tl ik) (As := [.ref u0]) (rest := []) (st1 := []) (c_X1_become l g h0 h1 h2 h3 u0 u1 u2 u3 B R hg) (cwV 1 hts gX6_sides_X1_become rfl rfl rfl q_X1_become ⟨Nat.le_of_ble_eq_true rfl, Nat.le_of_ble_eq_true rfl⟩) ⟨hx, hb, hml, hown, hts⟩ hE hP hD hS hA [9, 10, 11, 12, 1, 2, 3, 4] rfl rfl rfl rfl 1 9 rfl rfl rfl rfl hl.1 rfl rfl (Nat.le_of_ble_eq_true rfl) dX6_sides_38 (fun H locs hP hD hS => ?_)
        refine lv_aload_n hx hb dX6_sides_41 rfl (lv_at hl 0 rfl) ?_
        refine va_get (D := g.1) (ci := 6) (v := .ref h0) (C := RX6) (T := TX6) (N := 11) hx hb hts i_X6_sides_X6 hown hE.1 hP 0 rfl rfl 2 (by decide) w1 (fun _ h9 => h9) rfl dX6_sides_42 ?_
        refine lv_iload hx hb dX6_sides_45 (lv_at hl 4 rfl) ?_
        refine lv_iload_n hx hb dX6_sides_47 rfl (lv_at hl 1 rfl) ?_
        refine lv_iload_n hx hb dX6_sides_48 rfl (lv_at hl 2 rfl) ?_
        obtain ⟨x107, R108, hg, hf⟩ := o2_s hf
        refine Ct.callV (ws' := wV g v0 u0 u1 u2 u3 k0 k1 k2 k3 h0 h1 h2 h3 s0 s1 s2 s3 c0 c1 c2 p0 r0 t0 t1 t2 t3 z0 f0 ea R N R108 S C P Q K X fd tl ik) (As := [.int x5, .int x1, .int x2]) (rest := []) (st1 := [.int x107]) (c_X1_passHours l g h0 h1 h2 h3 R106 x5 x1 x2 hg) (cwV 3 hts gX6_sides_X1_passHours rfl rfl rfl q_X1_passHours ⟨Nat.le_of_ble_eq_true rfl, Nat.le_of_ble_eq_true rfl⟩) ⟨hx, hb, hml, hown, hts⟩ hE hP hD hS hA [9, 10, 11, 12] rfl rfl rfl rfl 1 9 rfl rfl rfl rfl hl.1 rfl rfl (Nat.le_of_ble_eq_true rfl) dX6_sides_49 (fun H locs hP hD hS => ?_)
        refine lv_pop hx hb dX6_sides_52 rfl ?_
        refine lv_aload_n hx hb dX6_sides_53 rfl (lv_at hl 0 rfl) ?_
        refine va_get (D := g.1) (ci := 6) (v := .ref h0) (C := RX6) (T := TX6) (N := 11) hx hb hts i_X6_sides_X6 hown hE.1 hP 0 rfl rfl 2 (by decide) w1 (fun _ h9 => h9) rfl dX6_sides_54 ?_
        obtain ⟨x109, hg, hf⟩ := o1_s hf
        refine Ct.callV (ws' := wV g v0 u0 u1 u2 u3 k0 k1 k2 k3 h0 h1 h2 h3 s0 s1 s2 s3 c0 c1 c2 p0 r0 t0 t1 t2 t3 z0 f0 ea R N R108 S C P Q K X fd tl ik) (As := []) (rest := []) (st1 := [.int x109]) (c_X1_isOpen l g h0 h1 h2 h3 R108 hg) (cwV 0 hts gX6_sides_X1_isOpen rfl rfl rfl q_X1_isOpen ⟨Nat.le_of_ble_eq_true rfl, Nat.le_of_ble_eq_true rfl⟩) ⟨hx, hb, hml, hown, hts⟩ hE hP hD hS hA [9, 10, 11, 12] rfl rfl rfl rfl 1 9 rfl rfl rfl rfl hl.1 rfl rfl (Nat.le_of_ble_eq_true rfl) dX6_sides_57 (fun H locs hP hD hS => ?_)
        refine lv_if_eq (tgt := 72) hx hb dX6_sides_60 (by decide) (fun hc => ?_) (fun hc => ?_)
        · have hf := if_t hf hc
          refine lv_iinc (v := (x5 + (1 : Int32))) (lv' := [(5, .int (x5 + (1 : Int32))), (0, .ref v0), (1, .int x1), (2, .int x2), (4, .int x4)]) hx hb dX6_sides_72 hl (k := 4) rfl rfl (by decide) rfl (fun ls hl => ?_)
          refine lv_goto (tgt := 24) hx hb dX6_sides_75 (by decide) ?_
          exact ih _ _ _ _ _ _  hf hP hD hS (lv_sub hl [1, 2, 3, 4, 0] rfl) hk
        · have hf := if_f hf hc
          refine lv_iload hx hb dX6_sides_63 (lv_at hl 3 rfl) ?_
          refine lv_iconst (v := (1 : Int32)) hx hb dX6_sides_65 (by decide) ?_
          refine lv_iload hx hb dX6_sides_66 (lv_at hl 4 rfl) ?_
          refine lv_ishl hx hb dX6_sides_68 ?_
          refine lv_ior hx hb dX6_sides_69 ?_
          refine lv_istore (lv' := [(4, .int (x4 ||| ((1 : Int32) <<< (x5 &&& 31)))), (0, .ref v0), (1, .int x1), (2, .int x2), (5, .int x5)]) hx hb dX6_sides_70 hl (by decide) rfl (fun ls hl => ?_)
          refine lv_iinc (v := (x5 + (1 : Int32))) (lv' := [(5, .int (x5 + (1 : Int32))), (4, .int (x4 ||| ((1 : Int32) <<< (x5 &&& 31)))), (0, .ref v0), (1, .int x1), (2, .int x2)]) hx hb dX6_sides_72 hl (k := 4) rfl rfl (by decide) rfl (fun ls hl => ?_)
          refine lv_goto (tgt := 24) hx hb dX6_sides_75 (by decide) ?_
          exact ih _ _ _ _ _ _  hf hP hD hS (lv_sub hl [2, 3, 4, 1, 0] rfl) hk
  unfold fX6_sides at hf
  refine lv_aload_n hx hb dX6_sides_0 rfl (lv_at hl 0 rfl) ?_
  refine lv_iconst (v := (0 : Int32)) hx hb dX6_sides_1 (by decide) ?_
  refine lv_iload_n hx hb dX6_sides_2 rfl (lv_at hl 1 rfl) ?_
  refine lv_iload_n hx hb dX6_sides_3 rfl (lv_at hl 2 rfl) ?_
  obtain ⟨x101, hg, hf⟩ := o1_s hf
  refine Ct.callV0 (ws' := wV g v0 u0 u1 u2 u3 k0 k1 k2 k3 h0 h1 h2 h3 s0 s1 s2 s3 c0 c1 c2 p0 r0 t0 t1 t2 t3 z0 f0 ea R N B S C P Q K X fd tl ik) (As := [.int (0 : Int32), .int a1, .int a2]) (rest := []) (st1 := [.int x101]) (c_X6_faultOfTrial l g v0 u0 u1 u2 u3 k0 k1 k2 k3 h0 h1 h2 h3 s0 s1 s2 s3 c0 c1 c2 p0 r0 t0 t1 t2 t3 z0 f0 ea R N B S C P Q K X fd tl ik (0 : Int32) a1 a2 hg) (cwV 3 hts gX6_sides_X6_faultOfTrial rfl rfl rfl q_X6_faultOfTrial ⟨Nat.le_of_ble_eq_true rfl, Nat.le_of_ble_eq_true rfl⟩) ⟨hx, hb, hml, hown, hts⟩ hE hP hD hS hA 6 0 rfl rfl rfl rfl hl.1 rfl rfl (Nat.le_of_ble_eq_true rfl) dX6_sides_4 (fun H locs hP hD hS => ?_)
  refine lv_istore_n (lv' := [(3, .int x101), (0, .ref v0), (1, .int a1), (2, .int a2)]) hx hb dX6_sides_7 rfl hl (by decide) rfl (fun ls hl => ?_)
  refine lv_iload_n hx hb dX6_sides_8 rfl (lv_at hl 0 rfl) ?_
  refine lv_if_eq (tgt := 18) hx hb dX6_sides_9 (by decide) (fun hc => ?_) (fun hc => ?_)
  · have hf := if_t hf hc
    refine lv_iconst (v := (0 : Int32)) hx hb dX6_sides_18 (by decide) ?_
    refine lv_istore (lv' := [(4, .int (0 : Int32)), (3, .int x101), (0, .ref v0), (1, .int a1), (2, .int a2)]) hx hb dX6_sides_19 hl (by decide) rfl (fun ls hl => ?_)
    refine lv_iconst (v := (0 : Int32)) hx hb dX6_sides_21 (by decide) ?_
    refine lv_istore (lv' := [(5, .int (0 : Int32)), (4, .int (0 : Int32)), (3, .int x101), (0, .ref v0), (1, .int a1), (2, .int a2)]) hx hb dX6_sides_22 hl (by decide) rfl (fun ls hl => ?_)
    refine L24 _ _ _ _ _ _ _ _ _ _ _  hf hP hD hS (lv_sub hl [3, 4, 5, 1, 0] rfl) (fun B110 x111 H locs ls hf hP hD hS hl => ?_)
    refine lv_iload hx hb dX6_sides_78 (lv_at hl 0 rfl) ?_
    obtain ⟨rfl, rfl, rfl⟩ := some_p3 hf
    rw [hQ]; exact Ct.iret hx hb hr hlocks hAe hP hD hS dX6_sides_80
  · have hf := if_f hf hc
    refine lv_aload_n hx hb dX6_sides_12 rfl (lv_at hl 1 rfl) ?_
    refine lv_iload_n hx hb dX6_sides_13 rfl (lv_at hl 0 rfl) ?_
    obtain ⟨x112, fd113, hg, hf⟩ := o2_s hf
    refine Ct.callV0 (ws' := wV g v0 u0 u1 u2 u3 k0 k1 k2 k3 h0 h1 h2 h3 s0 s1 s2 s3 c0 c1 c2 p0 r0 t0 t1 t2 t3 z0 f0 ea R N B S C P Q K X fd113 tl ik) (As := [.int x101]) (rest := []) (st1 := [.int x112]) (c_X6_finding l g v0 u0 u1 u2 u3 k0 k1 k2 k3 h0 h1 h2 h3 s0 s1 s2 s3 c0 c1 c2 p0 r0 t0 t1 t2 t3 z0 f0 ea R N B S C P Q K X fd tl ik x101 hg) (cwV 1 hts gX6_sides_X6_finding rfl rfl rfl q_X6_finding ⟨Nat.le_of_ble_eq_true rfl, Nat.le_of_ble_eq_true rfl⟩) ⟨hx, hb, hml, hown, hts⟩ hE hP hD hS hA 6 0 rfl rfl rfl rfl hl.1 rfl rfl (Nat.le_of_ble_eq_true rfl) dX6_sides_14 (fun H locs hP hD hS => ?_)
    obtain ⟨rfl, rfl, rfl⟩ := some_p3 hf
    rw [hQ]; exact Ct.iret hx hb hr hlocks hAe hP hD hS dX6_sides_17
def fX6_cat (R : Rf) (fd : Nat → Int32) : Option (Int32 × Rf × (Nat → Int32)) := if 0 < R.2.2.2.1 then (o2 (fX1_draw R) (fun x101 R102 => nz R.2.2.2.1 (o2 (fX1_draw R102) (fun x103 R104 => nz R.2.2.2.1 (o1 (fX1_set R104 (x101 - x101 / R.2.2.2.1 * R.2.2.2.1) (4 : Int32) (x103 - x103 / R.2.2.2.1 * R.2.2.2.1)) (fun R105 => some ((x103 - x103 / R.2.2.2.1 * R.2.2.2.1), R105, fd))))))) else (o2 (fX6_finding fd (-1000005 : Int32)) (fun x106 fd107 => some (x106, R, fd107)))
theorem q_X6_cat : yX6_cat.cls = RX6 ∧ yX6_cat.cls ≠ "java/lang/invoke/MethodHandle" ∧ yX6_cat.cls ≠ "java/lang/invoke/VarHandle" ∧ (parseMethodDescriptor yX6_cat.desc).map (fun d => d.parameters.length) = some 0 := by decide +kernel
theorem i_X6_cat_X6 : ∀ w ∈ u_ws RX6 TX6 11, w ∈ wsX6_cat := fun _ h => List.mem_cons_of_mem _ (List.mem_append_left _ (List.mem_append_right _ (h)))
theorem i_X6_cat_X1 : ∀ w ∈ u_ws RX1 TX1 9, w ∈ wsX6_cat := fun _ h => List.mem_cons_of_mem _ (List.mem_append_right _ (h))
set_option maxHeartbeats 4000000 in
set_option maxRecDepth 100000 in
theorem c_X6_cat (l : Launch) (g : gG) (v0 u0 u1 u2 u3 k0 k1 k2 k3 h0 h1 h2 h3 s0 s1 s2 s3 c0 c1 c2 p0 r0 t0 t1 t2 t3 z0 f0 : Nat) (ea : Nat → Nat) (R : Rf) (N : Rf) (B : Rf) (S : Sv) (C : Ca) (P : Nat → Int32) (Q : Tr) (K : Tk) (X : F4) (fd : Nat → Int32) (tl : Int32) (ik : Int32) {r : Int32} {R' : Rf} {fd' : Nat → Int32} (hf : fX6_cat R fd = some (r, R', fd')) : Ct l yX6_cat wsX6_cat (rmm 2 44) g (wV g v0 u0 u1 u2 u3 k0 k1 k2 k3 h0 h1 h2 h3 s0 s1 s2 s3 c0 c1 c2 p0 r0 t0 t1 t2 t3 z0 f0 ea R N B S C P Q K X fd tl ik) (wV g v0 u0 u1 u2 u3 k0 k1 k2 k3 h0 h1 h2 h3 s0 s1 s2 s3 c0 c1 c2 p0 r0 t0 t1 t2 t3 z0 f0 ea (R') N B S C P Q K X (fd') tl ik) [.ref v0] (some (.int r)) := by
  refine Ct.mk (by decide) rfl (Nat.le_of_ble_eq_true rfl) ?_
  intro p e s m args below meth c A ls hx hb hr hml hts hown hlocks hA hE hP hD hS hl hAe
  obtain ⟨Qx, hQ⟩ : ∃ Qx : State → Prop, Qx = MQ below (QcG g (wV g v0 u0 u1 u2 u3 k0 k1 k2 k3 h0 h1 h2 h3 s0 s1 s2 s3 c0 c1 c2 p0 r0 t0 t1 t2 t3 z0 f0 ea R N B S C P Q K X fd tl ik) (wV g v0 u0 u1 u2 u3 k0 k1 k2 k3 h0 h1 h2 h3 s0 s1 s2 s3 c0 c1 c2 p0 r0 t0 t1 t2 t3 z0 f0 ea (R') N B S C P Q K X (fd') tl ik) (some (.int r)) s.heap.size) args s 0 0 A := ⟨_, rfl⟩
  rw [← hQ]
  have hown : s.vm.findClass RX6 = some m.cls := hown
  have hl : lv_has ls 4 [(0, .ref v0)] := hl
  have w1 := hts (.fieldLink RX6 10 "RainVault" "roof" "LRainVault$Roof;") (List.mem_of_getElem? (i := 1) rfl)
  have w2 := hts (.constant RX6 143 (-1000005)) (List.mem_of_getElem? (i := 2) rfl)
  unfold fX6_cat at hf
  refine lv_aload_n hx hb dX6_cat_0 rfl (lv_at hl 0 rfl) ?_
  refine va_get (D := g.1) (ci := 6) (v := .ref u0) (C := RX6) (T := TX6) (N := 11) hx hb hts i_X6_cat_X6 hown hE.1 hP 0 rfl rfl 0 (by decide) w1 (fun _ h9 => h9) rfl dX6_cat_1 ?_
  refine va_getN (D := g.1) (ci := 1) (v := .int R.2.2.2.1) (C := RX1) (T := TX1) (N := 9) hx hb hts i_X6_cat_X1 hown hE.1 hP 1 rfl rfl 3 (by decide) (va_Nw.use rfl (hE.2.1 _ (List.mem_of_getElem? (i := 1) rfl))) (fun _ h9 => h9) rfl dX6_cat_4 ?_
  refine lv_istore_n (lv' := [(1, .int R.2.2.2.1), (0, .ref v0)]) hx hb dX6_cat_7 rfl hl (by decide) rfl (fun ls hl => ?_)
  refine lv_iload_n hx hb dX6_cat_8 rfl (lv_at hl 0 rfl) ?_
  refine lv_if_gt (tgt := 19) hx hb dX6_cat_9 (by decide) (fun hc => ?_) (fun hc => ?_)
  · have hf := if_t hf hc
    refine lv_aload_n hx hb dX6_cat_19 rfl (lv_at hl 1 rfl) ?_
    refine va_get (D := g.1) (ci := 6) (v := .ref u0) (C := RX6) (T := TX6) (N := 11) hx hb hts i_X6_cat_X6 hown hE.1 hP 0 rfl rfl 0 (by decide) w1 (fun _ h9 => h9) rfl dX6_cat_20 ?_
    obtain ⟨x101, R102, hg, hf⟩ := o2_s hf
    refine Ct.callV (ws' := wV g v0 u0 u1 u2 u3 k0 k1 k2 k3 h0 h1 h2 h3 s0 s1 s2 s3 c0 c1 c2 p0 r0 t0 t1 t2 t3 z0 f0 ea R102 N B S C P Q K X fd tl ik) (As := []) (rest := []) (st1 := [.int x101]) (c_X1_draw l g u0 u1 u2 u3 R hg) (cwV 0 hts gX6_cat_X1_draw rfl rfl rfl q_X1_draw ⟨Nat.le_of_ble_eq_true rfl, Nat.le_of_ble_eq_true rfl⟩) ⟨hx, hb, hml, hown, hts⟩ hE hP hD hS hA [1, 2, 3, 4] rfl rfl rfl rfl 1 1 rfl rfl rfl rfl hl.1 rfl rfl (Nat.le_of_ble_eq_true rfl) dX6_cat_23 (fun H locs hP hD hS => ?_)
    refine lv_iload_n hx hb dX6_cat_26 rfl (lv_at hl 0 rfl) ?_
    obtain ⟨hz, hf⟩ := nz_s hf
    refine lv_irem hx hb dX6_cat_27 hz ?_
    refine lv_istore_n (lv' := [(2, .int (x101 - x101 / R.2.2.2.1 * R.2.2.2.1)), (1, .int R.2.2.2.1), (0, .ref v0)]) hx hb dX6_cat_28 rfl hl (by decide) rfl (fun ls hl => ?_)
    refine lv_aload_n hx hb dX6_cat_29 rfl (lv_at hl 2 rfl) ?_
    refine va_get (D := g.1) (ci := 6) (v := .ref u0) (C := RX6) (T := TX6) (N := 11) hx hb hts i_X6_cat_X6 hown hE.1 hP 0 rfl rfl 0 (by decide) w1 (fun _ h9 => h9) rfl dX6_cat_30 ?_
    obtain ⟨x103, R104, hg, hf⟩ := o2_s hf
    refine Ct.callV (ws' := wV g v0 u0 u1 u2 u3 k0 k1 k2 k3 h0 h1 h2 h3 s0 s1 s2 s3 c0 c1 c2 p0 r0 t0 t1 t2 t3 z0 f0 ea R104 N B S C P Q K X fd tl ik) (As := []) (rest := []) (st1 := [.int x103]) (c_X1_draw l g u0 u1 u2 u3 R102 hg) (cwV 0 hts gX6_cat_X1_draw rfl rfl rfl q_X1_draw ⟨Nat.le_of_ble_eq_true rfl, Nat.le_of_ble_eq_true rfl⟩) ⟨hx, hb, hml, hown, hts⟩ hE hP hD hS hA [1, 2, 3, 4] rfl rfl rfl rfl 1 1 rfl rfl rfl rfl hl.1 rfl rfl (Nat.le_of_ble_eq_true rfl) dX6_cat_33 (fun H locs hP hD hS => ?_)
    refine lv_iload_n hx hb dX6_cat_36 rfl (lv_at hl 1 rfl) ?_
    obtain ⟨hz, hf⟩ := nz_s hf
    refine lv_irem hx hb dX6_cat_37 hz ?_
    refine lv_istore_n (lv' := [(3, .int (x103 - x103 / R.2.2.2.1 * R.2.2.2.1)), (2, .int (x101 - x101 / R.2.2.2.1 * R.2.2.2.1)), (1, .int R.2.2.2.1), (0, .ref v0)]) hx hb dX6_cat_38 rfl hl (by decide) rfl (fun ls hl => ?_)
    refine lv_aload_n hx hb dX6_cat_39 rfl (lv_at hl 3 rfl) ?_
    refine va_get (D := g.1) (ci := 6) (v := .ref u0) (C := RX6) (T := TX6) (N := 11) hx hb hts i_X6_cat_X6 hown hE.1 hP 0 rfl rfl 0 (by decide) w1 (fun _ h9 => h9) rfl dX6_cat_40 ?_
    refine lv_iload_n hx hb dX6_cat_43 rfl (lv_at hl 1 rfl) ?_
    refine lv_iconst (v := (4 : Int32)) hx hb dX6_cat_44 (by decide) ?_
    refine lv_iload_n hx hb dX6_cat_45 rfl (lv_at hl 0 rfl) ?_
    obtain ⟨R105, hg, hf⟩ := o1_s hf
    refine Ct.callV (ws' := wV g v0 u0 u1 u2 u3 k0 k1 k2 k3 h0 h1 h2 h3 s0 s1 s2 s3 c0 c1 c2 p0 r0 t0 t1 t2 t3 z0 f0 ea R105 N B S C P Q K X fd tl ik) (As := [.int (x101 - x101 / R.2.2.2.1 * R.2.2.2.1), .int (4 : Int32), .int (x103 - x103 / R.2.2.2.1 * R.2.2.2.1)]) (rest := []) (st1 := []) (c_X1_set l g u0 u1 u2 u3 R104 (x101 - x101 / R.2.2.2.1 * R.2.2.2.1) (4 : Int32) (x103 - x103 / R.2.2.2.1 * R.2.2.2.1) hg) (cwV 3 hts gX6_cat_X1_set rfl rfl rfl q_X1_set ⟨Nat.le_of_ble_eq_true rfl, Nat.le_of_ble_eq_true rfl⟩) ⟨hx, hb, hml, hown, hts⟩ hE hP hD hS hA [1, 2, 3, 4] rfl rfl rfl rfl 1 1 rfl rfl rfl rfl hl.1 rfl rfl (Nat.le_of_ble_eq_true rfl) dX6_cat_46 (fun H locs hP hD hS => ?_)
    refine lv_iload_n hx hb dX6_cat_49 rfl (lv_at hl 0 rfl) ?_
    obtain ⟨rfl, rfl, rfl⟩ := some_p3 hf
    rw [hQ]; exact Ct.iret hx hb hr hlocks hAe hP hD hS dX6_cat_50
  · have hf := if_f hf hc
    refine lv_aload_n hx hb dX6_cat_12 rfl (lv_at hl 1 rfl) ?_
    refine lv_ldc hx hb hown w2 dX6_cat_13 ?_
    obtain ⟨x106, fd107, hg, hf⟩ := o2_s hf
    refine Ct.callV0 (ws' := wV g v0 u0 u1 u2 u3 k0 k1 k2 k3 h0 h1 h2 h3 s0 s1 s2 s3 c0 c1 c2 p0 r0 t0 t1 t2 t3 z0 f0 ea R N B S C P Q K X fd107 tl ik) (As := [.int (-1000005 : Int32)]) (rest := []) (st1 := [.int x106]) (c_X6_finding l g v0 u0 u1 u2 u3 k0 k1 k2 k3 h0 h1 h2 h3 s0 s1 s2 s3 c0 c1 c2 p0 r0 t0 t1 t2 t3 z0 f0 ea R N B S C P Q K X fd tl ik (-1000005 : Int32) hg) (cwV 1 hts gX6_cat_X6_finding rfl rfl rfl q_X6_finding ⟨Nat.le_of_ble_eq_true rfl, Nat.le_of_ble_eq_true rfl⟩) ⟨hx, hb, hml, hown, hts⟩ hE hP hD hS hA 6 0 rfl rfl rfl rfl hl.1 rfl rfl (Nat.le_of_ble_eq_true rfl) dX6_cat_15 (fun H locs hP hD hS => ?_)
    obtain ⟨rfl, rfl, rfl⟩ := some_p3 hf
    rw [hQ]; exact Ct.iret hx hb hr hlocks hAe hP hD hS dX6_cat_18
def fX6_seed (R : Rf) (a1 : Int32) : Option (Int32 × Rf) := some (R.2.2.2.2.2.2.2.2, (R.1, R.2.1, R.2.2.1, R.2.2.2.1, R.2.2.2.2.1, R.2.2.2.2.2.1, R.2.2.2.2.2.2.1, R.2.2.2.2.2.2.2.1, a1))
theorem q_X6_seed : yX6_seed.cls = RX6 ∧ yX6_seed.cls ≠ "java/lang/invoke/MethodHandle" ∧ yX6_seed.cls ≠ "java/lang/invoke/VarHandle" ∧ (parseMethodDescriptor yX6_seed.desc).map (fun d => d.parameters.length) = some 1 := by decide +kernel
theorem i_X6_seed_X6 : ∀ w ∈ u_ws RX6 TX6 11, w ∈ wsX6_seed := fun _ h => List.mem_cons_of_mem _ (List.mem_append_left _ (List.mem_append_right _ (h)))
theorem i_X6_seed_X1 : ∀ w ∈ u_ws RX1 TX1 9, w ∈ wsX6_seed := fun _ h => List.mem_cons_of_mem _ (List.mem_append_right _ (h))
set_option maxHeartbeats 4000000 in
set_option maxRecDepth 100000 in
theorem c_X6_seed (l : Launch) (g : gG) (v0 u0 u1 u2 u3 k0 k1 k2 k3 h0 h1 h2 h3 s0 s1 s2 s3 c0 c1 c2 p0 r0 t0 t1 t2 t3 z0 f0 : Nat) (ea : Nat → Nat) (R : Rf) (N : Rf) (B : Rf) (S : Sv) (C : Ca) (P : Nat → Int32) (Q : Tr) (K : Tk) (X : F4) (fd : Nat → Int32) (tl : Int32) (ik : Int32) (a1 : Int32) {r : Int32} {R' : Rf} (hf : fX6_seed R a1 = some (r, R')) : Ct l yX6_seed wsX6_seed (rmm 0 0) g (wV g v0 u0 u1 u2 u3 k0 k1 k2 k3 h0 h1 h2 h3 s0 s1 s2 s3 c0 c1 c2 p0 r0 t0 t1 t2 t3 z0 f0 ea R N B S C P Q K X fd tl ik) (wV g v0 u0 u1 u2 u3 k0 k1 k2 k3 h0 h1 h2 h3 s0 s1 s2 s3 c0 c1 c2 p0 r0 t0 t1 t2 t3 z0 f0 ea (R') N B S C P Q K X fd tl ik) [.ref v0, .int a1] (some (.int r)) := by
  refine Ct.mk (by decide) rfl (Nat.le_of_ble_eq_true rfl) ?_
  intro p e s m args below meth c A ls hx hb hr hml hts hown hlocks hA hE hP hD hS hl hAe
  obtain ⟨Qx, hQ⟩ : ∃ Qx : State → Prop, Qx = MQ below (QcG g (wV g v0 u0 u1 u2 u3 k0 k1 k2 k3 h0 h1 h2 h3 s0 s1 s2 s3 c0 c1 c2 p0 r0 t0 t1 t2 t3 z0 f0 ea R N B S C P Q K X fd tl ik) (wV g v0 u0 u1 u2 u3 k0 k1 k2 k3 h0 h1 h2 h3 s0 s1 s2 s3 c0 c1 c2 p0 r0 t0 t1 t2 t3 z0 f0 ea (R') N B S C P Q K X fd tl ik) (some (.int r)) s.heap.size) args s 0 0 A := ⟨_, rfl⟩
  rw [← hQ]
  have hown : s.vm.findClass RX6 = some m.cls := hown
  have hl : lv_has ls 3 [(0, .ref v0), (1, .int a1)] := hl
  have w1 := hts (.fieldLink RX6 10 "RainVault" "roof" "LRainVault$Roof;") (List.mem_of_getElem? (i := 1) rfl)
  unfold fX6_seed at hf
  refine lv_aload_n hx hb dX6_seed_0 rfl (lv_at hl 0 rfl) ?_
  refine va_get (D := g.1) (ci := 6) (v := .ref u0) (C := RX6) (T := TX6) (N := 11) hx hb hts i_X6_seed_X6 hown hE.1 hP 0 rfl rfl 0 (by decide) w1 (fun _ h9 => h9) rfl dX6_seed_1 ?_
  refine va_getN (D := g.1) (ci := 1) (v := .int R.2.2.2.2.2.2.2.2) (C := RX1) (T := TX1) (N := 9) hx hb hts i_X6_seed_X1 hown hE.1 hP 1 rfl rfl 8 (by decide) (va_Nw.use rfl (hE.2.1 _ (List.mem_of_getElem? (i := 9) rfl))) (fun _ h9 => h9) rfl dX6_seed_4 ?_
  refine lv_istore_n (lv' := [(2, .int R.2.2.2.2.2.2.2.2), (0, .ref v0), (1, .int a1)]) hx hb dX6_seed_7 rfl hl (by decide) rfl (fun ls hl => ?_)
  refine lv_aload_n hx hb dX6_seed_8 rfl (lv_at hl 1 rfl) ?_
  refine va_get (D := g.1) (ci := 6) (v := .ref u0) (C := RX6) (T := TX6) (N := 11) hx hb hts i_X6_seed_X6 hown hE.1 hP 0 rfl rfl 0 (by decide) w1 (fun _ h9 => h9) rfl dX6_seed_9 ?_
  refine lv_iload_n hx hb dX6_seed_12 rfl (lv_at hl 2 rfl) ?_
  refine va_putN (D := g.1) (ci := 1) (v := .int a1) (ty := .int) (C := RX1) (T := TX1) (N := 9) hx hb hts i_X6_seed_X1 tyX1 tyX1_ok nmX1 hown hE.1 hP hD hS 1 rfl rfl 8 (by decide) (va_Nw.use rfl (hE.2.1 _ (List.mem_of_getElem? (i := 9) rfl))) (fun _ h9 => h9) rfl (by decide +kernel) rfl rfl (Nat.le_of_ble_eq_true rfl) dX6_seed_13 (fun H locs hP hD hS => ?_)
  have hP : va_P g.1 vwK (wV g v0 u0 u1 u2 u3 k0 k1 k2 k3 h0 h1 h2 h3 s0 s1 s2 s3 c0 c1 c2 p0 r0 t0 t1 t2 t3 z0 f0 ea (R.1, R.2.1, R.2.2.1, R.2.2.2.1, R.2.2.2.2.1, R.2.2.2.2.2.1, R.2.2.2.2.2.2.1, R.2.2.2.2.2.2.2.1, a1) N B S C P Q K X fd tl ik) H := hP
  have hD : va_D A (wV g v0 u0 u1 u2 u3 k0 k1 k2 k3 h0 h1 h2 h3 s0 s1 s2 s3 c0 c1 c2 p0 r0 t0 t1 t2 t3 z0 f0 ea (R.1, R.2.1, R.2.2.1, R.2.2.2.1, R.2.2.2.2.1, R.2.2.2.2.2.1, R.2.2.2.2.2.2.1, R.2.2.2.2.2.2.2.1, a1) N B S C P Q K X fd tl ik) := hD
  refine lv_iload_n hx hb dX6_seed_16 rfl (lv_at hl 0 rfl) ?_
  obtain ⟨rfl, rfl⟩ := some_p2 hf
  rw [hQ]; exact Ct.iret hx hb hr hlocks hAe hP hD hS dX6_seed_17
def fX6_feed_L38 (x1 : Int32) (kx : (Nat → Int32) → Int32 → Option (Int32 × (Nat → Int32) × (Nat → Int32) × Int32)) : Nat → (Nat → Int32) → Int32 → Int32 → Option (Int32 × (Nat → Int32) × (Nat → Int32) × Int32)
  | 0, _, _, _ => none
  | k + 1, P, tl, x3 => if x3 < 0 then (kx P tl) else (o1 (fX6_put 120 P tl (((x1.toUInt32 >>> (((8 : Int32) * x3).toUInt32 &&& Int32.toUInt32 31)).toInt32) &&& (255 : Int32))) (fun f103 => fX6_feed_L38 x1 kx k f103 (tl + (1 : Int32)) (x3 + (-1 : Int32))))
def fX6_feed (P : Nat → Int32) (fd : Nat → Int32) (tl : Int32) (a1 : Int32) (a2 : Int32) : Option (Int32 × (Nat → Int32) × (Nat → Int32) × Int32) := o1 (fX6_isWithin a2 (1 : Int32) (4 : Int32)) (fun x101 => if x101 = 0 then (o2 (fX6_finding fd (-1000001 : Int32)) (fun x108 fd109 => some (x108, P, fd109, tl))) else (if (tl + a2) ≤ (120 : Int32) then (fX6_feed_L38 a1 (fun P104 tl105 => some (tl105, P104, fd, tl105)) fu P tl (a2 - (1 : Int32))) else (o2 (fX6_finding fd (-1000002 : Int32)) (fun x106 fd107 => some (x106, P, fd107, tl)))))
theorem q_X6_feed : yX6_feed.cls = RX6 ∧ yX6_feed.cls ≠ "java/lang/invoke/MethodHandle" ∧ yX6_feed.cls ≠ "java/lang/invoke/VarHandle" ∧ (parseMethodDescriptor yX6_feed.desc).map (fun d => d.parameters.length) = some 2 := by decide +kernel
theorem i_X6_feed_X6 : ∀ w ∈ u_ws RX6 TX6 11, w ∈ wsX6_feed := fun _ h => List.mem_cons_of_mem _ (List.mem_append_right _ (h))
set_option maxHeartbeats 4000000 in
set_option maxRecDepth 100000 in
theorem c_X6_feed (l : Launch) (g : gG) (v0 u0 u1 u2 u3 k0 k1 k2 k3 h0 h1 h2 h3 s0 s1 s2 s3 c0 c1 c2 p0 r0 t0 t1 t2 t3 z0 f0 : Nat) (ea : Nat → Nat) (R : Rf) (N : Rf) (B : Rf) (S : Sv) (C : Ca) (P : Nat → Int32) (Q : Tr) (K : Tk) (X : F4) (fd : Nat → Int32) (tl : Int32) (ik : Int32) (a1 : Int32) (a2 : Int32) {r : Int32} {P' : Nat → Int32} {fd' : Nat → Int32} {tl' : Int32} (hf : fX6_feed P fd tl a1 a2 = some (r, P', fd', tl')) : Ct l yX6_feed wsX6_feed (rmm 2 44) g (wV g v0 u0 u1 u2 u3 k0 k1 k2 k3 h0 h1 h2 h3 s0 s1 s2 s3 c0 c1 c2 p0 r0 t0 t1 t2 t3 z0 f0 ea R N B S C P Q K X fd tl ik) (wV g v0 u0 u1 u2 u3 k0 k1 k2 k3 h0 h1 h2 h3 s0 s1 s2 s3 c0 c1 c2 p0 r0 t0 t1 t2 t3 z0 f0 ea R N B S C (P') Q K X (fd') (tl') ik) [.ref v0, .int a1, .int a2] (some (.int r)) := by
  refine Ct.mk (by decide) rfl (Nat.le_of_ble_eq_true rfl) ?_
  intro p e s m args below meth c A ls hx hb hr hml hts hown hlocks hA hE hP hD hS hl hAe
  obtain ⟨Qx, hQ⟩ : ∃ Qx : State → Prop, Qx = MQ below (QcG g (wV g v0 u0 u1 u2 u3 k0 k1 k2 k3 h0 h1 h2 h3 s0 s1 s2 s3 c0 c1 c2 p0 r0 t0 t1 t2 t3 z0 f0 ea R N B S C P Q K X fd tl ik) (wV g v0 u0 u1 u2 u3 k0 k1 k2 k3 h0 h1 h2 h3 s0 s1 s2 s3 c0 c1 c2 p0 r0 t0 t1 t2 t3 z0 f0 ea R N B S C (P') Q K X (fd') (tl') ik) (some (.int r)) s.heap.size) args s 0 0 A := ⟨_, rfl⟩
  rw [← hQ]
  have hown : s.vm.findClass RX6 = some m.cls := hown
  have hl : lv_has ls 4 [(0, .ref v0), (1, .int a1), (2, .int a2)] := hl
  have w1 := hts (.fieldLink RX6 61 "RainVault" "tapeLength" "I") (List.mem_of_getElem? (i := 2) rfl)
  have w2 := hts (.fieldLink RX6 38 "RainVault" "tape" "[I") (List.mem_of_getElem? (i := 4) rfl)
  have w3 := hts (.constant RX6 81 (-1000002)) (List.mem_of_getElem? (i := 3) rfl)
  have w4 := hts (.constant RX6 73 (-1000001)) (List.mem_of_getElem? (i := 1) rfl)
  have L38 : ∀ (fd : Nat → Int32) (x1 : Int32) (kx : (Nat → Int32) → Int32 → Option (Int32 × (Nat → Int32) × (Nat → Int32) × Int32)) (k : Nat) (P : Nat → Int32) (tl : Int32) (x3 : Int32) (H : Heap) (locs : List Loc) (ls : Array Slot), fX6_feed_L38 x1 kx k P tl x3 = some (r, P', fd', tl') → va_P g.1 vwK (wV g v0 u0 u1 u2 u3 k0 k1 k2 k3 h0 h1 h2 h3 s0 s1 s2 s3 c0 c1 c2 p0 r0 t0 t1 t2 t3 z0 f0 ea R N B S C P Q K X fd tl ik) H → va_D A (wV g v0 u0 u1 u2 u3 k0 k1 k2 k3 h0 h1 h2 h3 s0 s1 s2 s3 c0 c1 c2 p0 r0 t0 t1 t2 t3 z0 f0 ea R N B S C P Q K X fd tl ik) → va_S A s.heap H locs → lv_has ls 4 [(0, .ref v0), (1, .int x1), (3, .int x3)] → (∀ (P : Nat → Int32) (tl : Int32) (H : Heap) (locs : List Loc) (ls : Array Slot), kx P tl = some (r, P', fd', tl') → va_P g.1 vwK (wV g v0 u0 u1 u2 u3 k0 k1 k2 k3 h0 h1 h2 h3 s0 s1 s2 s3 c0 c1 c2 p0 r0 t0 t1 t2 t3 z0 f0 ea R N B S C P Q K X fd tl ik) H → va_D A (wV g v0 u0 u1 u2 u3 k0 k1 k2 k3 h0 h1 h2 h3 s0 s1 s2 s3 c0 c1 c2 p0 r0 t0 t1 t2 t3 z0 f0 ea R N B S C P Q K X fd tl ik) → va_S A s.heap H locs → lv_has ls 4 [(0, .ref v0)] → W p l e (rmm 2 44) s m args below meth c H locs 0 0 Qx (F0 m 79 ls [])) → W p l e (rmm 2 44) s m args below meth c H locs 0 0 Qx (F0 m 38 ls []) := by
    intro fd x1 kx k
    induction k with
    | zero => intro P tl x3 H locs ls hf; exact nomatch (show (none : Option (Int32 × (Nat → Int32) × (Nat → Int32) × Int32)) = some _ from hf)
    | succ k ih =>
      intro P tl x3 H locs ls hf hP hD hS hl hk
      rw [fX6_feed_L38] at hf
      refine lv_iload_n hx hb dX6_feed_38 rfl (lv_at hl 2 rfl) ?_
      refine lv_if_lt (tgt := 79) hx hb dX6_feed_39 (by decide) (fun hc => ?_) (fun hc => ?_)
      · have hf := if_t hf hc
        exact hk _ _ _ _ _  hf hP hD hS (lv_sub hl [0] rfl)
      · have hf := if_f hf hc
        refine lv_aload_n hx hb dX6_feed_42 rfl (lv_at hl 0 rfl) ?_
        refine va_get (D := g.1) (ci := 6) (v := .ref p0) (C := RX6) (T := TX6) (N := 11) hx hb hts i_X6_feed_X6 hown hE.1 hP 0 rfl rfl 5 (by decide) w2 (fun _ h9 => h9) rfl dX6_feed_43 ?_
        refine lv_aload_n hx hb dX6_feed_46 rfl (lv_at hl 0 rfl) ?_
        refine va_get (D := g.1) (ci := 6) (v := .int tl) (C := RX6) (T := TX6) (N := 11) hx hb hts i_X6_feed_X6 hown hE.1 hP 0 rfl rfl 9 (by decide) w1 (fun _ h9 => h9) rfl dX6_feed_47 ?_
        refine lv_iload_n hx hb dX6_feed_50 rfl (lv_at hl 1 rfl) ?_
        refine lv_bipush (v := (8 : Int32)) hx hb dX6_feed_51 (by decide) ?_
        refine lv_iload_n hx hb dX6_feed_53 rfl (lv_at hl 2 rfl) ?_
        refine lv_imul hx hb dX6_feed_54 ?_
        refine lv_iushr (v := (x1.toUInt32 >>> (((8 : Int32) * x3).toUInt32 &&& Int32.toUInt32 31)).toInt32) hx hb dX6_feed_55 rfl ?_
        refine lv_sipush (v := (255 : Int32)) hx hb dX6_feed_56 (by decide) ?_
        refine lv_iand hx hb dX6_feed_59 ?_
        obtain ⟨f103, hg, hf⟩ := o1_s hf
        refine Ct.callS (ws' := wV g v0 u0 u1 u2 u3 k0 k1 k2 k3 h0 h1 h2 h3 s0 s1 s2 s3 c0 c1 c2 p0 r0 t0 t1 t2 t3 z0 f0 ea R N B S C f103 Q K X fd tl ik) (As := [.ref p0, .int tl, .int (((x1.toUInt32 >>> (((8 : Int32) * x3).toUInt32 &&& Int32.toUInt32 31)).toInt32) &&& (255 : Int32))]) (rest := []) (st1 := []) (c_X6_put l g p0 120 P tl (((x1.toUInt32 >>> (((8 : Int32) * x3).toUInt32 &&& Int32.toUInt32 31)).toInt32) &&& (255 : Int32)) hg) (va_cwS 3 hts gX6_feed_X6_put rfl rfl rfl q_X6_put.2 ⟨Nat.le_of_ble_eq_true rfl, Nat.le_of_ble_eq_true rfl⟩) ⟨hx, hb, hml, hown, hts⟩ hE hP hD hS hA [20] rfl rfl rfl rfl rfl hl.1 rfl rfl (Nat.le_of_ble_eq_true rfl) dX6_feed_60 (fun H locs hP hD hS => ?_)
        refine lv_aload_n hx hb dX6_feed_63 rfl (lv_at hl 0 rfl) ?_
        refine lv_dup hx hb dX6_feed_64 rfl ?_
        refine va_get (D := g.1) (ci := 6) (v := .int tl) (C := RX6) (T := TX6) (N := 11) hx hb hts i_X6_feed_X6 hown hE.1 hP 0 rfl rfl 9 (by decide) w1 (fun _ h9 => h9) rfl dX6_feed_65 ?_
        refine lv_iconst (v := (1 : Int32)) hx hb dX6_feed_68 (by decide) ?_
        refine lv_iadd hx hb dX6_feed_69 ?_
        refine va_put (D := g.1) (ci := 6) (v := .int (tl + (1 : Int32))) (ty := .int) (C := RX6) (T := TX6) (N := 11) hx hb hts i_X6_feed_X6 tyX6 tyX6_ok nmX6 hown hE.1 hP hD hS 0 rfl rfl 9 (by decide) w1 (fun _ h9 => h9) rfl (by decide +kernel) rfl rfl (Nat.le_of_ble_eq_true rfl) dX6_feed_70 (fun H locs hP hD hS => ?_)
        have hP : va_P g.1 vwK (wV g v0 u0 u1 u2 u3 k0 k1 k2 k3 h0 h1 h2 h3 s0 s1 s2 s3 c0 c1 c2 p0 r0 t0 t1 t2 t3 z0 f0 ea R N B S C f103 Q K X fd (tl + (1 : Int32)) ik) H := hP
        have hD : va_D A (wV g v0 u0 u1 u2 u3 k0 k1 k2 k3 h0 h1 h2 h3 s0 s1 s2 s3 c0 c1 c2 p0 r0 t0 t1 t2 t3 z0 f0 ea R N B S C f103 Q K X fd (tl + (1 : Int32)) ik) := hD
        refine lv_iinc (v := (x3 + (-1 : Int32))) (lv' := [(3, .int (x3 + (-1 : Int32))), (0, .ref v0), (1, .int x1)]) hx hb dX6_feed_73 hl (k := 2) rfl rfl (by decide) rfl (fun ls hl => ?_)
        refine lv_goto (tgt := 38) hx hb dX6_feed_76 (by decide) ?_
        exact ih _ _ _ _ _ _  hf hP hD hS (lv_sub hl [1, 2, 0] rfl) hk
  unfold fX6_feed at hf
  refine lv_iload_n hx hb dX6_feed_0 rfl (lv_at hl 2 rfl) ?_
  refine lv_iconst (v := (1 : Int32)) hx hb dX6_feed_1 (by decide) ?_
  refine lv_iconst (v := (4 : Int32)) hx hb dX6_feed_2 (by decide) ?_
  obtain ⟨x101, hg, hf⟩ := o1_s hf
  refine Ct.callS (ws' := wV g v0 u0 u1 u2 u3 k0 k1 k2 k3 h0 h1 h2 h3 s0 s1 s2 s3 c0 c1 c2 p0 r0 t0 t1 t2 t3 z0 f0 ea R N B S C P Q K X fd tl ik) (As := [.int a2, .int (1 : Int32), .int (4 : Int32)]) (rest := []) (st1 := [.int x101]) (c_X6_isWithin l g a2 (1 : Int32) (4 : Int32) hg) (va_cwS 3 hts gX6_feed_X6_isWithin rfl rfl rfl q_X6_isWithin.2 ⟨Nat.le_of_ble_eq_true rfl, Nat.le_of_ble_eq_true rfl⟩) ⟨hx, hb, hml, hown, hts⟩ hE hP hD hS hA [] rfl rfl rfl rfl rfl hl.1 rfl rfl (Nat.le_of_ble_eq_true rfl) dX6_feed_3 (fun H locs hP hD hS => ?_)
  refine lv_if_ne (tgt := 16) hx hb dX6_feed_6 (by decide) (fun hc => ?_) (fun hc => ?_)
  · have hf := if_f hf hc
    refine lv_aload_n hx hb dX6_feed_16 rfl (lv_at hl 0 rfl) ?_
    refine va_get (D := g.1) (ci := 6) (v := .int tl) (C := RX6) (T := TX6) (N := 11) hx hb hts i_X6_feed_X6 hown hE.1 hP 0 rfl rfl 9 (by decide) w1 (fun _ h9 => h9) rfl dX6_feed_17 ?_
    refine lv_iload_n hx hb dX6_feed_20 rfl (lv_at hl 2 rfl) ?_
    refine lv_iadd hx hb dX6_feed_21 ?_
    refine lv_bipush (v := (120 : Int32)) hx hb dX6_feed_22 (by decide) ?_
    refine lv_icmp_le (tgt := 34) hx hb dX6_feed_24 (by decide) (fun hc => ?_) (fun hc => ?_)
    · have hf := if_t hf hc
      refine lv_iload_n hx hb dX6_feed_34 rfl (lv_at hl 2 rfl) ?_
      refine lv_iconst (v := (1 : Int32)) hx hb dX6_feed_35 (by decide) ?_
      refine lv_isub hx hb dX6_feed_36 ?_
      refine lv_istore_n (lv' := [(3, .int (a2 - (1 : Int32))), (0, .ref v0), (1, .int a1), (2, .int a2)]) hx hb dX6_feed_37 rfl hl (by decide) rfl (fun ls hl => ?_)
      refine L38 _ _ _ _ _ _ _ _ _ _  hf hP hD hS (lv_sub hl [1, 2, 0] rfl) (fun P104 tl105 H locs ls hf hP hD hS hl => ?_)
      refine lv_aload_n hx hb dX6_feed_79 rfl (lv_at hl 0 rfl) ?_
      refine va_get (D := g.1) (ci := 6) (v := .int tl105) (C := RX6) (T := TX6) (N := 11) hx hb hts i_X6_feed_X6 hown hE.1 hP 0 rfl rfl 9 (by decide) w1 (fun _ h9 => h9) rfl dX6_feed_80 ?_
      obtain ⟨rfl, rfl, rfl, rfl⟩ := some_p4 hf
      rw [hQ]; exact Ct.iret hx hb hr hlocks hAe hP hD hS dX6_feed_83
    · have hf := if_f hf hc
      refine lv_aload_n hx hb dX6_feed_27 rfl (lv_at hl 0 rfl) ?_
      refine lv_ldc hx hb hown w3 dX6_feed_28 ?_
      obtain ⟨x106, fd107, hg, hf⟩ := o2_s hf
      refine Ct.callV0 (ws' := wV g v0 u0 u1 u2 u3 k0 k1 k2 k3 h0 h1 h2 h3 s0 s1 s2 s3 c0 c1 c2 p0 r0 t0 t1 t2 t3 z0 f0 ea R N B S C P Q K X fd107 tl ik) (As := [.int (-1000002 : Int32)]) (rest := []) (st1 := [.int x106]) (c_X6_finding l g v0 u0 u1 u2 u3 k0 k1 k2 k3 h0 h1 h2 h3 s0 s1 s2 s3 c0 c1 c2 p0 r0 t0 t1 t2 t3 z0 f0 ea R N B S C P Q K X fd tl ik (-1000002 : Int32) hg) (cwV 1 hts gX6_feed_X6_finding rfl rfl rfl q_X6_finding ⟨Nat.le_of_ble_eq_true rfl, Nat.le_of_ble_eq_true rfl⟩) ⟨hx, hb, hml, hown, hts⟩ hE hP hD hS hA 6 0 rfl rfl rfl rfl hl.1 rfl rfl (Nat.le_of_ble_eq_true rfl) dX6_feed_30 (fun H locs hP hD hS => ?_)
      obtain ⟨rfl, rfl, rfl, rfl⟩ := some_p4 hf
      rw [hQ]; exact Ct.iret hx hb hr hlocks hAe hP hD hS dX6_feed_33
  · have hf := if_t hf hc
    refine lv_aload_n hx hb dX6_feed_9 rfl (lv_at hl 0 rfl) ?_
    refine lv_ldc hx hb hown w4 dX6_feed_10 ?_
    obtain ⟨x108, fd109, hg, hf⟩ := o2_s hf
    refine Ct.callV0 (ws' := wV g v0 u0 u1 u2 u3 k0 k1 k2 k3 h0 h1 h2 h3 s0 s1 s2 s3 c0 c1 c2 p0 r0 t0 t1 t2 t3 z0 f0 ea R N B S C P Q K X fd109 tl ik) (As := [.int (-1000001 : Int32)]) (rest := []) (st1 := [.int x108]) (c_X6_finding l g v0 u0 u1 u2 u3 k0 k1 k2 k3 h0 h1 h2 h3 s0 s1 s2 s3 c0 c1 c2 p0 r0 t0 t1 t2 t3 z0 f0 ea R N B S C P Q K X fd tl ik (-1000001 : Int32) hg) (cwV 1 hts gX6_feed_X6_finding rfl rfl rfl q_X6_finding ⟨Nat.le_of_ble_eq_true rfl, Nat.le_of_ble_eq_true rfl⟩) ⟨hx, hb, hml, hown, hts⟩ hE hP hD hS hA 6 0 rfl rfl rfl rfl hl.1 rfl rfl (Nat.le_of_ble_eq_true rfl) dX6_feed_12 (fun H locs hP hD hS => ?_)
    obtain ⟨rfl, rfl, rfl, rfl⟩ := some_p4 hf
    rw [hQ]; exact Ct.iret hx hb hr hlocks hAe hP hD hS dX6_feed_15
def fX6_wipe (tl : Int32) : Option (Int32 × Int32) := some (tl, (0 : Int32))
theorem q_X6_wipe : yX6_wipe.cls = RX6 ∧ yX6_wipe.cls ≠ "java/lang/invoke/MethodHandle" ∧ yX6_wipe.cls ≠ "java/lang/invoke/VarHandle" ∧ (parseMethodDescriptor yX6_wipe.desc).map (fun d => d.parameters.length) = some 0 := by decide +kernel
theorem i_X6_wipe_X6 : ∀ w ∈ u_ws RX6 TX6 11, w ∈ wsX6_wipe := fun _ h => List.mem_cons_of_mem _ (List.mem_append_right _ (h))
set_option maxHeartbeats 4000000 in
set_option maxRecDepth 100000 in
theorem c_X6_wipe (l : Launch) (g : gG) (v0 u0 u1 u2 u3 k0 k1 k2 k3 h0 h1 h2 h3 s0 s1 s2 s3 c0 c1 c2 p0 r0 t0 t1 t2 t3 z0 f0 : Nat) (ea : Nat → Nat) (R : Rf) (N : Rf) (B : Rf) (S : Sv) (C : Ca) (P : Nat → Int32) (Q : Tr) (K : Tk) (X : F4) (fd : Nat → Int32) (tl : Int32) (ik : Int32) {r : Int32} {tl' : Int32} (hf : fX6_wipe tl = some (r, tl')) : Ct l yX6_wipe wsX6_wipe (rmm 0 0) g (wV g v0 u0 u1 u2 u3 k0 k1 k2 k3 h0 h1 h2 h3 s0 s1 s2 s3 c0 c1 c2 p0 r0 t0 t1 t2 t3 z0 f0 ea R N B S C P Q K X fd tl ik) (wV g v0 u0 u1 u2 u3 k0 k1 k2 k3 h0 h1 h2 h3 s0 s1 s2 s3 c0 c1 c2 p0 r0 t0 t1 t2 t3 z0 f0 ea R N B S C P Q K X fd (tl') ik) [.ref v0] (some (.int r)) := by
  refine Ct.mk (by decide) rfl (Nat.le_of_ble_eq_true rfl) ?_
  intro p e s m args below meth c A ls hx hb hr hml hts hown hlocks hA hE hP hD hS hl hAe
  obtain ⟨Qx, hQ⟩ : ∃ Qx : State → Prop, Qx = MQ below (QcG g (wV g v0 u0 u1 u2 u3 k0 k1 k2 k3 h0 h1 h2 h3 s0 s1 s2 s3 c0 c1 c2 p0 r0 t0 t1 t2 t3 z0 f0 ea R N B S C P Q K X fd tl ik) (wV g v0 u0 u1 u2 u3 k0 k1 k2 k3 h0 h1 h2 h3 s0 s1 s2 s3 c0 c1 c2 p0 r0 t0 t1 t2 t3 z0 f0 ea R N B S C P Q K X fd (tl') ik) (some (.int r)) s.heap.size) args s 0 0 A := ⟨_, rfl⟩
  rw [← hQ]
  have hown : s.vm.findClass RX6 = some m.cls := hown
  have hl : lv_has ls 2 [(0, .ref v0)] := hl
  have w1 := hts (.fieldLink RX6 61 "RainVault" "tapeLength" "I") (List.mem_of_getElem? (i := 1) rfl)
  unfold fX6_wipe at hf
  refine lv_aload_n hx hb dX6_wipe_0 rfl (lv_at hl 0 rfl) ?_
  refine va_get (D := g.1) (ci := 6) (v := .int tl) (C := RX6) (T := TX6) (N := 11) hx hb hts i_X6_wipe_X6 hown hE.1 hP 0 rfl rfl 9 (by decide) w1 (fun _ h9 => h9) rfl dX6_wipe_1 ?_
  refine lv_istore_n (lv' := [(1, .int tl), (0, .ref v0)]) hx hb dX6_wipe_4 rfl hl (by decide) rfl (fun ls hl => ?_)
  refine lv_aload_n hx hb dX6_wipe_5 rfl (lv_at hl 1 rfl) ?_
  refine lv_iconst (v := (0 : Int32)) hx hb dX6_wipe_6 (by decide) ?_
  refine va_put (D := g.1) (ci := 6) (v := .int (0 : Int32)) (ty := .int) (C := RX6) (T := TX6) (N := 11) hx hb hts i_X6_wipe_X6 tyX6 tyX6_ok nmX6 hown hE.1 hP hD hS 0 rfl rfl 9 (by decide) w1 (fun _ h9 => h9) rfl (by decide +kernel) rfl rfl (Nat.le_of_ble_eq_true rfl) dX6_wipe_7 (fun H locs hP hD hS => ?_)
  have hP : va_P g.1 vwK (wV g v0 u0 u1 u2 u3 k0 k1 k2 k3 h0 h1 h2 h3 s0 s1 s2 s3 c0 c1 c2 p0 r0 t0 t1 t2 t3 z0 f0 ea R N B S C P Q K X fd (0 : Int32) ik) H := hP
  have hD : va_D A (wV g v0 u0 u1 u2 u3 k0 k1 k2 k3 h0 h1 h2 h3 s0 s1 s2 s3 c0 c1 c2 p0 r0 t0 t1 t2 t3 z0 f0 ea R N B S C P Q K X fd (0 : Int32) ik) := hD
  refine lv_iload_n hx hb dX6_wipe_10 rfl (lv_at hl 0 rfl) ?_
  obtain ⟨rfl, rfl⟩ := some_p2 hf
  rw [hQ]; exact Ct.iret hx hb hr hlocks hAe hP hD hS dX6_wipe_11
def fX6_text (R : Rf) (B : Rf) (P : Nat → Int32) (Q : Tr) (K : Tk) (tl : Int32) : Option (Int32 × Rf × Rf × Tr × Tk × Int32) := o1 (fX1_become B R) (fun R101 => o4 (fX4_read Q K P R101 tl) (fun x102 Q103 K104 R105 => if x102 < 0 then (some (x102, R, R105, Q103, K104, (0 : Int32))) else (o1 (fX1_become R R105) (fun R106 => some (x102, R106, R105, Q103, K104, (0 : Int32))))))
theorem q_X6_text : yX6_text.cls = RX6 ∧ yX6_text.cls ≠ "java/lang/invoke/MethodHandle" ∧ yX6_text.cls ≠ "java/lang/invoke/VarHandle" ∧ (parseMethodDescriptor yX6_text.desc).map (fun d => d.parameters.length) = some 0 := by decide +kernel
theorem i_X6_text_X6 : ∀ w ∈ u_ws RX6 TX6 11, w ∈ wsX6_text := fun _ h => List.mem_cons_of_mem _ (List.mem_append_left _ (List.mem_append_left _ (List.mem_append_left _ (List.mem_append_right _ (h)))))
set_option maxHeartbeats 4000000 in
set_option maxRecDepth 100000 in
theorem c_X6_text (l : Launch) (g : gG) (v0 u0 u1 u2 u3 k0 k1 k2 k3 h0 h1 h2 h3 s0 s1 s2 s3 c0 c1 c2 p0 r0 t0 t1 t2 t3 z0 f0 : Nat) (ea : Nat → Nat) (R : Rf) (N : Rf) (B : Rf) (S : Sv) (C : Ca) (P : Nat → Int32) (Q : Tr) (K : Tk) (X : F4) (fd : Nat → Int32) (tl : Int32) (ik : Int32) {r : Int32} {R' : Rf} {B' : Rf} {Q' : Tr} {K' : Tk} {tl' : Int32} (hf : fX6_text R B P Q K tl = some (r, R', B', Q', K', tl')) : Ct l yX6_text wsX6_text (rmm 11 332) g (wV g v0 u0 u1 u2 u3 k0 k1 k2 k3 h0 h1 h2 h3 s0 s1 s2 s3 c0 c1 c2 p0 r0 t0 t1 t2 t3 z0 f0 ea R N B S C P Q K X fd tl ik) (wV g v0 u0 u1 u2 u3 k0 k1 k2 k3 h0 h1 h2 h3 s0 s1 s2 s3 c0 c1 c2 p0 r0 t0 t1 t2 t3 z0 f0 ea (R') N (B') S C P (Q') (K') X fd (tl') ik) [.ref v0] (some (.int r)) := by
  refine Ct.mk (by decide) rfl (Nat.le_of_ble_eq_true rfl) ?_
  intro p e s m args below meth c A ls hx hb hr hml hts hown hlocks hA hE hP hD hS hl hAe
  obtain ⟨Qx, hQ⟩ : ∃ Qx : State → Prop, Qx = MQ below (QcG g (wV g v0 u0 u1 u2 u3 k0 k1 k2 k3 h0 h1 h2 h3 s0 s1 s2 s3 c0 c1 c2 p0 r0 t0 t1 t2 t3 z0 f0 ea R N B S C P Q K X fd tl ik) (wV g v0 u0 u1 u2 u3 k0 k1 k2 k3 h0 h1 h2 h3 s0 s1 s2 s3 c0 c1 c2 p0 r0 t0 t1 t2 t3 z0 f0 ea (R') N (B') S C P (Q') (K') X fd (tl') ik) (some (.int r)) s.heap.size) args s 0 0 A := ⟨_, rfl⟩
  rw [← hQ]
  have hown : s.vm.findClass RX6 = some m.cls := hown
  have hl : lv_has ls 2 [(0, .ref v0)] := hl
  have w1 := hts (.fieldLink RX6 19 "RainVault" "trial" "LRainVault$Roof;") (List.mem_of_getElem? (i := 1) rfl)
  have w2 := hts (.fieldLink RX6 10 "RainVault" "roof" "LRainVault$Roof;") (List.mem_of_getElem? (i := 2) rfl)
  have w3 := hts (.fieldLink RX6 47 "RainVault" "reader" "LRainVault$TextReader;") (List.mem_of_getElem? (i := 3) rfl)
  have w4 := hts (.fieldLink RX6 61 "RainVault" "tapeLength" "I") (List.mem_of_getElem? (i := 4) rfl)
  unfold fX6_text at hf
  refine lv_aload_n hx hb dX6_text_0 rfl (lv_at hl 0 rfl) ?_
  refine va_get (D := g.1) (ci := 6) (v := .ref h0) (C := RX6) (T := TX6) (N := 11) hx hb hts i_X6_text_X6 hown hE.1 hP 0 rfl rfl 2 (by decide) w1 (fun _ h9 => h9) rfl dX6_text_1 ?_
  refine lv_aload_n hx hb dX6_text_4 rfl (lv_at hl 0 rfl) ?_
  refine va_get (D := g.1) (ci := 6) (v := .ref u0) (C := RX6) (T := TX6) (N := 11) hx hb hts i_X6_text_X6 hown hE.1 hP 0 rfl rfl 0 (by decide) w2 (fun _ h9 => h9) rfl dX6_text_5 ?_
  obtain ⟨R101, hg, hf⟩ := o1_s hf
  refine Ct.callV (ws' := wV g v0 u0 u1 u2 u3 k0 k1 k2 k3 h0 h1 h2 h3 s0 s1 s2 s3 c0 c1 c2 p0 r0 t0 t1 t2 t3 z0 f0 ea R N R101 S C P Q K X fd tl ik) (As := [.ref u0]) (rest := []) (st1 := []) (c_X1_become l g h0 h1 h2 h3 u0 u1 u2 u3 B R hg) (cwV 1 hts gX6_text_X1_become rfl rfl rfl q_X1_become ⟨Nat.le_of_ble_eq_true rfl, Nat.le_of_ble_eq_true rfl⟩) ⟨hx, hb, hml, hown, hts⟩ hE hP hD hS hA [9, 10, 11, 12, 1, 2, 3, 4] rfl rfl rfl rfl 1 9 rfl rfl rfl rfl hl.1 rfl rfl (Nat.le_of_ble_eq_true rfl) dX6_text_8 (fun H locs hP hD hS => ?_)
  refine lv_aload_n hx hb dX6_text_11 rfl (lv_at hl 0 rfl) ?_
  refine va_get (D := g.1) (ci := 6) (v := .ref r0) (C := RX6) (T := TX6) (N := 11) hx hb hts i_X6_text_X6 hown hE.1 hP 0 rfl rfl 6 (by decide) w3 (fun _ h9 => h9) rfl dX6_text_12 ?_
  refine lv_aload_n hx hb dX6_text_15 rfl (lv_at hl 0 rfl) ?_
  refine va_get (D := g.1) (ci := 6) (v := .int tl) (C := RX6) (T := TX6) (N := 11) hx hb hts i_X6_text_X6 hown hE.1 hP 0 rfl rfl 9 (by decide) w4 (fun _ h9 => h9) rfl dX6_text_16 ?_
  obtain ⟨x102, Q103, K104, R105, hg, hf⟩ := o4_s hf
  refine Ct.callV (ws' := wV g v0 u0 u1 u2 u3 k0 k1 k2 k3 h0 h1 h2 h3 s0 s1 s2 s3 c0 c1 c2 p0 r0 t0 t1 t2 t3 z0 f0 ea R N R105 S C P Q103 K104 X fd tl ik) (As := [.int tl]) (rest := []) (st1 := [.int x102]) (c_X4_read l g r0 t0 t1 t2 t3 p0 h0 h1 h2 h3 Q K P R101 tl hg) (cwV 1 hts gX6_text_X4_read rfl rfl rfl q_X4_read ⟨Nat.le_of_ble_eq_true rfl, Nat.le_of_ble_eq_true rfl⟩) ⟨hx, hb, hml, hown, hts⟩ hE hP hD hS hA [21, 22, 23, 24, 25, 20, 9, 10, 11, 12] rfl rfl rfl rfl 4 21 rfl rfl rfl rfl hl.1 rfl rfl (Nat.le_of_ble_eq_true rfl) dX6_text_19 (fun H locs hP hD hS => ?_)
  refine lv_istore_n (lv' := [(1, .int x102), (0, .ref v0)]) hx hb dX6_text_22 rfl hl (by decide) rfl (fun ls hl => ?_)
  refine lv_aload_n hx hb dX6_text_23 rfl (lv_at hl 1 rfl) ?_
  refine lv_iconst (v := (0 : Int32)) hx hb dX6_text_24 (by decide) ?_
  refine va_put (D := g.1) (ci := 6) (v := .int (0 : Int32)) (ty := .int) (C := RX6) (T := TX6) (N := 11) hx hb hts i_X6_text_X6 tyX6 tyX6_ok nmX6 hown hE.1 hP hD hS 0 rfl rfl 9 (by decide) w4 (fun _ h9 => h9) rfl (by decide +kernel) rfl rfl (Nat.le_of_ble_eq_true rfl) dX6_text_25 (fun H locs hP hD hS => ?_)
  have hP : va_P g.1 vwK (wV g v0 u0 u1 u2 u3 k0 k1 k2 k3 h0 h1 h2 h3 s0 s1 s2 s3 c0 c1 c2 p0 r0 t0 t1 t2 t3 z0 f0 ea R N R105 S C P Q103 K104 X fd (0 : Int32) ik) H := hP
  have hD : va_D A (wV g v0 u0 u1 u2 u3 k0 k1 k2 k3 h0 h1 h2 h3 s0 s1 s2 s3 c0 c1 c2 p0 r0 t0 t1 t2 t3 z0 f0 ea R N R105 S C P Q103 K104 X fd (0 : Int32) ik) := hD
  refine lv_iload_n hx hb dX6_text_28 rfl (lv_at hl 0 rfl) ?_
  refine lv_if_lt (tgt := 43) hx hb dX6_text_29 (by decide) (fun hc => ?_) (fun hc => ?_)
  · have hf := if_t hf hc
    refine lv_iload_n hx hb dX6_text_43 rfl (lv_at hl 0 rfl) ?_
    obtain ⟨rfl, rfl, rfl, rfl, rfl, rfl⟩ := some_p6 hf
    rw [hQ]; exact Ct.iret hx hb hr hlocks hAe hP hD hS dX6_text_44
  · have hf := if_f hf hc
    refine lv_aload_n hx hb dX6_text_32 rfl (lv_at hl 1 rfl) ?_
    refine va_get (D := g.1) (ci := 6) (v := .ref u0) (C := RX6) (T := TX6) (N := 11) hx hb hts i_X6_text_X6 hown hE.1 hP 0 rfl rfl 0 (by decide) w2 (fun _ h9 => h9) rfl dX6_text_33 ?_
    refine lv_aload_n hx hb dX6_text_36 rfl (lv_at hl 1 rfl) ?_
    refine va_get (D := g.1) (ci := 6) (v := .ref h0) (C := RX6) (T := TX6) (N := 11) hx hb hts i_X6_text_X6 hown hE.1 hP 0 rfl rfl 2 (by decide) w1 (fun _ h9 => h9) rfl dX6_text_37 ?_
    obtain ⟨R106, hg, hf⟩ := o1_s hf
    refine Ct.callV (ws' := wV g v0 u0 u1 u2 u3 k0 k1 k2 k3 h0 h1 h2 h3 s0 s1 s2 s3 c0 c1 c2 p0 r0 t0 t1 t2 t3 z0 f0 ea R106 N R105 S C P Q103 K104 X fd (0 : Int32) ik) (As := [.ref h0]) (rest := []) (st1 := []) (c_X1_become l g u0 u1 u2 u3 h0 h1 h2 h3 R R105 hg) (cwV 1 hts gX6_text_X1_become rfl rfl rfl q_X1_become ⟨Nat.le_of_ble_eq_true rfl, Nat.le_of_ble_eq_true rfl⟩) ⟨hx, hb, hml, hown, hts⟩ hE hP hD hS hA [1, 2, 3, 4, 9, 10, 11, 12] rfl rfl rfl rfl 1 1 rfl rfl rfl rfl hl.1 rfl rfl (Nat.le_of_ble_eq_true rfl) dX6_text_40 (fun H locs hP hD hS => ?_)
    refine lv_iload_n hx hb dX6_text_43 rfl (lv_at hl 0 rfl) ?_
    obtain ⟨rfl, rfl, rfl, rfl, rfl, rfl⟩ := some_p6 hf
    rw [hQ]; exact Ct.iret hx hb hr hlocks hAe hP hD hS dX6_text_44
def fX6_hold (R : Rf) (fd : Nat → Int32) (a1 : Int32) (a2 : Int32) : Option (Int32 × Rf × (Nat → Int32)) := o1 (fX6_isWithin a1 (0 : Int32) (9 : Int32)) (fun x101 => if x101 = 0 then (o2 (fX6_finding fd (-1000001 : Int32)) (fun x102 fd103 => some (x102, R, fd103))) else (o1 (fX6_isWithin a2 (-1 : Int32) (R.2.2.2.1 - (1 : Int32))) (fun x104 => if x104 = 0 then (o2 (fX6_finding fd (-1000001 : Int32)) (fun x106 fd107 => some (x106, R, fd107))) else (o1 (fX6_put 10 R.2.2.1 a1 a2) (fun f105 => some ((1 : Int32), (R.1, R.2.1, f105, R.2.2.2.1, R.2.2.2.2.1, R.2.2.2.2.2.1, R.2.2.2.2.2.2.1, R.2.2.2.2.2.2.2.1, R.2.2.2.2.2.2.2.2), fd))))))
theorem q_X6_hold : yX6_hold.cls = RX6 ∧ yX6_hold.cls ≠ "java/lang/invoke/MethodHandle" ∧ yX6_hold.cls ≠ "java/lang/invoke/VarHandle" ∧ (parseMethodDescriptor yX6_hold.desc).map (fun d => d.parameters.length) = some 2 := by decide +kernel
theorem i_X6_hold_X6 : ∀ w ∈ u_ws RX6 TX6 11, w ∈ wsX6_hold := fun _ h => List.mem_cons_of_mem _ (List.mem_append_left _ (List.mem_append_right _ (h)))
theorem i_X6_hold_X1 : ∀ w ∈ u_ws RX1 TX1 9, w ∈ wsX6_hold := fun _ h => List.mem_cons_of_mem _ (List.mem_append_right _ (h))
set_option maxHeartbeats 4000000 in
set_option maxRecDepth 100000 in
theorem c_X6_hold (l : Launch) (g : gG) (v0 u0 u1 u2 u3 k0 k1 k2 k3 h0 h1 h2 h3 s0 s1 s2 s3 c0 c1 c2 p0 r0 t0 t1 t2 t3 z0 f0 : Nat) (ea : Nat → Nat) (R : Rf) (N : Rf) (B : Rf) (S : Sv) (C : Ca) (P : Nat → Int32) (Q : Tr) (K : Tk) (X : F4) (fd : Nat → Int32) (tl : Int32) (ik : Int32) (a1 : Int32) (a2 : Int32) {r : Int32} {R' : Rf} {fd' : Nat → Int32} (hf : fX6_hold R fd a1 a2 = some (r, R', fd')) : Ct l yX6_hold wsX6_hold (rmm 2 44) g (wV g v0 u0 u1 u2 u3 k0 k1 k2 k3 h0 h1 h2 h3 s0 s1 s2 s3 c0 c1 c2 p0 r0 t0 t1 t2 t3 z0 f0 ea R N B S C P Q K X fd tl ik) (wV g v0 u0 u1 u2 u3 k0 k1 k2 k3 h0 h1 h2 h3 s0 s1 s2 s3 c0 c1 c2 p0 r0 t0 t1 t2 t3 z0 f0 ea (R') N B S C P Q K X (fd') tl ik) [.ref v0, .int a1, .int a2] (some (.int r)) := by
  refine Ct.mk (by decide) rfl (Nat.le_of_ble_eq_true rfl) ?_
  intro p e s m args below meth c A ls hx hb hr hml hts hown hlocks hA hE hP hD hS hl hAe
  obtain ⟨Qx, hQ⟩ : ∃ Qx : State → Prop, Qx = MQ below (QcG g (wV g v0 u0 u1 u2 u3 k0 k1 k2 k3 h0 h1 h2 h3 s0 s1 s2 s3 c0 c1 c2 p0 r0 t0 t1 t2 t3 z0 f0 ea R N B S C P Q K X fd tl ik) (wV g v0 u0 u1 u2 u3 k0 k1 k2 k3 h0 h1 h2 h3 s0 s1 s2 s3 c0 c1 c2 p0 r0 t0 t1 t2 t3 z0 f0 ea (R') N B S C P Q K X (fd') tl ik) (some (.int r)) s.heap.size) args s 0 0 A := ⟨_, rfl⟩
  rw [← hQ]
  have hown : s.vm.findClass RX6 = some m.cls := hown
  have hl : lv_has ls 3 [(0, .ref v0), (1, .int a1), (2, .int a2)] := hl
  have w1 := hts (.constant RX6 73 (-1000001)) (List.mem_of_getElem? (i := 2) rfl)
  have w2 := hts (.fieldLink RX6 10 "RainVault" "roof" "LRainVault$Roof;") (List.mem_of_getElem? (i := 1) rfl)
  unfold fX6_hold at hf
  refine lv_iload_n hx hb dX6_hold_0 rfl (lv_at hl 1 rfl) ?_
  refine lv_iconst (v := (0 : Int32)) hx hb dX6_hold_1 (by decide) ?_
  refine lv_bipush (v := (9 : Int32)) hx hb dX6_hold_2 (by decide) ?_
  obtain ⟨x101, hg, hf⟩ := o1_s hf
  refine Ct.callS (ws' := wV g v0 u0 u1 u2 u3 k0 k1 k2 k3 h0 h1 h2 h3 s0 s1 s2 s3 c0 c1 c2 p0 r0 t0 t1 t2 t3 z0 f0 ea R N B S C P Q K X fd tl ik) (As := [.int a1, .int (0 : Int32), .int (9 : Int32)]) (rest := []) (st1 := [.int x101]) (c_X6_isWithin l g a1 (0 : Int32) (9 : Int32) hg) (va_cwS 3 hts gX6_hold_X6_isWithin rfl rfl rfl q_X6_isWithin.2 ⟨Nat.le_of_ble_eq_true rfl, Nat.le_of_ble_eq_true rfl⟩) ⟨hx, hb, hml, hown, hts⟩ hE hP hD hS hA [] rfl rfl rfl rfl rfl hl.1 rfl rfl (Nat.le_of_ble_eq_true rfl) dX6_hold_4 (fun H locs hP hD hS => ?_)
  refine lv_if_eq (tgt := 27) hx hb dX6_hold_7 (by decide) (fun hc => ?_) (fun hc => ?_)
  · have hf := if_t hf hc
    refine lv_aload_n hx hb dX6_hold_27 rfl (lv_at hl 0 rfl) ?_
    refine lv_ldc hx hb hown w1 dX6_hold_28 ?_
    obtain ⟨x102, fd103, hg, hf⟩ := o2_s hf
    refine Ct.callV0 (ws' := wV g v0 u0 u1 u2 u3 k0 k1 k2 k3 h0 h1 h2 h3 s0 s1 s2 s3 c0 c1 c2 p0 r0 t0 t1 t2 t3 z0 f0 ea R N B S C P Q K X fd103 tl ik) (As := [.int (-1000001 : Int32)]) (rest := []) (st1 := [.int x102]) (c_X6_finding l g v0 u0 u1 u2 u3 k0 k1 k2 k3 h0 h1 h2 h3 s0 s1 s2 s3 c0 c1 c2 p0 r0 t0 t1 t2 t3 z0 f0 ea R N B S C P Q K X fd tl ik (-1000001 : Int32) hg) (cwV 1 hts gX6_hold_X6_finding rfl rfl rfl q_X6_finding ⟨Nat.le_of_ble_eq_true rfl, Nat.le_of_ble_eq_true rfl⟩) ⟨hx, hb, hml, hown, hts⟩ hE hP hD hS hA 6 0 rfl rfl rfl rfl hl.1 rfl rfl (Nat.le_of_ble_eq_true rfl) dX6_hold_30 (fun H locs hP hD hS => ?_)
    obtain ⟨rfl, rfl, rfl⟩ := some_p3 hf
    rw [hQ]; exact Ct.iret hx hb hr hlocks hAe hP hD hS dX6_hold_33
  · have hf := if_f hf hc
    refine lv_iload_n hx hb dX6_hold_10 rfl (lv_at hl 2 rfl) ?_
    refine lv_iconst (v := (-1 : Int32)) hx hb dX6_hold_11 (by decide) ?_
    refine lv_aload_n hx hb dX6_hold_12 rfl (lv_at hl 0 rfl) ?_
    refine va_get (D := g.1) (ci := 6) (v := .ref u0) (C := RX6) (T := TX6) (N := 11) hx hb hts i_X6_hold_X6 hown hE.1 hP 0 rfl rfl 0 (by decide) w2 (fun _ h9 => h9) rfl dX6_hold_13 ?_
    refine va_getN (D := g.1) (ci := 1) (v := .int R.2.2.2.1) (C := RX1) (T := TX1) (N := 9) hx hb hts i_X6_hold_X1 hown hE.1 hP 1 rfl rfl 3 (by decide) (va_Nw.use rfl (hE.2.1 _ (List.mem_of_getElem? (i := 1) rfl))) (fun _ h9 => h9) rfl dX6_hold_16 ?_
    refine lv_iconst (v := (1 : Int32)) hx hb dX6_hold_19 (by decide) ?_
    refine lv_isub hx hb dX6_hold_20 ?_
    obtain ⟨x104, hg, hf⟩ := o1_s hf
    refine Ct.callS (ws' := wV g v0 u0 u1 u2 u3 k0 k1 k2 k3 h0 h1 h2 h3 s0 s1 s2 s3 c0 c1 c2 p0 r0 t0 t1 t2 t3 z0 f0 ea R N B S C P Q K X fd tl ik) (As := [.int a2, .int (-1 : Int32), .int (R.2.2.2.1 - (1 : Int32))]) (rest := []) (st1 := [.int x104]) (c_X6_isWithin l g a2 (-1 : Int32) (R.2.2.2.1 - (1 : Int32)) hg) (va_cwS 3 hts gX6_hold_X6_isWithin rfl rfl rfl q_X6_isWithin.2 ⟨Nat.le_of_ble_eq_true rfl, Nat.le_of_ble_eq_true rfl⟩) ⟨hx, hb, hml, hown, hts⟩ hE hP hD hS hA [] rfl rfl rfl rfl rfl hl.1 rfl rfl (Nat.le_of_ble_eq_true rfl) dX6_hold_21 (fun H locs hP hD hS => ?_)
    refine lv_if_ne (tgt := 34) hx hb dX6_hold_24 (by decide) (fun hc => ?_) (fun hc => ?_)
    · have hf := if_f hf hc
      refine lv_aload_n hx hb dX6_hold_34 rfl (lv_at hl 0 rfl) ?_
      refine va_get (D := g.1) (ci := 6) (v := .ref u0) (C := RX6) (T := TX6) (N := 11) hx hb hts i_X6_hold_X6 hown hE.1 hP 0 rfl rfl 0 (by decide) w2 (fun _ h9 => h9) rfl dX6_hold_35 ?_
      refine va_getN (D := g.1) (ci := 1) (v := .ref u3) (C := RX1) (T := TX1) (N := 9) hx hb hts i_X6_hold_X1 hown hE.1 hP 1 rfl rfl 2 (by decide) (va_Nw.use rfl (hE.2.1 _ (List.mem_of_getElem? (i := 0) rfl))) (fun _ h9 => h9) rfl dX6_hold_38 ?_
      refine lv_iload_n hx hb dX6_hold_41 rfl (lv_at hl 1 rfl) ?_
      refine lv_iload_n hx hb dX6_hold_42 rfl (lv_at hl 2 rfl) ?_
      obtain ⟨f105, hg, hf⟩ := o1_s hf
      refine Ct.callS (ws' := wV g v0 u0 u1 u2 u3 k0 k1 k2 k3 h0 h1 h2 h3 s0 s1 s2 s3 c0 c1 c2 p0 r0 t0 t1 t2 t3 z0 f0 ea (R.1, R.2.1, f105, R.2.2.2.1, R.2.2.2.2.1, R.2.2.2.2.2.1, R.2.2.2.2.2.2.1, R.2.2.2.2.2.2.2.1, R.2.2.2.2.2.2.2.2) N B S C P Q K X fd tl ik) (As := [.ref u3, .int a1, .int a2]) (rest := []) (st1 := []) (c_X6_put l g u3 10 R.2.2.1 a1 a2 hg) (va_cwS 3 hts gX6_hold_X6_put rfl rfl rfl q_X6_put.2 ⟨Nat.le_of_ble_eq_true rfl, Nat.le_of_ble_eq_true rfl⟩) ⟨hx, hb, hml, hown, hts⟩ hE hP hD hS hA [4] rfl rfl rfl rfl rfl hl.1 rfl rfl (Nat.le_of_ble_eq_true rfl) dX6_hold_43 (fun H locs hP hD hS => ?_)
      refine lv_iconst (v := (1 : Int32)) hx hb dX6_hold_46 (by decide) ?_
      obtain ⟨rfl, rfl, rfl⟩ := some_p3 hf
      rw [hQ]; exact Ct.iret hx hb hr hlocks hAe hP hD hS dX6_hold_47
    · have hf := if_t hf hc
      refine lv_aload_n hx hb dX6_hold_27 rfl (lv_at hl 0 rfl) ?_
      refine lv_ldc hx hb hown w1 dX6_hold_28 ?_
      obtain ⟨x106, fd107, hg, hf⟩ := o2_s hf
      refine Ct.callV0 (ws' := wV g v0 u0 u1 u2 u3 k0 k1 k2 k3 h0 h1 h2 h3 s0 s1 s2 s3 c0 c1 c2 p0 r0 t0 t1 t2 t3 z0 f0 ea R N B S C P Q K X fd107 tl ik) (As := [.int (-1000001 : Int32)]) (rest := []) (st1 := [.int x106]) (c_X6_finding l g v0 u0 u1 u2 u3 k0 k1 k2 k3 h0 h1 h2 h3 s0 s1 s2 s3 c0 c1 c2 p0 r0 t0 t1 t2 t3 z0 f0 ea R N B S C P Q K X fd tl ik (-1000001 : Int32) hg) (cwV 1 hts gX6_hold_X6_finding rfl rfl rfl q_X6_finding ⟨Nat.le_of_ble_eq_true rfl, Nat.le_of_ble_eq_true rfl⟩) ⟨hx, hb, hml, hown, hts⟩ hE hP hD hS hA 6 0 rfl rfl rfl rfl hl.1 rfl rfl (Nat.le_of_ble_eq_true rfl) dX6_hold_30 (fun H locs hP hD hS => ?_)
      obtain ⟨rfl, rfl, rfl⟩ := some_p3 hf
      rw [hQ]; exact Ct.iret hx hb hr hlocks hAe hP hD hS dX6_hold_33
def fX6_as (R : Rf) (fd : Nat → Int32) (a1 : Int32) (a2 : Int32) : Option (Int32 × (Nat → Int32)) := o1 (fX6_isWithin a1 (0 : Int32) (9 : Int32)) (fun x101 => if x101 = 0 then (o2 (fX6_finding fd (-1000001 : Int32)) (fun x102 fd103 => some (x102, fd103))) else (o1 (fX6_isWithin a2 (0 : Int32) (6 : Int32)) (fun x104 => if x104 = 0 then (o2 (fX6_finding fd (-1000001 : Int32)) (fun x111 fd112 => some (x111, fd112))) else (o1 (fX6_at 10 R.2.2.1 a1) (fun x105 => if 0 ≤ x105 then (o1 (fX1_isOf R x105 a2) (fun x106 => if x106 = 0 then (o2 (fX6_finding fd (-1000003 : Int32)) (fun x107 fd108 => some (x107, fd108))) else (some (x105, fd)))) else (o2 (fX6_finding fd (-1000006 : Int32)) (fun x109 fd110 => some (x109, fd110))))))))
theorem q_X6_as : yX6_as.cls = RX6 ∧ yX6_as.cls ≠ "java/lang/invoke/MethodHandle" ∧ yX6_as.cls ≠ "java/lang/invoke/VarHandle" ∧ (parseMethodDescriptor yX6_as.desc).map (fun d => d.parameters.length) = some 2 := by decide +kernel
theorem i_X6_as_X6 : ∀ w ∈ u_ws RX6 TX6 11, w ∈ wsX6_as := fun _ h => List.mem_cons_of_mem _ (List.mem_append_left _ (List.mem_append_right _ (h)))
theorem i_X6_as_X1 : ∀ w ∈ u_ws RX1 TX1 9, w ∈ wsX6_as := fun _ h => List.mem_cons_of_mem _ (List.mem_append_right _ (h))
set_option maxHeartbeats 4000000 in
set_option maxRecDepth 100000 in
theorem c_X6_as (l : Launch) (g : gG) (v0 u0 u1 u2 u3 k0 k1 k2 k3 h0 h1 h2 h3 s0 s1 s2 s3 c0 c1 c2 p0 r0 t0 t1 t2 t3 z0 f0 : Nat) (ea : Nat → Nat) (R : Rf) (N : Rf) (B : Rf) (S : Sv) (C : Ca) (P : Nat → Int32) (Q : Tr) (K : Tk) (X : F4) (fd : Nat → Int32) (tl : Int32) (ik : Int32) (a1 : Int32) (a2 : Int32) {r : Int32} {fd' : Nat → Int32} (hf : fX6_as R fd a1 a2 = some (r, fd')) : Ct l yX6_as wsX6_as (rmm 2 46) g (wV g v0 u0 u1 u2 u3 k0 k1 k2 k3 h0 h1 h2 h3 s0 s1 s2 s3 c0 c1 c2 p0 r0 t0 t1 t2 t3 z0 f0 ea R N B S C P Q K X fd tl ik) (wV g v0 u0 u1 u2 u3 k0 k1 k2 k3 h0 h1 h2 h3 s0 s1 s2 s3 c0 c1 c2 p0 r0 t0 t1 t2 t3 z0 f0 ea R N B S C P Q K X (fd') tl ik) [.ref v0, .int a1, .int a2] (some (.int r)) := by
  refine Ct.mk (by decide) rfl (Nat.le_of_ble_eq_true rfl) ?_
  intro p e s m args below meth c A ls hx hb hr hml hts hown hlocks hA hE hP hD hS hl hAe
  obtain ⟨Qx, hQ⟩ : ∃ Qx : State → Prop, Qx = MQ below (QcG g (wV g v0 u0 u1 u2 u3 k0 k1 k2 k3 h0 h1 h2 h3 s0 s1 s2 s3 c0 c1 c2 p0 r0 t0 t1 t2 t3 z0 f0 ea R N B S C P Q K X fd tl ik) (wV g v0 u0 u1 u2 u3 k0 k1 k2 k3 h0 h1 h2 h3 s0 s1 s2 s3 c0 c1 c2 p0 r0 t0 t1 t2 t3 z0 f0 ea R N B S C P Q K X (fd') tl ik) (some (.int r)) s.heap.size) args s 0 0 A := ⟨_, rfl⟩
  rw [← hQ]
  have hown : s.vm.findClass RX6 = some m.cls := hown
  have hl : lv_has ls 4 [(0, .ref v0), (1, .int a1), (2, .int a2)] := hl
  have w1 := hts (.constant RX6 73 (-1000001)) (List.mem_of_getElem? (i := 1) rfl)
  have w2 := hts (.fieldLink RX6 10 "RainVault" "roof" "LRainVault$Roof;") (List.mem_of_getElem? (i := 2) rfl)
  have w3 := hts (.constant RX6 225 (-1000003)) (List.mem_of_getElem? (i := 4) rfl)
  have w4 := hts (.constant RX6 221 (-1000006)) (List.mem_of_getElem? (i := 3) rfl)
  unfold fX6_as at hf
  refine lv_iload_n hx hb dX6_as_0 rfl (lv_at hl 1 rfl) ?_
  refine lv_iconst (v := (0 : Int32)) hx hb dX6_as_1 (by decide) ?_
  refine lv_bipush (v := (9 : Int32)) hx hb dX6_as_2 (by decide) ?_
  obtain ⟨x101, hg, hf⟩ := o1_s hf
  refine Ct.callS (ws' := wV g v0 u0 u1 u2 u3 k0 k1 k2 k3 h0 h1 h2 h3 s0 s1 s2 s3 c0 c1 c2 p0 r0 t0 t1 t2 t3 z0 f0 ea R N B S C P Q K X fd tl ik) (As := [.int a1, .int (0 : Int32), .int (9 : Int32)]) (rest := []) (st1 := [.int x101]) (c_X6_isWithin l g a1 (0 : Int32) (9 : Int32) hg) (va_cwS 3 hts gX6_as_X6_isWithin rfl rfl rfl q_X6_isWithin.2 ⟨Nat.le_of_ble_eq_true rfl, Nat.le_of_ble_eq_true rfl⟩) ⟨hx, hb, hml, hown, hts⟩ hE hP hD hS hA [] rfl rfl rfl rfl rfl hl.1 rfl rfl (Nat.le_of_ble_eq_true rfl) dX6_as_4 (fun H locs hP hD hS => ?_)
  refine lv_if_eq (tgt := 20) hx hb dX6_as_7 (by decide) (fun hc => ?_) (fun hc => ?_)
  · have hf := if_t hf hc
    refine lv_aload_n hx hb dX6_as_20 rfl (lv_at hl 0 rfl) ?_
    refine lv_ldc hx hb hown w1 dX6_as_21 ?_
    obtain ⟨x102, fd103, hg, hf⟩ := o2_s hf
    refine Ct.callV0 (ws' := wV g v0 u0 u1 u2 u3 k0 k1 k2 k3 h0 h1 h2 h3 s0 s1 s2 s3 c0 c1 c2 p0 r0 t0 t1 t2 t3 z0 f0 ea R N B S C P Q K X fd103 tl ik) (As := [.int (-1000001 : Int32)]) (rest := []) (st1 := [.int x102]) (c_X6_finding l g v0 u0 u1 u2 u3 k0 k1 k2 k3 h0 h1 h2 h3 s0 s1 s2 s3 c0 c1 c2 p0 r0 t0 t1 t2 t3 z0 f0 ea R N B S C P Q K X fd tl ik (-1000001 : Int32) hg) (cwV 1 hts gX6_as_X6_finding rfl rfl rfl q_X6_finding ⟨Nat.le_of_ble_eq_true rfl, Nat.le_of_ble_eq_true rfl⟩) ⟨hx, hb, hml, hown, hts⟩ hE hP hD hS hA 6 0 rfl rfl rfl rfl hl.1 rfl rfl (Nat.le_of_ble_eq_true rfl) dX6_as_23 (fun H locs hP hD hS => ?_)
    obtain ⟨rfl, rfl⟩ := some_p2 hf
    rw [hQ]; exact Ct.iret hx hb hr hlocks hAe hP hD hS dX6_as_26
  · have hf := if_f hf hc
    refine lv_iload_n hx hb dX6_as_10 rfl (lv_at hl 2 rfl) ?_
    refine lv_iconst (v := (0 : Int32)) hx hb dX6_as_11 (by decide) ?_
    refine lv_bipush (v := (6 : Int32)) hx hb dX6_as_12 (by decide) ?_
    obtain ⟨x104, hg, hf⟩ := o1_s hf
    refine Ct.callS (ws' := wV g v0 u0 u1 u2 u3 k0 k1 k2 k3 h0 h1 h2 h3 s0 s1 s2 s3 c0 c1 c2 p0 r0 t0 t1 t2 t3 z0 f0 ea R N B S C P Q K X fd tl ik) (As := [.int a2, .int (0 : Int32), .int (6 : Int32)]) (rest := []) (st1 := [.int x104]) (c_X6_isWithin l g a2 (0 : Int32) (6 : Int32) hg) (va_cwS 3 hts gX6_as_X6_isWithin rfl rfl rfl q_X6_isWithin.2 ⟨Nat.le_of_ble_eq_true rfl, Nat.le_of_ble_eq_true rfl⟩) ⟨hx, hb, hml, hown, hts⟩ hE hP hD hS hA [] rfl rfl rfl rfl rfl hl.1 rfl rfl (Nat.le_of_ble_eq_true rfl) dX6_as_14 (fun H locs hP hD hS => ?_)
    refine lv_if_ne (tgt := 27) hx hb dX6_as_17 (by decide) (fun hc => ?_) (fun hc => ?_)
    · have hf := if_f hf hc
      refine lv_aload_n hx hb dX6_as_27 rfl (lv_at hl 0 rfl) ?_
      refine va_get (D := g.1) (ci := 6) (v := .ref u0) (C := RX6) (T := TX6) (N := 11) hx hb hts i_X6_as_X6 hown hE.1 hP 0 rfl rfl 0 (by decide) w2 (fun _ h9 => h9) rfl dX6_as_28 ?_
      refine va_getN (D := g.1) (ci := 1) (v := .ref u3) (C := RX1) (T := TX1) (N := 9) hx hb hts i_X6_as_X1 hown hE.1 hP 1 rfl rfl 2 (by decide) (va_Nw.use rfl (hE.2.1 _ (List.mem_of_getElem? (i := 0) rfl))) (fun _ h9 => h9) rfl dX6_as_31 ?_
      refine lv_iload_n hx hb dX6_as_34 rfl (lv_at hl 1 rfl) ?_
      obtain ⟨x105, hg, hf⟩ := o1_s hf
      refine Ct.callS (ws' := wV g v0 u0 u1 u2 u3 k0 k1 k2 k3 h0 h1 h2 h3 s0 s1 s2 s3 c0 c1 c2 p0 r0 t0 t1 t2 t3 z0 f0 ea R N B S C P Q K X fd tl ik) (As := [.ref u3, .int a1]) (rest := []) (st1 := [.int x105]) (c_X6_at l g u3 10 R.2.2.1 a1 hg) (va_cwS 2 hts gX6_as_X6_at rfl rfl rfl q_X6_at.2 ⟨Nat.le_of_ble_eq_true rfl, Nat.le_of_ble_eq_true rfl⟩) ⟨hx, hb, hml, hown, hts⟩ hE hP hD hS hA [4] rfl rfl rfl rfl rfl hl.1 rfl rfl (Nat.le_of_ble_eq_true rfl) dX6_as_35 (fun H locs hP hD hS => ?_)
      refine lv_istore_n (lv' := [(3, .int x105), (0, .ref v0), (1, .int a1), (2, .int a2)]) hx hb dX6_as_38 rfl hl (by decide) rfl (fun ls hl => ?_)
      refine lv_iload_n hx hb dX6_as_39 rfl (lv_at hl 0 rfl) ?_
      refine lv_if_ge (tgt := 50) hx hb dX6_as_40 (by decide) (fun hc => ?_) (fun hc => ?_)
      · have hf := if_t hf hc
        refine lv_aload_n hx hb dX6_as_50 rfl (lv_at hl 1 rfl) ?_
        refine va_get (D := g.1) (ci := 6) (v := .ref u0) (C := RX6) (T := TX6) (N := 11) hx hb hts i_X6_as_X6 hown hE.1 hP 0 rfl rfl 0 (by decide) w2 (fun _ h9 => h9) rfl dX6_as_51 ?_
        refine lv_iload_n hx hb dX6_as_54 rfl (lv_at hl 0 rfl) ?_
        refine lv_iload_n hx hb dX6_as_55 rfl (lv_at hl 3 rfl) ?_
        obtain ⟨x106, hg, hf⟩ := o1_s hf
        refine Ct.callV (ws' := wV g v0 u0 u1 u2 u3 k0 k1 k2 k3 h0 h1 h2 h3 s0 s1 s2 s3 c0 c1 c2 p0 r0 t0 t1 t2 t3 z0 f0 ea R N B S C P Q K X fd tl ik) (As := [.int x105, .int a2]) (rest := []) (st1 := [.int x106]) (c_X1_isOf l g u0 u1 u2 u3 R x105 a2 hg) (cwV 2 hts gX6_as_X1_isOf rfl rfl rfl q_X1_isOf ⟨Nat.le_of_ble_eq_true rfl, Nat.le_of_ble_eq_true rfl⟩) ⟨hx, hb, hml, hown, hts⟩ hE hP hD hS hA [1, 2, 3, 4] rfl rfl rfl rfl 1 1 rfl rfl rfl rfl hl.1 rfl rfl (Nat.le_of_ble_eq_true rfl) dX6_as_56 (fun H locs hP hD hS => ?_)
        refine lv_if_eq (tgt := 66) hx hb dX6_as_59 (by decide) (fun hc => ?_) (fun hc => ?_)
        · have hf := if_t hf hc
          refine lv_aload_n hx hb dX6_as_66 rfl (lv_at hl 1 rfl) ?_
          refine lv_ldc hx hb hown w3 dX6_as_67 ?_
          obtain ⟨x107, fd108, hg, hf⟩ := o2_s hf
          refine Ct.callV0 (ws' := wV g v0 u0 u1 u2 u3 k0 k1 k2 k3 h0 h1 h2 h3 s0 s1 s2 s3 c0 c1 c2 p0 r0 t0 t1 t2 t3 z0 f0 ea R N B S C P Q K X fd108 tl ik) (As := [.int (-1000003 : Int32)]) (rest := []) (st1 := [.int x107]) (c_X6_finding l g v0 u0 u1 u2 u3 k0 k1 k2 k3 h0 h1 h2 h3 s0 s1 s2 s3 c0 c1 c2 p0 r0 t0 t1 t2 t3 z0 f0 ea R N B S C P Q K X fd tl ik (-1000003 : Int32) hg) (cwV 1 hts gX6_as_X6_finding rfl rfl rfl q_X6_finding ⟨Nat.le_of_ble_eq_true rfl, Nat.le_of_ble_eq_true rfl⟩) ⟨hx, hb, hml, hown, hts⟩ hE hP hD hS hA 6 0 rfl rfl rfl rfl hl.1 rfl rfl (Nat.le_of_ble_eq_true rfl) dX6_as_69 (fun H locs hP hD hS => ?_)
          obtain ⟨rfl, rfl⟩ := some_p2 hf
          rw [hQ]; exact Ct.iret hx hb hr hlocks hAe hP hD hS dX6_as_72
        · have hf := if_f hf hc
          refine lv_iload_n hx hb dX6_as_62 rfl (lv_at hl 0 rfl) ?_
          refine lv_goto (tgt := 72) hx hb dX6_as_63 (by decide) ?_
          obtain ⟨rfl, rfl⟩ := some_p2 hf
          rw [hQ]; exact Ct.iret hx hb hr hlocks hAe hP hD hS dX6_as_72
      · have hf := if_f hf hc
        refine lv_aload_n hx hb dX6_as_43 rfl (lv_at hl 1 rfl) ?_
        refine lv_ldc hx hb hown w4 dX6_as_44 ?_
        obtain ⟨x109, fd110, hg, hf⟩ := o2_s hf
        refine Ct.callV0 (ws' := wV g v0 u0 u1 u2 u3 k0 k1 k2 k3 h0 h1 h2 h3 s0 s1 s2 s3 c0 c1 c2 p0 r0 t0 t1 t2 t3 z0 f0 ea R N B S C P Q K X fd110 tl ik) (As := [.int (-1000006 : Int32)]) (rest := []) (st1 := [.int x109]) (c_X6_finding l g v0 u0 u1 u2 u3 k0 k1 k2 k3 h0 h1 h2 h3 s0 s1 s2 s3 c0 c1 c2 p0 r0 t0 t1 t2 t3 z0 f0 ea R N B S C P Q K X fd tl ik (-1000006 : Int32) hg) (cwV 1 hts gX6_as_X6_finding rfl rfl rfl q_X6_finding ⟨Nat.le_of_ble_eq_true rfl, Nat.le_of_ble_eq_true rfl⟩) ⟨hx, hb, hml, hown, hts⟩ hE hP hD hS hA 6 0 rfl rfl rfl rfl hl.1 rfl rfl (Nat.le_of_ble_eq_true rfl) dX6_as_46 (fun H locs hP hD hS => ?_)
        obtain ⟨rfl, rfl⟩ := some_p2 hf
        rw [hQ]; exact Ct.iret hx hb hr hlocks hAe hP hD hS dX6_as_49
    · have hf := if_t hf hc
      refine lv_aload_n hx hb dX6_as_20 rfl (lv_at hl 0 rfl) ?_
      refine lv_ldc hx hb hown w1 dX6_as_21 ?_
      obtain ⟨x111, fd112, hg, hf⟩ := o2_s hf
      refine Ct.callV0 (ws' := wV g v0 u0 u1 u2 u3 k0 k1 k2 k3 h0 h1 h2 h3 s0 s1 s2 s3 c0 c1 c2 p0 r0 t0 t1 t2 t3 z0 f0 ea R N B S C P Q K X fd112 tl ik) (As := [.int (-1000001 : Int32)]) (rest := []) (st1 := [.int x111]) (c_X6_finding l g v0 u0 u1 u2 u3 k0 k1 k2 k3 h0 h1 h2 h3 s0 s1 s2 s3 c0 c1 c2 p0 r0 t0 t1 t2 t3 z0 f0 ea R N B S C P Q K X fd tl ik (-1000001 : Int32) hg) (cwV 1 hts gX6_as_X6_finding rfl rfl rfl q_X6_finding ⟨Nat.le_of_ble_eq_true rfl, Nat.le_of_ble_eq_true rfl⟩) ⟨hx, hb, hml, hown, hts⟩ hE hP hD hS hA 6 0 rfl rfl rfl rfl hl.1 rfl rfl (Nat.le_of_ble_eq_true rfl) dX6_as_23 (fun H locs hP hD hS => ?_)
      obtain ⟨rfl, rfl⟩ := some_p2 hf
      rw [hQ]; exact Ct.iret hx hb hr hlocks hAe hP hD hS dX6_as_26
def fX6_sheet_J41 (k103 : Nat) (X : F4) (fd : Nat → Int32) (x2 : Int32) (x3 : Int32) : Option (Int32 × F4 × (Nat → Int32)) := if 0 ≤ x3 then (if x3 ≤ (40 : Int32) then (if x2 = 0 then (o1 (fX2_begin (X k103) x2 (0 : Int32)) (fun E105 => some (((upS X k103 E105) k103).2.2, (upS X k103 E105), fd))) else (o1 (fX2_begin (X k103) x2 x3) (fun E104 => some (((upS X k103 E104) k103).2.2, (upS X k103 E104), fd)))) else (o2 (fX6_finding fd (-1000001 : Int32)) (fun x106 fd107 => some (x106, X, fd107)))) else (o2 (fX6_finding fd (-1000007 : Int32)) (fun x108 fd109 => some (x108, X, fd109)))
def fX6_sheet (X : F4) (fd : Nat → Int32) (a1 : Int32) (a2 : Int32) (a3 : Int32) : Option (Int32 × F4 × (Nat → Int32)) := sh a1 (fun k103 => if a2 = 0 then (fX6_sheet_J41 k103 X fd a2 a3) else (if a2 = (8 : Int32) then (fX6_sheet_J41 k103 X fd a2 a3) else (if a2 = (16 : Int32) then (fX6_sheet_J41 k103 X fd a2 a3) else (if a2 = (32 : Int32) then (fX6_sheet_J41 k103 X fd a2 a3) else (o2 (fX6_finding fd (-1000001 : Int32)) (fun x110 fd111 => some (x110, X, fd111))))))) (o2 (fX6_finding fd (-1000001 : Int32)) (fun x101 fd102 => some (x101, X, fd102)))
theorem q_X6_sheet : yX6_sheet.cls = RX6 ∧ yX6_sheet.cls ≠ "java/lang/invoke/MethodHandle" ∧ yX6_sheet.cls ≠ "java/lang/invoke/VarHandle" ∧ (parseMethodDescriptor yX6_sheet.desc).map (fun d => d.parameters.length) = some 3 := by decide +kernel
theorem i_X6_sheet_X2 : ∀ w ∈ u_ws RX2 TX2 3, w ∈ wsX6_sheet := fun _ h => List.mem_cons_of_mem _ (List.mem_append_left _ (List.mem_append_right _ (h)))
set_option maxHeartbeats 4000000 in
set_option maxRecDepth 100000 in
theorem c_X6_sheet (l : Launch) (g : gG) (v0 u0 u1 u2 u3 k0 k1 k2 k3 h0 h1 h2 h3 s0 s1 s2 s3 c0 c1 c2 p0 r0 t0 t1 t2 t3 z0 f0 : Nat) (ea : Nat → Nat) (R : Rf) (N : Rf) (B : Rf) (S : Sv) (C : Ca) (P : Nat → Int32) (Q : Tr) (K : Tk) (X : F4) (fd : Nat → Int32) (tl : Int32) (ik : Int32) (a1 : Int32) (a2 : Int32) (a3 : Int32) {r : Int32} {X' : F4} {fd' : Nat → Int32} (hf : fX6_sheet X fd a1 a2 a3 = some (r, X', fd')) : Ct l yX6_sheet wsX6_sheet (rmm 2 60) g (wV g v0 u0 u1 u2 u3 k0 k1 k2 k3 h0 h1 h2 h3 s0 s1 s2 s3 c0 c1 c2 p0 r0 t0 t1 t2 t3 z0 f0 ea R N B S C P Q K X fd tl ik) (wV g v0 u0 u1 u2 u3 k0 k1 k2 k3 h0 h1 h2 h3 s0 s1 s2 s3 c0 c1 c2 p0 r0 t0 t1 t2 t3 z0 f0 ea R N B S C P Q K (X') (fd') tl ik) [.ref v0, .int a1, .int a2, .int a3] (some (.int r)) := by
  refine Ct.mk (by decide) rfl (Nat.le_of_ble_eq_true rfl) ?_
  intro p e s m args below meth c A ls hx hb hr hml hts hown hlocks hA hE hP hD hS hl hAe
  obtain ⟨Qx, hQ⟩ : ∃ Qx : State → Prop, Qx = MQ below (QcG g (wV g v0 u0 u1 u2 u3 k0 k1 k2 k3 h0 h1 h2 h3 s0 s1 s2 s3 c0 c1 c2 p0 r0 t0 t1 t2 t3 z0 f0 ea R N B S C P Q K X fd tl ik) (wV g v0 u0 u1 u2 u3 k0 k1 k2 k3 h0 h1 h2 h3 s0 s1 s2 s3 c0 c1 c2 p0 r0 t0 t1 t2 t3 z0 f0 ea R N B S C P Q K (X') (fd') tl ik) (some (.int r)) s.heap.size) args s 0 0 A := ⟨_, rfl⟩
  rw [← hQ]
  have hown : s.vm.findClass RX6 = some m.cls := hown
  have hl : lv_has ls 5 [(0, .ref v0), (1, .int a1), (2, .int a2), (3, .int a3)] := hl
  have w1 := hts (.constant RX6 73 (-1000001)) (List.mem_of_getElem? (i := 1) rfl)
  have w2 := hts (.constant RX6 230 (-1000007)) (List.mem_of_getElem? (i := 2) rfl)
  have J41_0 : ∀ (X : F4) (fd : Nat → Int32) (x2 : Int32) (x3 : Int32) (H : Heap) (locs : List Loc) (ls : Array Slot), fX6_sheet_J41 0 X fd x2 x3 = some (r, X', fd') → va_P g.1 vwK (wV g v0 u0 u1 u2 u3 k0 k1 k2 k3 h0 h1 h2 h3 s0 s1 s2 s3 c0 c1 c2 p0 r0 t0 t1 t2 t3 z0 f0 ea R N B S C P Q K X fd tl ik) H → va_D A (wV g v0 u0 u1 u2 u3 k0 k1 k2 k3 h0 h1 h2 h3 s0 s1 s2 s3 c0 c1 c2 p0 r0 t0 t1 t2 t3 z0 f0 ea R N B S C P Q K X fd tl ik) → va_S A s.heap H locs → lv_has ls 5 [(0, .ref v0), (2, .int x2), (3, .int x3), (4, .ref (ea 0))] → W p l e (rmm 2 60) s m args below meth c H locs 0 0 Qx (F0 m 41 ls []) := by
    intro X fd x2 x3 H locs ls hf hP hD hS hl
    unfold fX6_sheet_J41 at hf
    refine lv_iload_n hx hb dX6_sheet_41 rfl (lv_at hl 2 rfl) ?_
    refine lv_if_ge (tgt := 52) hx hb dX6_sheet_42 (by decide) (fun hc => ?_) (fun hc => ?_)
    · have hf := if_t hf hc
      refine lv_iload_n hx hb dX6_sheet_52 rfl (lv_at hl 2 rfl) ?_
      refine lv_bipush (v := (40 : Int32)) hx hb dX6_sheet_53 (by decide) ?_
      refine lv_icmp_le (tgt := 65) hx hb dX6_sheet_55 (by decide) (fun hc => ?_) (fun hc => ?_)
      · have hf := if_t hf hc
        refine lv_aload hx hb dX6_sheet_65 (lv_at hl 3 rfl) ?_
        refine lv_iload_n hx hb dX6_sheet_67 rfl (lv_at hl 1 rfl) ?_
        refine lv_iload_n hx hb dX6_sheet_68 rfl (lv_at hl 1 rfl) ?_
        refine lv_if_ne (tgt := 76) hx hb dX6_sheet_69 (by decide) (fun hc => ?_) (fun hc => ?_)
        · have hf := if_f hf hc
          refine lv_iload_n hx hb dX6_sheet_76 rfl (lv_at hl 2 rfl) ?_
          obtain ⟨E104, hg, hf⟩ := o1_s hf
          refine Ct.callV (ws' := wV g v0 u0 u1 u2 u3 k0 k1 k2 k3 h0 h1 h2 h3 s0 s1 s2 s3 c0 c1 c2 p0 r0 t0 t1 t2 t3 z0 f0 ea R N B S C P Q K (upS X 0 E104) fd tl ik) (As := [.int x2, .int x3]) (rest := []) (st1 := []) (c_X2_begin l g (ea 0) (ea 4) (X 0) x2 x3 hg) (cwV 2 hts gX6_sheet_X2_begin rfl rfl rfl q_X2_begin ⟨Nat.le_of_ble_eq_true rfl, Nat.le_of_ble_eq_true rfl⟩) ⟨hx, hb, hml, hown, hts⟩ hE hP hD hS hA [27, 28] rfl rfl rfl rfl 2 27 rfl rfl rfl rfl hl.1 rfl rfl (Nat.le_of_ble_eq_true rfl) dX6_sheet_77 (fun H locs hP hD hS => ?_)
          refine lv_aload hx hb dX6_sheet_80 (lv_at hl 3 rfl) ?_
          refine va_getN (D := g.1) (ci := 2) (v := .int (((upS X 0 E104) 0).2.2)) (C := RX2) (T := TX2) (N := 3) hx hb hts i_X6_sheet_X2 hown hE.1 hP 27 rfl rfl 2 (by decide) (va_Nw.use rfl (hE.2.1 _ (List.mem_of_getElem? (i := 20) rfl))) (fun _ h9 => h9) rfl dX6_sheet_82 ?_
          obtain ⟨rfl, rfl, rfl⟩ := some_p3 hf
          rw [hQ]; exact Ct.iret hx hb hr hlocks hAe hP hD hS dX6_sheet_85
        · have hf := if_t hf hc
          refine lv_iconst (v := (0 : Int32)) hx hb dX6_sheet_72 (by decide) ?_
          refine lv_goto (tgt := 77) hx hb dX6_sheet_73 (by decide) ?_
          obtain ⟨E105, hg, hf⟩ := o1_s hf
          refine Ct.callV (ws' := wV g v0 u0 u1 u2 u3 k0 k1 k2 k3 h0 h1 h2 h3 s0 s1 s2 s3 c0 c1 c2 p0 r0 t0 t1 t2 t3 z0 f0 ea R N B S C P Q K (upS X 0 E105) fd tl ik) (As := [.int x2, .int (0 : Int32)]) (rest := []) (st1 := []) (c_X2_begin l g (ea 0) (ea 4) (X 0) x2 (0 : Int32) hg) (cwV 2 hts gX6_sheet_X2_begin rfl rfl rfl q_X2_begin ⟨Nat.le_of_ble_eq_true rfl, Nat.le_of_ble_eq_true rfl⟩) ⟨hx, hb, hml, hown, hts⟩ hE hP hD hS hA [27, 28] rfl rfl rfl rfl 2 27 rfl rfl rfl rfl hl.1 rfl rfl (Nat.le_of_ble_eq_true rfl) dX6_sheet_77 (fun H locs hP hD hS => ?_)
          refine lv_aload hx hb dX6_sheet_80 (lv_at hl 3 rfl) ?_
          refine va_getN (D := g.1) (ci := 2) (v := .int (((upS X 0 E105) 0).2.2)) (C := RX2) (T := TX2) (N := 3) hx hb hts i_X6_sheet_X2 hown hE.1 hP 27 rfl rfl 2 (by decide) (va_Nw.use rfl (hE.2.1 _ (List.mem_of_getElem? (i := 20) rfl))) (fun _ h9 => h9) rfl dX6_sheet_82 ?_
          obtain ⟨rfl, rfl, rfl⟩ := some_p3 hf
          rw [hQ]; exact Ct.iret hx hb hr hlocks hAe hP hD hS dX6_sheet_85
      · have hf := if_f hf hc
        refine lv_aload_n hx hb dX6_sheet_58 rfl (lv_at hl 0 rfl) ?_
        refine lv_ldc hx hb hown w1 dX6_sheet_59 ?_
        obtain ⟨x106, fd107, hg, hf⟩ := o2_s hf
        refine Ct.callV0 (ws' := wV g v0 u0 u1 u2 u3 k0 k1 k2 k3 h0 h1 h2 h3 s0 s1 s2 s3 c0 c1 c2 p0 r0 t0 t1 t2 t3 z0 f0 ea R N B S C P Q K X fd107 tl ik) (As := [.int (-1000001 : Int32)]) (rest := []) (st1 := [.int x106]) (c_X6_finding l g v0 u0 u1 u2 u3 k0 k1 k2 k3 h0 h1 h2 h3 s0 s1 s2 s3 c0 c1 c2 p0 r0 t0 t1 t2 t3 z0 f0 ea R N B S C P Q K X fd tl ik (-1000001 : Int32) hg) (cwV 1 hts gX6_sheet_X6_finding rfl rfl rfl q_X6_finding ⟨Nat.le_of_ble_eq_true rfl, Nat.le_of_ble_eq_true rfl⟩) ⟨hx, hb, hml, hown, hts⟩ hE hP hD hS hA 6 0 rfl rfl rfl rfl hl.1 rfl rfl (Nat.le_of_ble_eq_true rfl) dX6_sheet_61 (fun H locs hP hD hS => ?_)
        obtain ⟨rfl, rfl, rfl⟩ := some_p3 hf
        rw [hQ]; exact Ct.iret hx hb hr hlocks hAe hP hD hS dX6_sheet_64
    · have hf := if_f hf hc
      refine lv_aload_n hx hb dX6_sheet_45 rfl (lv_at hl 0 rfl) ?_
      refine lv_ldc hx hb hown w2 dX6_sheet_46 ?_
      obtain ⟨x108, fd109, hg, hf⟩ := o2_s hf
      refine Ct.callV0 (ws' := wV g v0 u0 u1 u2 u3 k0 k1 k2 k3 h0 h1 h2 h3 s0 s1 s2 s3 c0 c1 c2 p0 r0 t0 t1 t2 t3 z0 f0 ea R N B S C P Q K X fd109 tl ik) (As := [.int (-1000007 : Int32)]) (rest := []) (st1 := [.int x108]) (c_X6_finding l g v0 u0 u1 u2 u3 k0 k1 k2 k3 h0 h1 h2 h3 s0 s1 s2 s3 c0 c1 c2 p0 r0 t0 t1 t2 t3 z0 f0 ea R N B S C P Q K X fd tl ik (-1000007 : Int32) hg) (cwV 1 hts gX6_sheet_X6_finding rfl rfl rfl q_X6_finding ⟨Nat.le_of_ble_eq_true rfl, Nat.le_of_ble_eq_true rfl⟩) ⟨hx, hb, hml, hown, hts⟩ hE hP hD hS hA 6 0 rfl rfl rfl rfl hl.1 rfl rfl (Nat.le_of_ble_eq_true rfl) dX6_sheet_48 (fun H locs hP hD hS => ?_)
      obtain ⟨rfl, rfl, rfl⟩ := some_p3 hf
      rw [hQ]; exact Ct.iret hx hb hr hlocks hAe hP hD hS dX6_sheet_51
  have J41_1 : ∀ (X : F4) (fd : Nat → Int32) (x2 : Int32) (x3 : Int32) (H : Heap) (locs : List Loc) (ls : Array Slot), fX6_sheet_J41 1 X fd x2 x3 = some (r, X', fd') → va_P g.1 vwK (wV g v0 u0 u1 u2 u3 k0 k1 k2 k3 h0 h1 h2 h3 s0 s1 s2 s3 c0 c1 c2 p0 r0 t0 t1 t2 t3 z0 f0 ea R N B S C P Q K X fd tl ik) H → va_D A (wV g v0 u0 u1 u2 u3 k0 k1 k2 k3 h0 h1 h2 h3 s0 s1 s2 s3 c0 c1 c2 p0 r0 t0 t1 t2 t3 z0 f0 ea R N B S C P Q K X fd tl ik) → va_S A s.heap H locs → lv_has ls 5 [(0, .ref v0), (2, .int x2), (3, .int x3), (4, .ref (ea 1))] → W p l e (rmm 2 60) s m args below meth c H locs 0 0 Qx (F0 m 41 ls []) := by
    intro X fd x2 x3 H locs ls hf hP hD hS hl
    unfold fX6_sheet_J41 at hf
    refine lv_iload_n hx hb dX6_sheet_41 rfl (lv_at hl 2 rfl) ?_
    refine lv_if_ge (tgt := 52) hx hb dX6_sheet_42 (by decide) (fun hc => ?_) (fun hc => ?_)
    · have hf := if_t hf hc
      refine lv_iload_n hx hb dX6_sheet_52 rfl (lv_at hl 2 rfl) ?_
      refine lv_bipush (v := (40 : Int32)) hx hb dX6_sheet_53 (by decide) ?_
      refine lv_icmp_le (tgt := 65) hx hb dX6_sheet_55 (by decide) (fun hc => ?_) (fun hc => ?_)
      · have hf := if_t hf hc
        refine lv_aload hx hb dX6_sheet_65 (lv_at hl 3 rfl) ?_
        refine lv_iload_n hx hb dX6_sheet_67 rfl (lv_at hl 1 rfl) ?_
        refine lv_iload_n hx hb dX6_sheet_68 rfl (lv_at hl 1 rfl) ?_
        refine lv_if_ne (tgt := 76) hx hb dX6_sheet_69 (by decide) (fun hc => ?_) (fun hc => ?_)
        · have hf := if_f hf hc
          refine lv_iload_n hx hb dX6_sheet_76 rfl (lv_at hl 2 rfl) ?_
          obtain ⟨E104, hg, hf⟩ := o1_s hf
          refine Ct.callV (ws' := wV g v0 u0 u1 u2 u3 k0 k1 k2 k3 h0 h1 h2 h3 s0 s1 s2 s3 c0 c1 c2 p0 r0 t0 t1 t2 t3 z0 f0 ea R N B S C P Q K (upS X 1 E104) fd tl ik) (As := [.int x2, .int x3]) (rest := []) (st1 := []) (c_X2_begin l g (ea 1) (ea 5) (X 1) x2 x3 hg) (cwV 2 hts gX6_sheet_X2_begin rfl rfl rfl q_X2_begin ⟨Nat.le_of_ble_eq_true rfl, Nat.le_of_ble_eq_true rfl⟩) ⟨hx, hb, hml, hown, hts⟩ hE hP hD hS hA [29, 30] rfl rfl rfl rfl 2 29 rfl rfl rfl rfl hl.1 rfl rfl (Nat.le_of_ble_eq_true rfl) dX6_sheet_77 (fun H locs hP hD hS => ?_)
          refine lv_aload hx hb dX6_sheet_80 (lv_at hl 3 rfl) ?_
          refine va_getN (D := g.1) (ci := 2) (v := .int (((upS X 1 E104) 1).2.2)) (C := RX2) (T := TX2) (N := 3) hx hb hts i_X6_sheet_X2 hown hE.1 hP 29 rfl rfl 2 (by decide) (va_Nw.use rfl (hE.2.1 _ (List.mem_of_getElem? (i := 20) rfl))) (fun _ h9 => h9) rfl dX6_sheet_82 ?_
          obtain ⟨rfl, rfl, rfl⟩ := some_p3 hf
          rw [hQ]; exact Ct.iret hx hb hr hlocks hAe hP hD hS dX6_sheet_85
        · have hf := if_t hf hc
          refine lv_iconst (v := (0 : Int32)) hx hb dX6_sheet_72 (by decide) ?_
          refine lv_goto (tgt := 77) hx hb dX6_sheet_73 (by decide) ?_
          obtain ⟨E105, hg, hf⟩ := o1_s hf
          refine Ct.callV (ws' := wV g v0 u0 u1 u2 u3 k0 k1 k2 k3 h0 h1 h2 h3 s0 s1 s2 s3 c0 c1 c2 p0 r0 t0 t1 t2 t3 z0 f0 ea R N B S C P Q K (upS X 1 E105) fd tl ik) (As := [.int x2, .int (0 : Int32)]) (rest := []) (st1 := []) (c_X2_begin l g (ea 1) (ea 5) (X 1) x2 (0 : Int32) hg) (cwV 2 hts gX6_sheet_X2_begin rfl rfl rfl q_X2_begin ⟨Nat.le_of_ble_eq_true rfl, Nat.le_of_ble_eq_true rfl⟩) ⟨hx, hb, hml, hown, hts⟩ hE hP hD hS hA [29, 30] rfl rfl rfl rfl 2 29 rfl rfl rfl rfl hl.1 rfl rfl (Nat.le_of_ble_eq_true rfl) dX6_sheet_77 (fun H locs hP hD hS => ?_)
          refine lv_aload hx hb dX6_sheet_80 (lv_at hl 3 rfl) ?_
          refine va_getN (D := g.1) (ci := 2) (v := .int (((upS X 1 E105) 1).2.2)) (C := RX2) (T := TX2) (N := 3) hx hb hts i_X6_sheet_X2 hown hE.1 hP 29 rfl rfl 2 (by decide) (va_Nw.use rfl (hE.2.1 _ (List.mem_of_getElem? (i := 20) rfl))) (fun _ h9 => h9) rfl dX6_sheet_82 ?_
          obtain ⟨rfl, rfl, rfl⟩ := some_p3 hf
          rw [hQ]; exact Ct.iret hx hb hr hlocks hAe hP hD hS dX6_sheet_85
      · have hf := if_f hf hc
        refine lv_aload_n hx hb dX6_sheet_58 rfl (lv_at hl 0 rfl) ?_
        refine lv_ldc hx hb hown w1 dX6_sheet_59 ?_
        obtain ⟨x106, fd107, hg, hf⟩ := o2_s hf
        refine Ct.callV0 (ws' := wV g v0 u0 u1 u2 u3 k0 k1 k2 k3 h0 h1 h2 h3 s0 s1 s2 s3 c0 c1 c2 p0 r0 t0 t1 t2 t3 z0 f0 ea R N B S C P Q K X fd107 tl ik) (As := [.int (-1000001 : Int32)]) (rest := []) (st1 := [.int x106]) (c_X6_finding l g v0 u0 u1 u2 u3 k0 k1 k2 k3 h0 h1 h2 h3 s0 s1 s2 s3 c0 c1 c2 p0 r0 t0 t1 t2 t3 z0 f0 ea R N B S C P Q K X fd tl ik (-1000001 : Int32) hg) (cwV 1 hts gX6_sheet_X6_finding rfl rfl rfl q_X6_finding ⟨Nat.le_of_ble_eq_true rfl, Nat.le_of_ble_eq_true rfl⟩) ⟨hx, hb, hml, hown, hts⟩ hE hP hD hS hA 6 0 rfl rfl rfl rfl hl.1 rfl rfl (Nat.le_of_ble_eq_true rfl) dX6_sheet_61 (fun H locs hP hD hS => ?_)
        obtain ⟨rfl, rfl, rfl⟩ := some_p3 hf
        rw [hQ]; exact Ct.iret hx hb hr hlocks hAe hP hD hS dX6_sheet_64
    · have hf := if_f hf hc
      refine lv_aload_n hx hb dX6_sheet_45 rfl (lv_at hl 0 rfl) ?_
      refine lv_ldc hx hb hown w2 dX6_sheet_46 ?_
      obtain ⟨x108, fd109, hg, hf⟩ := o2_s hf
      refine Ct.callV0 (ws' := wV g v0 u0 u1 u2 u3 k0 k1 k2 k3 h0 h1 h2 h3 s0 s1 s2 s3 c0 c1 c2 p0 r0 t0 t1 t2 t3 z0 f0 ea R N B S C P Q K X fd109 tl ik) (As := [.int (-1000007 : Int32)]) (rest := []) (st1 := [.int x108]) (c_X6_finding l g v0 u0 u1 u2 u3 k0 k1 k2 k3 h0 h1 h2 h3 s0 s1 s2 s3 c0 c1 c2 p0 r0 t0 t1 t2 t3 z0 f0 ea R N B S C P Q K X fd tl ik (-1000007 : Int32) hg) (cwV 1 hts gX6_sheet_X6_finding rfl rfl rfl q_X6_finding ⟨Nat.le_of_ble_eq_true rfl, Nat.le_of_ble_eq_true rfl⟩) ⟨hx, hb, hml, hown, hts⟩ hE hP hD hS hA 6 0 rfl rfl rfl rfl hl.1 rfl rfl (Nat.le_of_ble_eq_true rfl) dX6_sheet_48 (fun H locs hP hD hS => ?_)
      obtain ⟨rfl, rfl, rfl⟩ := some_p3 hf
      rw [hQ]; exact Ct.iret hx hb hr hlocks hAe hP hD hS dX6_sheet_51
  have J41_2 : ∀ (X : F4) (fd : Nat → Int32) (x2 : Int32) (x3 : Int32) (H : Heap) (locs : List Loc) (ls : Array Slot), fX6_sheet_J41 2 X fd x2 x3 = some (r, X', fd') → va_P g.1 vwK (wV g v0 u0 u1 u2 u3 k0 k1 k2 k3 h0 h1 h2 h3 s0 s1 s2 s3 c0 c1 c2 p0 r0 t0 t1 t2 t3 z0 f0 ea R N B S C P Q K X fd tl ik) H → va_D A (wV g v0 u0 u1 u2 u3 k0 k1 k2 k3 h0 h1 h2 h3 s0 s1 s2 s3 c0 c1 c2 p0 r0 t0 t1 t2 t3 z0 f0 ea R N B S C P Q K X fd tl ik) → va_S A s.heap H locs → lv_has ls 5 [(0, .ref v0), (2, .int x2), (3, .int x3), (4, .ref (ea 2))] → W p l e (rmm 2 60) s m args below meth c H locs 0 0 Qx (F0 m 41 ls []) := by
    intro X fd x2 x3 H locs ls hf hP hD hS hl
    unfold fX6_sheet_J41 at hf
    refine lv_iload_n hx hb dX6_sheet_41 rfl (lv_at hl 2 rfl) ?_
    refine lv_if_ge (tgt := 52) hx hb dX6_sheet_42 (by decide) (fun hc => ?_) (fun hc => ?_)
    · have hf := if_t hf hc
      refine lv_iload_n hx hb dX6_sheet_52 rfl (lv_at hl 2 rfl) ?_
      refine lv_bipush (v := (40 : Int32)) hx hb dX6_sheet_53 (by decide) ?_
      refine lv_icmp_le (tgt := 65) hx hb dX6_sheet_55 (by decide) (fun hc => ?_) (fun hc => ?_)
      · have hf := if_t hf hc
        refine lv_aload hx hb dX6_sheet_65 (lv_at hl 3 rfl) ?_
        refine lv_iload_n hx hb dX6_sheet_67 rfl (lv_at hl 1 rfl) ?_
        refine lv_iload_n hx hb dX6_sheet_68 rfl (lv_at hl 1 rfl) ?_
        refine lv_if_ne (tgt := 76) hx hb dX6_sheet_69 (by decide) (fun hc => ?_) (fun hc => ?_)
        · have hf := if_f hf hc
          refine lv_iload_n hx hb dX6_sheet_76 rfl (lv_at hl 2 rfl) ?_
          obtain ⟨E104, hg, hf⟩ := o1_s hf
          refine Ct.callV (ws' := wV g v0 u0 u1 u2 u3 k0 k1 k2 k3 h0 h1 h2 h3 s0 s1 s2 s3 c0 c1 c2 p0 r0 t0 t1 t2 t3 z0 f0 ea R N B S C P Q K (upS X 2 E104) fd tl ik) (As := [.int x2, .int x3]) (rest := []) (st1 := []) (c_X2_begin l g (ea 2) (ea 6) (X 2) x2 x3 hg) (cwV 2 hts gX6_sheet_X2_begin rfl rfl rfl q_X2_begin ⟨Nat.le_of_ble_eq_true rfl, Nat.le_of_ble_eq_true rfl⟩) ⟨hx, hb, hml, hown, hts⟩ hE hP hD hS hA [31, 32] rfl rfl rfl rfl 2 31 rfl rfl rfl rfl hl.1 rfl rfl (Nat.le_of_ble_eq_true rfl) dX6_sheet_77 (fun H locs hP hD hS => ?_)
          refine lv_aload hx hb dX6_sheet_80 (lv_at hl 3 rfl) ?_
          refine va_getN (D := g.1) (ci := 2) (v := .int (((upS X 2 E104) 2).2.2)) (C := RX2) (T := TX2) (N := 3) hx hb hts i_X6_sheet_X2 hown hE.1 hP 31 rfl rfl 2 (by decide) (va_Nw.use rfl (hE.2.1 _ (List.mem_of_getElem? (i := 20) rfl))) (fun _ h9 => h9) rfl dX6_sheet_82 ?_
          obtain ⟨rfl, rfl, rfl⟩ := some_p3 hf
          rw [hQ]; exact Ct.iret hx hb hr hlocks hAe hP hD hS dX6_sheet_85
        · have hf := if_t hf hc
          refine lv_iconst (v := (0 : Int32)) hx hb dX6_sheet_72 (by decide) ?_
          refine lv_goto (tgt := 77) hx hb dX6_sheet_73 (by decide) ?_
          obtain ⟨E105, hg, hf⟩ := o1_s hf
          refine Ct.callV (ws' := wV g v0 u0 u1 u2 u3 k0 k1 k2 k3 h0 h1 h2 h3 s0 s1 s2 s3 c0 c1 c2 p0 r0 t0 t1 t2 t3 z0 f0 ea R N B S C P Q K (upS X 2 E105) fd tl ik) (As := [.int x2, .int (0 : Int32)]) (rest := []) (st1 := []) (c_X2_begin l g (ea 2) (ea 6) (X 2) x2 (0 : Int32) hg) (cwV 2 hts gX6_sheet_X2_begin rfl rfl rfl q_X2_begin ⟨Nat.le_of_ble_eq_true rfl, Nat.le_of_ble_eq_true rfl⟩) ⟨hx, hb, hml, hown, hts⟩ hE hP hD hS hA [31, 32] rfl rfl rfl rfl 2 31 rfl rfl rfl rfl hl.1 rfl rfl (Nat.le_of_ble_eq_true rfl) dX6_sheet_77 (fun H locs hP hD hS => ?_)
          refine lv_aload hx hb dX6_sheet_80 (lv_at hl 3 rfl) ?_
          refine va_getN (D := g.1) (ci := 2) (v := .int (((upS X 2 E105) 2).2.2)) (C := RX2) (T := TX2) (N := 3) hx hb hts i_X6_sheet_X2 hown hE.1 hP 31 rfl rfl 2 (by decide) (va_Nw.use rfl (hE.2.1 _ (List.mem_of_getElem? (i := 20) rfl))) (fun _ h9 => h9) rfl dX6_sheet_82 ?_
          obtain ⟨rfl, rfl, rfl⟩ := some_p3 hf
          rw [hQ]; exact Ct.iret hx hb hr hlocks hAe hP hD hS dX6_sheet_85
      · have hf := if_f hf hc
        refine lv_aload_n hx hb dX6_sheet_58 rfl (lv_at hl 0 rfl) ?_
        refine lv_ldc hx hb hown w1 dX6_sheet_59 ?_
        obtain ⟨x106, fd107, hg, hf⟩ := o2_s hf
        refine Ct.callV0 (ws' := wV g v0 u0 u1 u2 u3 k0 k1 k2 k3 h0 h1 h2 h3 s0 s1 s2 s3 c0 c1 c2 p0 r0 t0 t1 t2 t3 z0 f0 ea R N B S C P Q K X fd107 tl ik) (As := [.int (-1000001 : Int32)]) (rest := []) (st1 := [.int x106]) (c_X6_finding l g v0 u0 u1 u2 u3 k0 k1 k2 k3 h0 h1 h2 h3 s0 s1 s2 s3 c0 c1 c2 p0 r0 t0 t1 t2 t3 z0 f0 ea R N B S C P Q K X fd tl ik (-1000001 : Int32) hg) (cwV 1 hts gX6_sheet_X6_finding rfl rfl rfl q_X6_finding ⟨Nat.le_of_ble_eq_true rfl, Nat.le_of_ble_eq_true rfl⟩) ⟨hx, hb, hml, hown, hts⟩ hE hP hD hS hA 6 0 rfl rfl rfl rfl hl.1 rfl rfl (Nat.le_of_ble_eq_true rfl) dX6_sheet_61 (fun H locs hP hD hS => ?_)
        obtain ⟨rfl, rfl, rfl⟩ := some_p3 hf
        rw [hQ]; exact Ct.iret hx hb hr hlocks hAe hP hD hS dX6_sheet_64
    · have hf := if_f hf hc
      refine lv_aload_n hx hb dX6_sheet_45 rfl (lv_at hl 0 rfl) ?_
      refine lv_ldc hx hb hown w2 dX6_sheet_46 ?_
      obtain ⟨x108, fd109, hg, hf⟩ := o2_s hf
      refine Ct.callV0 (ws' := wV g v0 u0 u1 u2 u3 k0 k1 k2 k3 h0 h1 h2 h3 s0 s1 s2 s3 c0 c1 c2 p0 r0 t0 t1 t2 t3 z0 f0 ea R N B S C P Q K X fd109 tl ik) (As := [.int (-1000007 : Int32)]) (rest := []) (st1 := [.int x108]) (c_X6_finding l g v0 u0 u1 u2 u3 k0 k1 k2 k3 h0 h1 h2 h3 s0 s1 s2 s3 c0 c1 c2 p0 r0 t0 t1 t2 t3 z0 f0 ea R N B S C P Q K X fd tl ik (-1000007 : Int32) hg) (cwV 1 hts gX6_sheet_X6_finding rfl rfl rfl q_X6_finding ⟨Nat.le_of_ble_eq_true rfl, Nat.le_of_ble_eq_true rfl⟩) ⟨hx, hb, hml, hown, hts⟩ hE hP hD hS hA 6 0 rfl rfl rfl rfl hl.1 rfl rfl (Nat.le_of_ble_eq_true rfl) dX6_sheet_48 (fun H locs hP hD hS => ?_)
      obtain ⟨rfl, rfl, rfl⟩ := some_p3 hf
      rw [hQ]; exact Ct.iret hx hb hr hlocks hAe hP hD hS dX6_sheet_51
  have J41_3 : ∀ (X : F4) (fd : Nat → Int32) (x2 : Int32) (x3 : Int32) (H : Heap) (locs : List Loc) (ls : Array Slot), fX6_sheet_J41 3 X fd x2 x3 = some (r, X', fd') → va_P g.1 vwK (wV g v0 u0 u1 u2 u3 k0 k1 k2 k3 h0 h1 h2 h3 s0 s1 s2 s3 c0 c1 c2 p0 r0 t0 t1 t2 t3 z0 f0 ea R N B S C P Q K X fd tl ik) H → va_D A (wV g v0 u0 u1 u2 u3 k0 k1 k2 k3 h0 h1 h2 h3 s0 s1 s2 s3 c0 c1 c2 p0 r0 t0 t1 t2 t3 z0 f0 ea R N B S C P Q K X fd tl ik) → va_S A s.heap H locs → lv_has ls 5 [(0, .ref v0), (2, .int x2), (3, .int x3), (4, .ref (ea 3))] → W p l e (rmm 2 60) s m args below meth c H locs 0 0 Qx (F0 m 41 ls []) := by
    intro X fd x2 x3 H locs ls hf hP hD hS hl
    unfold fX6_sheet_J41 at hf
    refine lv_iload_n hx hb dX6_sheet_41 rfl (lv_at hl 2 rfl) ?_
    refine lv_if_ge (tgt := 52) hx hb dX6_sheet_42 (by decide) (fun hc => ?_) (fun hc => ?_)
    · have hf := if_t hf hc
      refine lv_iload_n hx hb dX6_sheet_52 rfl (lv_at hl 2 rfl) ?_
      refine lv_bipush (v := (40 : Int32)) hx hb dX6_sheet_53 (by decide) ?_
      refine lv_icmp_le (tgt := 65) hx hb dX6_sheet_55 (by decide) (fun hc => ?_) (fun hc => ?_)
      · have hf := if_t hf hc
        refine lv_aload hx hb dX6_sheet_65 (lv_at hl 3 rfl) ?_
        refine lv_iload_n hx hb dX6_sheet_67 rfl (lv_at hl 1 rfl) ?_
        refine lv_iload_n hx hb dX6_sheet_68 rfl (lv_at hl 1 rfl) ?_
        refine lv_if_ne (tgt := 76) hx hb dX6_sheet_69 (by decide) (fun hc => ?_) (fun hc => ?_)
        · have hf := if_f hf hc
          refine lv_iload_n hx hb dX6_sheet_76 rfl (lv_at hl 2 rfl) ?_
          obtain ⟨E104, hg, hf⟩ := o1_s hf
          refine Ct.callV (ws' := wV g v0 u0 u1 u2 u3 k0 k1 k2 k3 h0 h1 h2 h3 s0 s1 s2 s3 c0 c1 c2 p0 r0 t0 t1 t2 t3 z0 f0 ea R N B S C P Q K (upS X 3 E104) fd tl ik) (As := [.int x2, .int x3]) (rest := []) (st1 := []) (c_X2_begin l g (ea 3) (ea 7) (X 3) x2 x3 hg) (cwV 2 hts gX6_sheet_X2_begin rfl rfl rfl q_X2_begin ⟨Nat.le_of_ble_eq_true rfl, Nat.le_of_ble_eq_true rfl⟩) ⟨hx, hb, hml, hown, hts⟩ hE hP hD hS hA [33, 34] rfl rfl rfl rfl 2 33 rfl rfl rfl rfl hl.1 rfl rfl (Nat.le_of_ble_eq_true rfl) dX6_sheet_77 (fun H locs hP hD hS => ?_)
          refine lv_aload hx hb dX6_sheet_80 (lv_at hl 3 rfl) ?_
          refine va_getN (D := g.1) (ci := 2) (v := .int (((upS X 3 E104) 3).2.2)) (C := RX2) (T := TX2) (N := 3) hx hb hts i_X6_sheet_X2 hown hE.1 hP 33 rfl rfl 2 (by decide) (va_Nw.use rfl (hE.2.1 _ (List.mem_of_getElem? (i := 20) rfl))) (fun _ h9 => h9) rfl dX6_sheet_82 ?_
          obtain ⟨rfl, rfl, rfl⟩ := some_p3 hf
          rw [hQ]; exact Ct.iret hx hb hr hlocks hAe hP hD hS dX6_sheet_85
        · have hf := if_t hf hc
          refine lv_iconst (v := (0 : Int32)) hx hb dX6_sheet_72 (by decide) ?_
          refine lv_goto (tgt := 77) hx hb dX6_sheet_73 (by decide) ?_
          obtain ⟨E105, hg, hf⟩ := o1_s hf
          refine Ct.callV (ws' := wV g v0 u0 u1 u2 u3 k0 k1 k2 k3 h0 h1 h2 h3 s0 s1 s2 s3 c0 c1 c2 p0 r0 t0 t1 t2 t3 z0 f0 ea R N B S C P Q K (upS X 3 E105) fd tl ik) (As := [.int x2, .int (0 : Int32)]) (rest := []) (st1 := []) (c_X2_begin l g (ea 3) (ea 7) (X 3) x2 (0 : Int32) hg) (cwV 2 hts gX6_sheet_X2_begin rfl rfl rfl q_X2_begin ⟨Nat.le_of_ble_eq_true rfl, Nat.le_of_ble_eq_true rfl⟩) ⟨hx, hb, hml, hown, hts⟩ hE hP hD hS hA [33, 34] rfl rfl rfl rfl 2 33 rfl rfl rfl rfl hl.1 rfl rfl (Nat.le_of_ble_eq_true rfl) dX6_sheet_77 (fun H locs hP hD hS => ?_)
          refine lv_aload hx hb dX6_sheet_80 (lv_at hl 3 rfl) ?_
          refine va_getN (D := g.1) (ci := 2) (v := .int (((upS X 3 E105) 3).2.2)) (C := RX2) (T := TX2) (N := 3) hx hb hts i_X6_sheet_X2 hown hE.1 hP 33 rfl rfl 2 (by decide) (va_Nw.use rfl (hE.2.1 _ (List.mem_of_getElem? (i := 20) rfl))) (fun _ h9 => h9) rfl dX6_sheet_82 ?_
          obtain ⟨rfl, rfl, rfl⟩ := some_p3 hf
          rw [hQ]; exact Ct.iret hx hb hr hlocks hAe hP hD hS dX6_sheet_85
      · have hf := if_f hf hc
        refine lv_aload_n hx hb dX6_sheet_58 rfl (lv_at hl 0 rfl) ?_
        refine lv_ldc hx hb hown w1 dX6_sheet_59 ?_
        obtain ⟨x106, fd107, hg, hf⟩ := o2_s hf
        refine Ct.callV0 (ws' := wV g v0 u0 u1 u2 u3 k0 k1 k2 k3 h0 h1 h2 h3 s0 s1 s2 s3 c0 c1 c2 p0 r0 t0 t1 t2 t3 z0 f0 ea R N B S C P Q K X fd107 tl ik) (As := [.int (-1000001 : Int32)]) (rest := []) (st1 := [.int x106]) (c_X6_finding l g v0 u0 u1 u2 u3 k0 k1 k2 k3 h0 h1 h2 h3 s0 s1 s2 s3 c0 c1 c2 p0 r0 t0 t1 t2 t3 z0 f0 ea R N B S C P Q K X fd tl ik (-1000001 : Int32) hg) (cwV 1 hts gX6_sheet_X6_finding rfl rfl rfl q_X6_finding ⟨Nat.le_of_ble_eq_true rfl, Nat.le_of_ble_eq_true rfl⟩) ⟨hx, hb, hml, hown, hts⟩ hE hP hD hS hA 6 0 rfl rfl rfl rfl hl.1 rfl rfl (Nat.le_of_ble_eq_true rfl) dX6_sheet_61 (fun H locs hP hD hS => ?_)
        obtain ⟨rfl, rfl, rfl⟩ := some_p3 hf
        rw [hQ]; exact Ct.iret hx hb hr hlocks hAe hP hD hS dX6_sheet_64
    · have hf := if_f hf hc
      refine lv_aload_n hx hb dX6_sheet_45 rfl (lv_at hl 0 rfl) ?_
      refine lv_ldc hx hb hown w2 dX6_sheet_46 ?_
      obtain ⟨x108, fd109, hg, hf⟩ := o2_s hf
      refine Ct.callV0 (ws' := wV g v0 u0 u1 u2 u3 k0 k1 k2 k3 h0 h1 h2 h3 s0 s1 s2 s3 c0 c1 c2 p0 r0 t0 t1 t2 t3 z0 f0 ea R N B S C P Q K X fd109 tl ik) (As := [.int (-1000007 : Int32)]) (rest := []) (st1 := [.int x108]) (c_X6_finding l g v0 u0 u1 u2 u3 k0 k1 k2 k3 h0 h1 h2 h3 s0 s1 s2 s3 c0 c1 c2 p0 r0 t0 t1 t2 t3 z0 f0 ea R N B S C P Q K X fd tl ik (-1000007 : Int32) hg) (cwV 1 hts gX6_sheet_X6_finding rfl rfl rfl q_X6_finding ⟨Nat.le_of_ble_eq_true rfl, Nat.le_of_ble_eq_true rfl⟩) ⟨hx, hb, hml, hown, hts⟩ hE hP hD hS hA 6 0 rfl rfl rfl rfl hl.1 rfl rfl (Nat.le_of_ble_eq_true rfl) dX6_sheet_48 (fun H locs hP hD hS => ?_)
      obtain ⟨rfl, rfl, rfl⟩ := some_p3 hf
      rw [hQ]; exact Ct.iret hx hb hr hlocks hAe hP hD hS dX6_sheet_51
  unfold fX6_sheet at hf
  refine lv_aload_n hx hb dX6_sheet_0 rfl (lv_at hl 0 rfl) ?_
  refine lv_iload_n hx hb dX6_sheet_1 rfl (lv_at hl 1 rfl) ?_
  rcases sh_s hf with ⟨hs, hf⟩ | ⟨hs, hf⟩ | ⟨hs, hf⟩ | ⟨hs, hf⟩ | ⟨hs, hf⟩
  · refine Ct.callV0 (ws' := wV g v0 u0 u1 u2 u3 k0 k1 k2 k3 h0 h1 h2 h3 s0 s1 s2 s3 c0 c1 c2 p0 r0 t0 t1 t2 t3 z0 f0 ea R N B S C P Q K X fd tl ik) (As := [.int a1]) (rest := []) (st1 := [.null]) (c_X6_sheetAt_null l g v0 u0 u1 u2 u3 k0 k1 k2 k3 h0 h1 h2 h3 s0 s1 s2 s3 c0 c1 c2 p0 r0 t0 t1 t2 t3 z0 f0 ea R N B S C P Q K X fd tl ik a1 hs) (cwV 1 hts gX6_sheet_X6_sheetAt rfl rfl rfl q_X6_sheetAt ⟨Nat.le_of_ble_eq_true rfl, Nat.le_of_ble_eq_true rfl⟩) ⟨hx, hb, hml, hown, hts⟩ hE hP hD hS hA 6 0 rfl rfl rfl rfl hl.1 rfl rfl (Nat.le_of_ble_eq_true rfl) dX6_sheet_2 (fun H locs hP hD hS => ?_)
    refine lv_astoreN (lv' := [(4, .null), (0, .ref v0), (1, .int a1), (2, .int a2), (3, .int a3)]) hx hb dX6_sheet_5 hl (by decide) rfl (fun ls hl => ?_)
    refine lv_aloadN hx hb dX6_sheet_7 (lv_at hl 0 rfl) ?_
    refine lv_ifnullN (tgt := 34) hx hb dX6_sheet_9 (by decide) ?_
    refine lv_aload_n hx hb dX6_sheet_34 rfl (lv_at hl 1 rfl) ?_
    refine lv_ldc hx hb hown w1 dX6_sheet_35 ?_
    obtain ⟨x101, fd102, hg, hf⟩ := o2_s hf
    refine Ct.callV0 (ws' := wV g v0 u0 u1 u2 u3 k0 k1 k2 k3 h0 h1 h2 h3 s0 s1 s2 s3 c0 c1 c2 p0 r0 t0 t1 t2 t3 z0 f0 ea R N B S C P Q K X fd102 tl ik) (As := [.int (-1000001 : Int32)]) (rest := []) (st1 := [.int x101]) (c_X6_finding l g v0 u0 u1 u2 u3 k0 k1 k2 k3 h0 h1 h2 h3 s0 s1 s2 s3 c0 c1 c2 p0 r0 t0 t1 t2 t3 z0 f0 ea R N B S C P Q K X fd tl ik (-1000001 : Int32) hg) (cwV 1 hts gX6_sheet_X6_finding rfl rfl rfl q_X6_finding ⟨Nat.le_of_ble_eq_true rfl, Nat.le_of_ble_eq_true rfl⟩) ⟨hx, hb, hml, hown, hts⟩ hE hP hD hS hA 6 0 rfl rfl rfl rfl hl.1 rfl rfl (Nat.le_of_ble_eq_true rfl) dX6_sheet_37 (fun H locs hP hD hS => ?_)
    obtain ⟨rfl, rfl, rfl⟩ := some_p3 hf
    rw [hQ]; exact Ct.iret hx hb hr hlocks hAe hP hD hS dX6_sheet_40
  · refine Ct.callV0 (ws' := wV g v0 u0 u1 u2 u3 k0 k1 k2 k3 h0 h1 h2 h3 s0 s1 s2 s3 c0 c1 c2 p0 r0 t0 t1 t2 t3 z0 f0 ea R N B S C P Q K X fd tl ik) (As := [.int a1]) (rest := []) (st1 := [.ref (ea 0)]) (c_X6_sheetAt l g v0 u0 u1 u2 u3 k0 k1 k2 k3 h0 h1 h2 h3 s0 s1 s2 s3 c0 c1 c2 p0 r0 t0 t1 t2 t3 z0 f0 ea R N B S C P Q K X fd tl ik 0 (by decide) a1 hs) (cwV 1 hts gX6_sheet_X6_sheetAt rfl rfl rfl q_X6_sheetAt ⟨Nat.le_of_ble_eq_true rfl, Nat.le_of_ble_eq_true rfl⟩) ⟨hx, hb, hml, hown, hts⟩ hE hP hD hS hA 6 0 rfl rfl rfl rfl hl.1 rfl rfl (Nat.le_of_ble_eq_true rfl) dX6_sheet_2 (fun H locs hP hD hS => ?_)
    refine lv_astore (lv' := [(4, .ref (ea 0)), (0, .ref v0), (1, .int a1), (2, .int a2), (3, .int a3)]) hx hb dX6_sheet_5 hl (by decide) rfl (fun ls hl => ?_)
    refine lv_aload hx hb dX6_sheet_7 (lv_at hl 0 rfl) ?_
    refine lv_ifnull hx hb dX6_sheet_9 ?_
    refine lv_iload_n hx hb dX6_sheet_12 rfl (lv_at hl 3 rfl) ?_
    refine lv_if_eq (tgt := 41) hx hb dX6_sheet_13 (by decide) (fun hc => ?_) (fun hc => ?_)
    · have hf := if_t hf hc
      exact J41_0 _ _ _ _ _ _ _  hf hP hD hS (lv_sub hl [1, 3, 4, 0] rfl)
    · have hf := if_f hf hc
      refine lv_iload_n hx hb dX6_sheet_16 rfl (lv_at hl 3 rfl) ?_
      refine lv_bipush (v := (8 : Int32)) hx hb dX6_sheet_17 (by decide) ?_
      refine lv_icmp_eq (tgt := 41) hx hb dX6_sheet_19 (by decide) (fun hc => ?_) (fun hc => ?_)
      · have hf := if_t hf hc
        exact J41_0 _ _ _ _ _ _ _  hf hP hD hS (lv_sub hl [1, 3, 4, 0] rfl)
      · have hf := if_f hf hc
        refine lv_iload_n hx hb dX6_sheet_22 rfl (lv_at hl 3 rfl) ?_
        refine lv_bipush (v := (16 : Int32)) hx hb dX6_sheet_23 (by decide) ?_
        refine lv_icmp_eq (tgt := 41) hx hb dX6_sheet_25 (by decide) (fun hc => ?_) (fun hc => ?_)
        · have hf := if_t hf hc
          exact J41_0 _ _ _ _ _ _ _  hf hP hD hS (lv_sub hl [1, 3, 4, 0] rfl)
        · have hf := if_f hf hc
          refine lv_iload_n hx hb dX6_sheet_28 rfl (lv_at hl 3 rfl) ?_
          refine lv_bipush (v := (32 : Int32)) hx hb dX6_sheet_29 (by decide) ?_
          refine lv_icmp_eq (tgt := 41) hx hb dX6_sheet_31 (by decide) (fun hc => ?_) (fun hc => ?_)
          · have hf := if_t hf hc
            exact J41_0 _ _ _ _ _ _ _  hf hP hD hS (lv_sub hl [1, 3, 4, 0] rfl)
          · have hf := if_f hf hc
            refine lv_aload_n hx hb dX6_sheet_34 rfl (lv_at hl 1 rfl) ?_
            refine lv_ldc hx hb hown w1 dX6_sheet_35 ?_
            obtain ⟨x110, fd111, hg, hf⟩ := o2_s hf
            refine Ct.callV0 (ws' := wV g v0 u0 u1 u2 u3 k0 k1 k2 k3 h0 h1 h2 h3 s0 s1 s2 s3 c0 c1 c2 p0 r0 t0 t1 t2 t3 z0 f0 ea R N B S C P Q K X fd111 tl ik) (As := [.int (-1000001 : Int32)]) (rest := []) (st1 := [.int x110]) (c_X6_finding l g v0 u0 u1 u2 u3 k0 k1 k2 k3 h0 h1 h2 h3 s0 s1 s2 s3 c0 c1 c2 p0 r0 t0 t1 t2 t3 z0 f0 ea R N B S C P Q K X fd tl ik (-1000001 : Int32) hg) (cwV 1 hts gX6_sheet_X6_finding rfl rfl rfl q_X6_finding ⟨Nat.le_of_ble_eq_true rfl, Nat.le_of_ble_eq_true rfl⟩) ⟨hx, hb, hml, hown, hts⟩ hE hP hD hS hA 6 0 rfl rfl rfl rfl hl.1 rfl rfl (Nat.le_of_ble_eq_true rfl) dX6_sheet_37 (fun H locs hP hD hS => ?_)
            obtain ⟨rfl, rfl, rfl⟩ := some_p3 hf
            rw [hQ]; exact Ct.iret hx hb hr hlocks hAe hP hD hS dX6_sheet_40
  · refine Ct.callV0 (ws' := wV g v0 u0 u1 u2 u3 k0 k1 k2 k3 h0 h1 h2 h3 s0 s1 s2 s3 c0 c1 c2 p0 r0 t0 t1 t2 t3 z0 f0 ea R N B S C P Q K X fd tl ik) (As := [.int a1]) (rest := []) (st1 := [.ref (ea 1)]) (c_X6_sheetAt l g v0 u0 u1 u2 u3 k0 k1 k2 k3 h0 h1 h2 h3 s0 s1 s2 s3 c0 c1 c2 p0 r0 t0 t1 t2 t3 z0 f0 ea R N B S C P Q K X fd tl ik 1 (by decide) a1 hs) (cwV 1 hts gX6_sheet_X6_sheetAt rfl rfl rfl q_X6_sheetAt ⟨Nat.le_of_ble_eq_true rfl, Nat.le_of_ble_eq_true rfl⟩) ⟨hx, hb, hml, hown, hts⟩ hE hP hD hS hA 6 0 rfl rfl rfl rfl hl.1 rfl rfl (Nat.le_of_ble_eq_true rfl) dX6_sheet_2 (fun H locs hP hD hS => ?_)
    refine lv_astore (lv' := [(4, .ref (ea 1)), (0, .ref v0), (1, .int a1), (2, .int a2), (3, .int a3)]) hx hb dX6_sheet_5 hl (by decide) rfl (fun ls hl => ?_)
    refine lv_aload hx hb dX6_sheet_7 (lv_at hl 0 rfl) ?_
    refine lv_ifnull hx hb dX6_sheet_9 ?_
    refine lv_iload_n hx hb dX6_sheet_12 rfl (lv_at hl 3 rfl) ?_
    refine lv_if_eq (tgt := 41) hx hb dX6_sheet_13 (by decide) (fun hc => ?_) (fun hc => ?_)
    · have hf := if_t hf hc
      exact J41_1 _ _ _ _ _ _ _  hf hP hD hS (lv_sub hl [1, 3, 4, 0] rfl)
    · have hf := if_f hf hc
      refine lv_iload_n hx hb dX6_sheet_16 rfl (lv_at hl 3 rfl) ?_
      refine lv_bipush (v := (8 : Int32)) hx hb dX6_sheet_17 (by decide) ?_
      refine lv_icmp_eq (tgt := 41) hx hb dX6_sheet_19 (by decide) (fun hc => ?_) (fun hc => ?_)
      · have hf := if_t hf hc
        exact J41_1 _ _ _ _ _ _ _  hf hP hD hS (lv_sub hl [1, 3, 4, 0] rfl)
      · have hf := if_f hf hc
        refine lv_iload_n hx hb dX6_sheet_22 rfl (lv_at hl 3 rfl) ?_
        refine lv_bipush (v := (16 : Int32)) hx hb dX6_sheet_23 (by decide) ?_
        refine lv_icmp_eq (tgt := 41) hx hb dX6_sheet_25 (by decide) (fun hc => ?_) (fun hc => ?_)
        · have hf := if_t hf hc
          exact J41_1 _ _ _ _ _ _ _  hf hP hD hS (lv_sub hl [1, 3, 4, 0] rfl)
        · have hf := if_f hf hc
          refine lv_iload_n hx hb dX6_sheet_28 rfl (lv_at hl 3 rfl) ?_
          refine lv_bipush (v := (32 : Int32)) hx hb dX6_sheet_29 (by decide) ?_
          refine lv_icmp_eq (tgt := 41) hx hb dX6_sheet_31 (by decide) (fun hc => ?_) (fun hc => ?_)
          · have hf := if_t hf hc
            exact J41_1 _ _ _ _ _ _ _  hf hP hD hS (lv_sub hl [1, 3, 4, 0] rfl)
          · have hf := if_f hf hc
            refine lv_aload_n hx hb dX6_sheet_34 rfl (lv_at hl 1 rfl) ?_
            refine lv_ldc hx hb hown w1 dX6_sheet_35 ?_
            obtain ⟨x110, fd111, hg, hf⟩ := o2_s hf
            refine Ct.callV0 (ws' := wV g v0 u0 u1 u2 u3 k0 k1 k2 k3 h0 h1 h2 h3 s0 s1 s2 s3 c0 c1 c2 p0 r0 t0 t1 t2 t3 z0 f0 ea R N B S C P Q K X fd111 tl ik) (As := [.int (-1000001 : Int32)]) (rest := []) (st1 := [.int x110]) (c_X6_finding l g v0 u0 u1 u2 u3 k0 k1 k2 k3 h0 h1 h2 h3 s0 s1 s2 s3 c0 c1 c2 p0 r0 t0 t1 t2 t3 z0 f0 ea R N B S C P Q K X fd tl ik (-1000001 : Int32) hg) (cwV 1 hts gX6_sheet_X6_finding rfl rfl rfl q_X6_finding ⟨Nat.le_of_ble_eq_true rfl, Nat.le_of_ble_eq_true rfl⟩) ⟨hx, hb, hml, hown, hts⟩ hE hP hD hS hA 6 0 rfl rfl rfl rfl hl.1 rfl rfl (Nat.le_of_ble_eq_true rfl) dX6_sheet_37 (fun H locs hP hD hS => ?_)
            obtain ⟨rfl, rfl, rfl⟩ := some_p3 hf
            rw [hQ]; exact Ct.iret hx hb hr hlocks hAe hP hD hS dX6_sheet_40
  · refine Ct.callV0 (ws' := wV g v0 u0 u1 u2 u3 k0 k1 k2 k3 h0 h1 h2 h3 s0 s1 s2 s3 c0 c1 c2 p0 r0 t0 t1 t2 t3 z0 f0 ea R N B S C P Q K X fd tl ik) (As := [.int a1]) (rest := []) (st1 := [.ref (ea 2)]) (c_X6_sheetAt l g v0 u0 u1 u2 u3 k0 k1 k2 k3 h0 h1 h2 h3 s0 s1 s2 s3 c0 c1 c2 p0 r0 t0 t1 t2 t3 z0 f0 ea R N B S C P Q K X fd tl ik 2 (by decide) a1 hs) (cwV 1 hts gX6_sheet_X6_sheetAt rfl rfl rfl q_X6_sheetAt ⟨Nat.le_of_ble_eq_true rfl, Nat.le_of_ble_eq_true rfl⟩) ⟨hx, hb, hml, hown, hts⟩ hE hP hD hS hA 6 0 rfl rfl rfl rfl hl.1 rfl rfl (Nat.le_of_ble_eq_true rfl) dX6_sheet_2 (fun H locs hP hD hS => ?_)
    refine lv_astore (lv' := [(4, .ref (ea 2)), (0, .ref v0), (1, .int a1), (2, .int a2), (3, .int a3)]) hx hb dX6_sheet_5 hl (by decide) rfl (fun ls hl => ?_)
    refine lv_aload hx hb dX6_sheet_7 (lv_at hl 0 rfl) ?_
    refine lv_ifnull hx hb dX6_sheet_9 ?_
    refine lv_iload_n hx hb dX6_sheet_12 rfl (lv_at hl 3 rfl) ?_
    refine lv_if_eq (tgt := 41) hx hb dX6_sheet_13 (by decide) (fun hc => ?_) (fun hc => ?_)
    · have hf := if_t hf hc
      exact J41_2 _ _ _ _ _ _ _  hf hP hD hS (lv_sub hl [1, 3, 4, 0] rfl)
    · have hf := if_f hf hc
      refine lv_iload_n hx hb dX6_sheet_16 rfl (lv_at hl 3 rfl) ?_
      refine lv_bipush (v := (8 : Int32)) hx hb dX6_sheet_17 (by decide) ?_
      refine lv_icmp_eq (tgt := 41) hx hb dX6_sheet_19 (by decide) (fun hc => ?_) (fun hc => ?_)
      · have hf := if_t hf hc
        exact J41_2 _ _ _ _ _ _ _  hf hP hD hS (lv_sub hl [1, 3, 4, 0] rfl)
      · have hf := if_f hf hc
        refine lv_iload_n hx hb dX6_sheet_22 rfl (lv_at hl 3 rfl) ?_
        refine lv_bipush (v := (16 : Int32)) hx hb dX6_sheet_23 (by decide) ?_
        refine lv_icmp_eq (tgt := 41) hx hb dX6_sheet_25 (by decide) (fun hc => ?_) (fun hc => ?_)
        · have hf := if_t hf hc
          exact J41_2 _ _ _ _ _ _ _  hf hP hD hS (lv_sub hl [1, 3, 4, 0] rfl)
        · have hf := if_f hf hc
          refine lv_iload_n hx hb dX6_sheet_28 rfl (lv_at hl 3 rfl) ?_
          refine lv_bipush (v := (32 : Int32)) hx hb dX6_sheet_29 (by decide) ?_
          refine lv_icmp_eq (tgt := 41) hx hb dX6_sheet_31 (by decide) (fun hc => ?_) (fun hc => ?_)
          · have hf := if_t hf hc
            exact J41_2 _ _ _ _ _ _ _  hf hP hD hS (lv_sub hl [1, 3, 4, 0] rfl)
          · have hf := if_f hf hc
            refine lv_aload_n hx hb dX6_sheet_34 rfl (lv_at hl 1 rfl) ?_
            refine lv_ldc hx hb hown w1 dX6_sheet_35 ?_
            obtain ⟨x110, fd111, hg, hf⟩ := o2_s hf
            refine Ct.callV0 (ws' := wV g v0 u0 u1 u2 u3 k0 k1 k2 k3 h0 h1 h2 h3 s0 s1 s2 s3 c0 c1 c2 p0 r0 t0 t1 t2 t3 z0 f0 ea R N B S C P Q K X fd111 tl ik) (As := [.int (-1000001 : Int32)]) (rest := []) (st1 := [.int x110]) (c_X6_finding l g v0 u0 u1 u2 u3 k0 k1 k2 k3 h0 h1 h2 h3 s0 s1 s2 s3 c0 c1 c2 p0 r0 t0 t1 t2 t3 z0 f0 ea R N B S C P Q K X fd tl ik (-1000001 : Int32) hg) (cwV 1 hts gX6_sheet_X6_finding rfl rfl rfl q_X6_finding ⟨Nat.le_of_ble_eq_true rfl, Nat.le_of_ble_eq_true rfl⟩) ⟨hx, hb, hml, hown, hts⟩ hE hP hD hS hA 6 0 rfl rfl rfl rfl hl.1 rfl rfl (Nat.le_of_ble_eq_true rfl) dX6_sheet_37 (fun H locs hP hD hS => ?_)
            obtain ⟨rfl, rfl, rfl⟩ := some_p3 hf
            rw [hQ]; exact Ct.iret hx hb hr hlocks hAe hP hD hS dX6_sheet_40
  · refine Ct.callV0 (ws' := wV g v0 u0 u1 u2 u3 k0 k1 k2 k3 h0 h1 h2 h3 s0 s1 s2 s3 c0 c1 c2 p0 r0 t0 t1 t2 t3 z0 f0 ea R N B S C P Q K X fd tl ik) (As := [.int a1]) (rest := []) (st1 := [.ref (ea 3)]) (c_X6_sheetAt l g v0 u0 u1 u2 u3 k0 k1 k2 k3 h0 h1 h2 h3 s0 s1 s2 s3 c0 c1 c2 p0 r0 t0 t1 t2 t3 z0 f0 ea R N B S C P Q K X fd tl ik 3 (by decide) a1 hs) (cwV 1 hts gX6_sheet_X6_sheetAt rfl rfl rfl q_X6_sheetAt ⟨Nat.le_of_ble_eq_true rfl, Nat.le_of_ble_eq_true rfl⟩) ⟨hx, hb, hml, hown, hts⟩ hE hP hD hS hA 6 0 rfl rfl rfl rfl hl.1 rfl rfl (Nat.le_of_ble_eq_true rfl) dX6_sheet_2 (fun H locs hP hD hS => ?_)
    refine lv_astore (lv' := [(4, .ref (ea 3)), (0, .ref v0), (1, .int a1), (2, .int a2), (3, .int a3)]) hx hb dX6_sheet_5 hl (by decide) rfl (fun ls hl => ?_)
    refine lv_aload hx hb dX6_sheet_7 (lv_at hl 0 rfl) ?_
    refine lv_ifnull hx hb dX6_sheet_9 ?_
    refine lv_iload_n hx hb dX6_sheet_12 rfl (lv_at hl 3 rfl) ?_
    refine lv_if_eq (tgt := 41) hx hb dX6_sheet_13 (by decide) (fun hc => ?_) (fun hc => ?_)
    · have hf := if_t hf hc
      exact J41_3 _ _ _ _ _ _ _  hf hP hD hS (lv_sub hl [1, 3, 4, 0] rfl)
    · have hf := if_f hf hc
      refine lv_iload_n hx hb dX6_sheet_16 rfl (lv_at hl 3 rfl) ?_
      refine lv_bipush (v := (8 : Int32)) hx hb dX6_sheet_17 (by decide) ?_
      refine lv_icmp_eq (tgt := 41) hx hb dX6_sheet_19 (by decide) (fun hc => ?_) (fun hc => ?_)
      · have hf := if_t hf hc
        exact J41_3 _ _ _ _ _ _ _  hf hP hD hS (lv_sub hl [1, 3, 4, 0] rfl)
      · have hf := if_f hf hc
        refine lv_iload_n hx hb dX6_sheet_22 rfl (lv_at hl 3 rfl) ?_
        refine lv_bipush (v := (16 : Int32)) hx hb dX6_sheet_23 (by decide) ?_
        refine lv_icmp_eq (tgt := 41) hx hb dX6_sheet_25 (by decide) (fun hc => ?_) (fun hc => ?_)
        · have hf := if_t hf hc
          exact J41_3 _ _ _ _ _ _ _  hf hP hD hS (lv_sub hl [1, 3, 4, 0] rfl)
        · have hf := if_f hf hc
          refine lv_iload_n hx hb dX6_sheet_28 rfl (lv_at hl 3 rfl) ?_
          refine lv_bipush (v := (32 : Int32)) hx hb dX6_sheet_29 (by decide) ?_
          refine lv_icmp_eq (tgt := 41) hx hb dX6_sheet_31 (by decide) (fun hc => ?_) (fun hc => ?_)
          · have hf := if_t hf hc
            exact J41_3 _ _ _ _ _ _ _  hf hP hD hS (lv_sub hl [1, 3, 4, 0] rfl)
          · have hf := if_f hf hc
            refine lv_aload_n hx hb dX6_sheet_34 rfl (lv_at hl 1 rfl) ?_
            refine lv_ldc hx hb hown w1 dX6_sheet_35 ?_
            obtain ⟨x110, fd111, hg, hf⟩ := o2_s hf
            refine Ct.callV0 (ws' := wV g v0 u0 u1 u2 u3 k0 k1 k2 k3 h0 h1 h2 h3 s0 s1 s2 s3 c0 c1 c2 p0 r0 t0 t1 t2 t3 z0 f0 ea R N B S C P Q K X fd111 tl ik) (As := [.int (-1000001 : Int32)]) (rest := []) (st1 := [.int x110]) (c_X6_finding l g v0 u0 u1 u2 u3 k0 k1 k2 k3 h0 h1 h2 h3 s0 s1 s2 s3 c0 c1 c2 p0 r0 t0 t1 t2 t3 z0 f0 ea R N B S C P Q K X fd tl ik (-1000001 : Int32) hg) (cwV 1 hts gX6_sheet_X6_finding rfl rfl rfl q_X6_finding ⟨Nat.le_of_ble_eq_true rfl, Nat.le_of_ble_eq_true rfl⟩) ⟨hx, hb, hml, hown, hts⟩ hE hP hD hS hA 6 0 rfl rfl rfl rfl hl.1 rfl rfl (Nat.le_of_ble_eq_true rfl) dX6_sheet_37 (fun H locs hP hD hS => ?_)
            obtain ⟨rfl, rfl, rfl⟩ := some_p3 hf
            rw [hQ]; exact Ct.iret hx hb hr hlocks hAe hP hD hS dX6_sheet_40
