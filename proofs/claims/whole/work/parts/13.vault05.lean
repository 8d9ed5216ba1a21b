def fX6_write (X : F4) (fd : Nat → Int32) (a1 : Int32) (a2 : Int32) (a3 : Int32) : Option (Int32 × F4 × (Nat → Int32)) := sh a1 (fun k103 => o1 (fX2_isMissing (X k103)) (fun x104 => if x104 = 0 then (o1 (fX6_isWithin a2 (0 : Int32) ((X k103).2.2 - (1 : Int32))) (fun x105 => if x105 = 0 then (o2 (fX6_finding fd (-1000001 : Int32)) (fun x107 fd108 => some (x107, X, fd108))) else (o1 (fX2_putLowest (X k103) a2 a3) (fun E106 => some ((1 : Int32), (upS X k103 E106), fd))))) else (o2 (fX6_finding fd (-1000006 : Int32)) (fun x109 fd110 => some (x109, X, fd110))))) (o2 (fX6_finding fd (-1000001 : Int32)) (fun x101 fd102 => some (x101, X, fd102)))
theorem q_X6_write : yX6_write.cls = RX6 ∧ yX6_write.cls ≠ "java/lang/invoke/MethodHandle" ∧ yX6_write.cls ≠ "java/lang/invoke/VarHandle" ∧ (parseMethodDescriptor yX6_write.desc).map (fun d => d.parameters.length) = some 3 := by decide +kernel
theorem i_X6_write_X2 : ∀ w ∈ u_ws RX2 TX2 3, w ∈ wsX6_write := fun _ h => List.mem_cons_of_mem _ (List.mem_append_left _ (List.mem_append_right _ (h)))
set_option maxHeartbeats 4000000 in
set_option maxRecDepth 100000 in
theorem c_X6_write (l : Launch) (g : gG) (v0 u0 u1 u2 u3 k0 k1 k2 k3 h0 h1 h2 h3 s0 s1 s2 s3 c0 c1 c2 p0 r0 t0 t1 t2 t3 z0 f0 : Nat) (ea : Nat → Nat) (R : Rf) (N : Rf) (B : Rf) (S : Sv) (C : Ca) (P : Nat → Int32) (Q : Tr) (K : Tk) (X : F4) (fd : Nat → Int32) (tl : Int32) (ik : Int32) (a1 : Int32) (a2 : Int32) (a3 : Int32) {r : Int32} {X' : F4} {fd' : Nat → Int32} (hf : fX6_write X fd a1 a2 a3 = some (r, X', fd')) : Ct l yX6_write wsX6_write (rmm 2 60) g (wV g v0 u0 u1 u2 u3 k0 k1 k2 k3 h0 h1 h2 h3 s0 s1 s2 s3 c0 c1 c2 p0 r0 t0 t1 t2 t3 z0 f0 ea R N B S C P Q K X fd tl ik) (wV g v0 u0 u1 u2 u3 k0 k1 k2 k3 h0 h1 h2 h3 s0 s1 s2 s3 c0 c1 c2 p0 r0 t0 t1 t2 t3 z0 f0 ea R N B S C P Q K (X') (fd') tl ik) [.ref v0, .int a1, .int a2, .int a3] (some (.int r)) := by
  refine Ct.mk (by decide) rfl (Nat.le_of_ble_eq_true rfl) ?_
  intro p e s m args below meth c A ls hx hb hr hml hts hown hlocks hA hE hP hD hS hl hAe
  obtain ⟨Qx, hQ⟩ : ∃ Qx : State → Prop, Qx = MQ below (QcG g (wV g v0 u0 u1 u2 u3 k0 k1 k2 k3 h0 h1 h2 h3 s0 s1 s2 s3 c0 c1 c2 p0 r0 t0 t1 t2 t3 z0 f0 ea R N B S C P Q K X fd tl ik) (wV g v0 u0 u1 u2 u3 k0 k1 k2 k3 h0 h1 h2 h3 s0 s1 s2 s3 c0 c1 c2 p0 r0 t0 t1 t2 t3 z0 f0 ea R N B S C P Q K (X') (fd') tl ik) (some (.int r)) s.heap.size) args s 0 0 A := ⟨_, rfl⟩
  rw [← hQ]
  have hown : s.vm.findClass RX6 = some m.cls := hown
  have hl : lv_has ls 5 [(0, .ref v0), (1, .int a1), (2, .int a2), (3, .int a3)] := hl
  have w1 := hts (.constant RX6 73 (-1000001)) (List.mem_of_getElem? (i := 1) rfl)
  have w2 := hts (.constant RX6 221 (-1000006)) (List.mem_of_getElem? (i := 2) rfl)
  unfold fX6_write at hf
  refine lv_aload_n hx hb dX6_write_0 rfl (lv_at hl 0 rfl) ?_
  refine lv_iload_n hx hb dX6_write_1 rfl (lv_at hl 1 rfl) ?_
  rcases sh_s hf with ⟨hs, hf⟩ | ⟨hs, hf⟩ | ⟨hs, hf⟩ | ⟨hs, hf⟩ | ⟨hs, hf⟩
  · refine Ct.callV0 (ws' := wV g v0 u0 u1 u2 u3 k0 k1 k2 k3 h0 h1 h2 h3 s0 s1 s2 s3 c0 c1 c2 p0 r0 t0 t1 t2 t3 z0 f0 ea R N B S C P Q K X fd tl ik) (As := [.int a1]) (rest := []) (st1 := [.null]) (c_X6_sheetAt_null l g v0 u0 u1 u2 u3 k0 k1 k2 k3 h0 h1 h2 h3 s0 s1 s2 s3 c0 c1 c2 p0 r0 t0 t1 t2 t3 z0 f0 ea R N B S C P Q K X fd tl ik a1 hs) (cwV 1 hts gX6_write_X6_sheetAt rfl rfl rfl q_X6_sheetAt ⟨Nat.le_of_ble_eq_true rfl, Nat.le_of_ble_eq_true rfl⟩) ⟨hx, hb, hml, hown, hts⟩ hE hP hD hS hA 6 0 rfl rfl rfl rfl hl.1 rfl rfl (Nat.le_of_ble_eq_true rfl) dX6_write_2 (fun H locs hP hD hS => ?_)
    refine lv_astoreN (lv' := [(4, .null), (0, .ref v0), (1, .int a1), (2, .int a2), (3, .int a3)]) hx hb dX6_write_5 hl (by decide) rfl (fun ls hl => ?_)
    refine lv_aloadN hx hb dX6_write_7 (lv_at hl 0 rfl) ?_
    refine lv_ifnonnullN hx hb dX6_write_9 ?_
    refine lv_aload_n hx hb dX6_write_12 rfl (lv_at hl 1 rfl) ?_
    refine lv_ldc hx hb hown w1 dX6_write_13 ?_
    obtain ⟨x101, fd102, hg, hf⟩ := o2_s hf
    refine Ct.callV0 (ws' := wV g v0 u0 u1 u2 u3 k0 k1 k2 k3 h0 h1 h2 h3 s0 s1 s2 s3 c0 c1 c2 p0 r0 t0 t1 t2 t3 z0 f0 ea R N B S C P Q K X fd102 tl ik) (As := [.int (-1000001 : Int32)]) (rest := []) (st1 := [.int x101]) (c_X6_finding l g v0 u0 u1 u2 u3 k0 k1 k2 k3 h0 h1 h2 h3 s0 s1 s2 s3 c0 c1 c2 p0 r0 t0 t1 t2 t3 z0 f0 ea R N B S C P Q K X fd tl ik (-1000001 : Int32) hg) (cwV 1 hts gX6_write_X6_finding rfl rfl rfl q_X6_finding ⟨Nat.le_of_ble_eq_true rfl, Nat.le_of_ble_eq_true rfl⟩) ⟨hx, hb, hml, hown, hts⟩ hE hP hD hS hA 6 0 rfl rfl rfl rfl hl.1 rfl rfl (Nat.le_of_ble_eq_true rfl) dX6_write_15 (fun H locs hP hD hS => ?_)
    obtain ⟨rfl, rfl, rfl⟩ := some_p3 hf
    rw [hQ]; exact Ct.iret hx hb hr hlocks hAe hP hD hS dX6_write_18
  · refine Ct.callV0 (ws' := wV g v0 u0 u1 u2 u3 k0 k1 k2 k3 h0 h1 h2 h3 s0 s1 s2 s3 c0 c1 c2 p0 r0 t0 t1 t2 t3 z0 f0 ea R N B S C P Q K X fd tl ik) (As := [.int a1]) (rest := []) (st1 := [.ref (ea 0)]) (c_X6_sheetAt l g v0 u0 u1 u2 u3 k0 k1 k2 k3 h0 h1 h2 h3 s0 s1 s2 s3 c0 c1 c2 p0 r0 t0 t1 t2 t3 z0 f0 ea R N B S C P Q K X fd tl ik 0 (by decide) a1 hs) (cwV 1 hts gX6_write_X6_sheetAt rfl rfl rfl q_X6_sheetAt ⟨Nat.le_of_ble_eq_true rfl, Nat.le_of_ble_eq_true rfl⟩) ⟨hx, hb, hml, hown, hts⟩ hE hP hD hS hA 6 0 rfl rfl rfl rfl hl.1 rfl rfl (Nat.le_of_ble_eq_true rfl) dX6_write_2 (fun H locs hP hD hS => ?_)
    refine lv_astore (lv' := [(4, .ref (ea 0)), (0, .ref v0), (1, .int a1), (2, .int a2), (3, .int a3)]) hx hb dX6_write_5 hl (by decide) rfl (fun ls hl => ?_)
    refine lv_aload hx hb dX6_write_7 (lv_at hl 0 rfl) ?_
    refine lv_ifnonnull (tgt := 19) hx hb dX6_write_9 (by decide) ?_
    refine lv_aload hx hb dX6_write_19 (lv_at hl 0 rfl) ?_
    obtain ⟨x104, hg, hf⟩ := o1_s hf
    refine Ct.callV (ws' := wV g v0 u0 u1 u2 u3 k0 k1 k2 k3 h0 h1 h2 h3 s0 s1 s2 s3 c0 c1 c2 p0 r0 t0 t1 t2 t3 z0 f0 ea R N B S C P Q K X fd tl ik) (As := []) (rest := []) (st1 := [.int x104]) (c_X2_isMissing l g (ea 0) (ea 4) (X 0) hg) (cwV 0 hts gX6_write_X2_isMissing rfl rfl rfl q_X2_isMissing ⟨Nat.le_of_ble_eq_true rfl, Nat.le_of_ble_eq_true rfl⟩) ⟨hx, hb, hml, hown, hts⟩ hE hP hD hS hA [27, 28] rfl rfl rfl rfl 2 27 rfl rfl rfl rfl hl.1 rfl rfl (Nat.le_of_ble_eq_true rfl) dX6_write_21 (fun H locs hP hD hS => ?_)
    refine lv_if_eq (tgt := 34) hx hb dX6_write_24 (by decide) (fun hc => ?_) (fun hc => ?_)
    · have hf := if_t hf hc
      refine lv_iload_n hx hb dX6_write_34 rfl (lv_at hl 3 rfl) ?_
      refine lv_iconst (v := (0 : Int32)) hx hb dX6_write_35 (by decide) ?_
      refine lv_aload hx hb dX6_write_36 (lv_at hl 0 rfl) ?_
      refine va_getN (D := g.1) (ci := 2) (v := .int ((X 0).2.2)) (C := RX2) (T := TX2) (N := 3) hx hb hts i_X6_write_X2 hown hE.1 hP 27 rfl rfl 2 (by decide) (va_Nw.use rfl (hE.2.1 _ (List.mem_of_getElem? (i := 20) rfl))) (fun _ h9 => h9) rfl dX6_write_38 ?_
      refine lv_iconst (v := (1 : Int32)) hx hb dX6_write_41 (by decide) ?_
      refine lv_isub hx hb dX6_write_42 ?_
      obtain ⟨x105, hg, hf⟩ := o1_s hf
      refine Ct.callS (ws' := wV g v0 u0 u1 u2 u3 k0 k1 k2 k3 h0 h1 h2 h3 s0 s1 s2 s3 c0 c1 c2 p0 r0 t0 t1 t2 t3 z0 f0 ea R N B S C P Q K X fd tl ik) (As := [.int a2, .int (0 : Int32), .int ((X 0).2.2 - (1 : Int32))]) (rest := []) (st1 := [.int x105]) (c_X6_isWithin l g a2 (0 : Int32) ((X 0).2.2 - (1 : Int32)) hg) (va_cwS 3 hts gX6_write_X6_isWithin rfl rfl rfl q_X6_isWithin.2 ⟨Nat.le_of_ble_eq_true rfl, Nat.le_of_ble_eq_true rfl⟩) ⟨hx, hb, hml, hown, hts⟩ hE hP hD hS hA [] rfl rfl rfl rfl rfl hl.1 rfl rfl (Nat.le_of_ble_eq_true rfl) dX6_write_43 (fun H locs hP hD hS => ?_)
      refine lv_if_ne (tgt := 56) hx hb dX6_write_46 (by decide) (fun hc => ?_) (fun hc => ?_)
      · have hf := if_f hf hc
        refine lv_aload hx hb dX6_write_56 (lv_at hl 0 rfl) ?_
        refine lv_iload_n hx hb dX6_write_58 rfl (lv_at hl 3 rfl) ?_
        refine lv_iload_n hx hb dX6_write_59 rfl (lv_at hl 4 rfl) ?_
        obtain ⟨E106, hg, hf⟩ := o1_s hf
        refine Ct.callV (ws' := wV g v0 u0 u1 u2 u3 k0 k1 k2 k3 h0 h1 h2 h3 s0 s1 s2 s3 c0 c1 c2 p0 r0 t0 t1 t2 t3 z0 f0 ea R N B S C P Q K (upS X 0 E106) fd tl ik) (As := [.int a2, .int a3]) (rest := []) (st1 := []) (c_X2_putLowest l g (ea 0) (ea 4) (X 0) a2 a3 hg) (cwV 2 hts gX6_write_X2_putLowest rfl rfl rfl q_X2_putLowest ⟨Nat.le_of_ble_eq_true rfl, Nat.le_of_ble_eq_true rfl⟩) ⟨hx, hb, hml, hown, hts⟩ hE hP hD hS hA [27, 28] rfl rfl rfl rfl 2 27 rfl rfl rfl rfl hl.1 rfl rfl (Nat.le_of_ble_eq_true rfl) dX6_write_60 (fun H locs hP hD hS => ?_)
        refine lv_iconst (v := (1 : Int32)) hx hb dX6_write_63 (by decide) ?_
        obtain ⟨rfl, rfl, rfl⟩ := some_p3 hf
        rw [hQ]; exact Ct.iret hx hb hr hlocks hAe hP hD hS dX6_write_64
      · have hf := if_t hf hc
        refine lv_aload_n hx hb dX6_write_49 rfl (lv_at hl 1 rfl) ?_
        refine lv_ldc hx hb hown w1 dX6_write_50 ?_
        obtain ⟨x107, fd108, hg, hf⟩ := o2_s hf
        refine Ct.callV0 (ws' := wV g v0 u0 u1 u2 u3 k0 k1 k2 k3 h0 h1 h2 h3 s0 s1 s2 s3 c0 c1 c2 p0 r0 t0 t1 t2 t3 z0 f0 ea R N B S C P Q K X fd108 tl ik) (As := [.int (-1000001 : Int32)]) (rest := []) (st1 := [.int x107]) (c_X6_finding l g v0 u0 u1 u2 u3 k0 k1 k2 k3 h0 h1 h2 h3 s0 s1 s2 s3 c0 c1 c2 p0 r0 t0 t1 t2 t3 z0 f0 ea R N B S C P Q K X fd tl ik (-1000001 : Int32) hg) (cwV 1 hts gX6_write_X6_finding rfl rfl rfl q_X6_finding ⟨Nat.le_of_ble_eq_true rfl, Nat.le_of_ble_eq_true rfl⟩) ⟨hx, hb, hml, hown, hts⟩ hE hP hD hS hA 6 0 rfl rfl rfl rfl hl.1 rfl rfl (Nat.le_of_ble_eq_true rfl) dX6_write_52 (fun H locs hP hD hS => ?_)
        obtain ⟨rfl, rfl, rfl⟩ := some_p3 hf
        rw [hQ]; exact Ct.iret hx hb hr hlocks hAe hP hD hS dX6_write_55
    · have hf := if_f hf hc
      refine lv_aload_n hx hb dX6_write_27 rfl (lv_at hl 1 rfl) ?_
      refine lv_ldc hx hb hown w2 dX6_write_28 ?_
      obtain ⟨x109, fd110, hg, hf⟩ := o2_s hf
      refine Ct.callV0 (ws' := wV g v0 u0 u1 u2 u3 k0 k1 k2 k3 h0 h1 h2 h3 s0 s1 s2 s3 c0 c1 c2 p0 r0 t0 t1 t2 t3 z0 f0 ea R N B S C P Q K X fd110 tl ik) (As := [.int (-1000006 : Int32)]) (rest := []) (st1 := [.int x109]) (c_X6_finding l g v0 u0 u1 u2 u3 k0 k1 k2 k3 h0 h1 h2 h3 s0 s1 s2 s3 c0 c1 c2 p0 r0 t0 t1 t2 t3 z0 f0 ea R N B S C P Q K X fd tl ik (-1000006 : Int32) hg) (cwV 1 hts gX6_write_X6_finding rfl rfl rfl q_X6_finding ⟨Nat.le_of_ble_eq_true rfl, Nat.le_of_ble_eq_true rfl⟩) ⟨hx, hb, hml, hown, hts⟩ hE hP hD hS hA 6 0 rfl rfl rfl rfl hl.1 rfl rfl (Nat.le_of_ble_eq_true rfl) dX6_write_30 (fun H locs hP hD hS => ?_)
      obtain ⟨rfl, rfl, rfl⟩ := some_p3 hf
      rw [hQ]; exact Ct.iret hx hb hr hlocks hAe hP hD hS dX6_write_33
  · refine Ct.callV0 (ws' := wV g v0 u0 u1 u2 u3 k0 k1 k2 k3 h0 h1 h2 h3 s0 s1 s2 s3 c0 c1 c2 p0 r0 t0 t1 t2 t3 z0 f0 ea R N B S C P Q K X fd tl ik) (As := [.int a1]) (rest := []) (st1 := [.ref (ea 1)]) (c_X6_sheetAt l g v0 u0 u1 u2 u3 k0 k1 k2 k3 h0 h1 h2 h3 s0 s1 s2 s3 c0 c1 c2 p0 r0 t0 t1 t2 t3 z0 f0 ea R N B S C P Q K X fd tl ik 1 (by decide) a1 hs) (cwV 1 hts gX6_write_X6_sheetAt rfl rfl rfl q_X6_sheetAt ⟨Nat.le_of_ble_eq_true rfl, Nat.le_of_ble_eq_true rfl⟩) ⟨hx, hb, hml, hown, hts⟩ hE hP hD hS hA 6 0 rfl rfl rfl rfl hl.1 rfl rfl (Nat.le_of_ble_eq_true rfl) dX6_write_2 (fun H locs hP hD hS => ?_)
    refine lv_astore (lv' := [(4, .ref (ea 1)), (0, .ref v0), (1, .int a1), (2, .int a2), (3, .int a3)]) hx hb dX6_write_5 hl (by decide) rfl (fun ls hl => ?_)
    refine lv_aload hx hb dX6_write_7 (lv_at hl 0 rfl) ?_
    refine lv_ifnonnull (tgt := 19) hx hb dX6_write_9 (by decide) ?_
    refine lv_aload hx hb dX6_write_19 (lv_at hl 0 rfl) ?_
    obtain ⟨x104, hg, hf⟩ := o1_s hf
    refine Ct.callV (ws' := wV g v0 u0 u1 u2 u3 k0 k1 k2 k3 h0 h1 h2 h3 s0 s1 s2 s3 c0 c1 c2 p0 r0 t0 t1 t2 t3 z0 f0 ea R N B S C P Q K X fd tl ik) (As := []) (rest := []) (st1 := [.int x104]) (c_X2_isMissing l g (ea 1) (ea 5) (X 1) hg) (cwV 0 hts gX6_write_X2_isMissing rfl rfl rfl q_X2_isMissing ⟨Nat.le_of_ble_eq_true rfl, Nat.le_of_ble_eq_true rfl⟩) ⟨hx, hb, hml, hown, hts⟩ hE hP hD hS hA [29, 30] rfl rfl rfl rfl 2 29 rfl rfl rfl rfl hl.1 rfl rfl (Nat.le_of_ble_eq_true rfl) dX6_write_21 (fun H locs hP hD hS => ?_)
    refine lv_if_eq (tgt := 34) hx hb dX6_write_24 (by decide) (fun hc => ?_) (fun hc => ?_)
    · have hf := if_t hf hc
      refine lv_iload_n hx hb dX6_write_34 rfl (lv_at hl 3 rfl) ?_
      refine lv_iconst (v := (0 : Int32)) hx hb dX6_write_35 (by decide) ?_
      refine lv_aload hx hb dX6_write_36 (lv_at hl 0 rfl) ?_
      refine va_getN (D := g.1) (ci := 2) (v := .int ((X 1).2.2)) (C := RX2) (T := TX2) (N := 3) hx hb hts i_X6_write_X2 hown hE.1 hP 29 rfl rfl 2 (by decide) (va_Nw.use rfl (hE.2.1 _ (List.mem_of_getElem? (i := 20) rfl))) (fun _ h9 => h9) rfl dX6_write_38 ?_
      refine lv_iconst (v := (1 : Int32)) hx hb dX6_write_41 (by decide) ?_
      refine lv_isub hx hb dX6_write_42 ?_
      obtain ⟨x105, hg, hf⟩ := o1_s hf
      refine Ct.callS (ws' := wV g v0 u0 u1 u2 u3 k0 k1 k2 k3 h0 h1 h2 h3 s0 s1 s2 s3 c0 c1 c2 p0 r0 t0 t1 t2 t3 z0 f0 ea R N B S C P Q K X fd tl ik) (As := [.int a2, .int (0 : Int32), .int ((X 1).2.2 - (1 : Int32))]) (rest := []) (st1 := [.int x105]) (c_X6_isWithin l g a2 (0 : Int32) ((X 1).2.2 - (1 : Int32)) hg) (va_cwS 3 hts gX6_write_X6_isWithin rfl rfl rfl q_X6_isWithin.2 ⟨Nat.le_of_ble_eq_true rfl, Nat.le_of_ble_eq_true rfl⟩) ⟨hx, hb, hml, hown, hts⟩ hE hP hD hS hA [] rfl rfl rfl rfl rfl hl.1 rfl rfl (Nat.le_of_ble_eq_true rfl) dX6_write_43 (fun H locs hP hD hS => ?_)
      refine lv_if_ne (tgt := 56) hx hb dX6_write_46 (by decide) (fun hc => ?_) (fun hc => ?_)
      · have hf := if_f hf hc
        refine lv_aload hx hb dX6_write_56 (lv_at hl 0 rfl) ?_
        refine lv_iload_n hx hb dX6_write_58 rfl (lv_at hl 3 rfl) ?_
        refine lv_iload_n hx hb dX6_write_59 rfl (lv_at hl 4 rfl) ?_
        obtain ⟨E106, hg, hf⟩ := o1_s hf
        refine Ct.callV (ws' := wV g v0 u0 u1 u2 u3 k0 k1 k2 k3 h0 h1 h2 h3 s0 s1 s2 s3 c0 c1 c2 p0 r0 t0 t1 t2 t3 z0 f0 ea R N B S C P Q K (upS X 1 E106) fd tl ik) (As := [.int a2, .int a3]) (rest := []) (st1 := []) (c_X2_putLowest l g (ea 1) (ea 5) (X 1) a2 a3 hg) (cwV 2 hts gX6_write_X2_putLowest rfl rfl rfl q_X2_putLowest ⟨Nat.le_of_ble_eq_true rfl, Nat.le_of_ble_eq_true rfl⟩) ⟨hx, hb, hml, hown, hts⟩ hE hP hD hS hA [29, 30] rfl rfl rfl rfl 2 29 rfl rfl rfl rfl hl.1 rfl rfl (Nat.le_of_ble_eq_true rfl) dX6_write_60 (fun H locs hP hD hS => ?_)
        refine lv_iconst (v := (1 : Int32)) hx hb dX6_write_63 (by decide) ?_
        obtain ⟨rfl, rfl, rfl⟩ := some_p3 hf
        rw [hQ]; exact Ct.iret hx hb hr hlocks hAe hP hD hS dX6_write_64
      · have hf := if_t hf hc
        refine lv_aload_n hx hb dX6_write_49 rfl (lv_at hl 1 rfl) ?_
        refine lv_ldc hx hb hown w1 dX6_write_50 ?_
        obtain ⟨x107, fd108, hg, hf⟩ := o2_s hf
        refine Ct.callV0 (ws' := wV g v0 u0 u1 u2 u3 k0 k1 k2 k3 h0 h1 h2 h3 s0 s1 s2 s3 c0 c1 c2 p0 r0 t0 t1 t2 t3 z0 f0 ea R N B S C P Q K X fd108 tl ik) (As := [.int (-1000001 : Int32)]) (rest := []) (st1 := [.int x107]) (c_X6_finding l g v0 u0 u1 u2 u3 k0 k1 k2 k3 h0 h1 h2 h3 s0 s1 s2 s3 c0 c1 c2 p0 r0 t0 t1 t2 t3 z0 f0 ea R N B S C P Q K X fd tl ik (-1000001 : Int32) hg) (cwV 1 hts gX6_write_X6_finding rfl rfl rfl q_X6_finding ⟨Nat.le_of_ble_eq_true rfl, Nat.le_of_ble_eq_true rfl⟩) ⟨hx, hb, hml, hown, hts⟩ hE hP hD hS hA 6 0 rfl rfl rfl rfl hl.1 rfl rfl (Nat.le_of_ble_eq_true rfl) dX6_write_52 (fun H locs hP hD hS => ?_)
        obtain ⟨rfl, rfl, rfl⟩ := some_p3 hf
        rw [hQ]; exact Ct.iret hx hb hr hlocks hAe hP hD hS dX6_write_55
    · have hf := if_f hf hc
      refine lv_aload_n hx hb dX6_write_27 rfl (lv_at hl 1 rfl) ?_
      refine lv_ldc hx hb hown w2 dX6_write_28 ?_
      obtain ⟨x109, fd110, hg, hf⟩ := o2_s hf
      refine Ct.callV0 (ws' := wV g v0 u0 u1 u2 u3 k0 k1 k2 k3 h0 h1 h2 h3 s0 s1 s2 s3 c0 c1 c2 p0 r0 t0 t1 t2 t3 z0 f0 ea R N B S C P Q K X fd110 tl ik) (As := [.int (-1000006 : Int32)]) (rest := []) (st1 := [.int x109]) (c_X6_finding l g v0 u0 u1 u2 u3 k0 k1 k2 k3 h0 h1 h2 h3 s0 s1 s2 s3 c0 c1 c2 p0 r0 t0 t1 t2 t3 z0 f0 ea R N B S C P Q K X fd tl ik (-1000006 : Int32) hg) (cwV 1 hts gX6_write_X6_finding rfl rfl rfl q_X6_finding ⟨Nat.le_of_ble_eq_true rfl, Nat.le_of_ble_eq_true rfl⟩) ⟨hx, hb, hml, hown, hts⟩ hE hP hD hS hA 6 0 rfl rfl rfl rfl hl.1 rfl rfl (Nat.le_of_ble_eq_true rfl) dX6_write_30 (fun H locs hP hD hS => ?_)
      obtain ⟨rfl, rfl, rfl⟩ := some_p3 hf
      rw [hQ]; exact Ct.iret hx hb hr hlocks hAe hP hD hS dX6_write_33
  · refine Ct.callV0 (ws' := wV g v0 u0 u1 u2 u3 k0 k1 k2 k3 h0 h1 h2 h3 s0 s1 s2 s3 c0 c1 c2 p0 r0 t0 t1 t2 t3 z0 f0 ea R N B S C P Q K X fd tl ik) (As := [.int a1]) (rest := []) (st1 := [.ref (ea 2)]) (c_X6_sheetAt l g v0 u0 u1 u2 u3 k0 k1 k2 k3 h0 h1 h2 h3 s0 s1 s2 s3 c0 c1 c2 p0 r0 t0 t1 t2 t3 z0 f0 ea R N B S C P Q K X fd tl ik 2 (by decide) a1 hs) (cwV 1 hts gX6_write_X6_sheetAt rfl rfl rfl q_X6_sheetAt ⟨Nat.le_of_ble_eq_true rfl, Nat.le_of_ble_eq_true rfl⟩) ⟨hx, hb, hml, hown, hts⟩ hE hP hD hS hA 6 0 rfl rfl rfl rfl hl.1 rfl rfl (Nat.le_of_ble_eq_true rfl) dX6_write_2 (fun H locs hP hD hS => ?_)
    refine lv_astore (lv' := [(4, .ref (ea 2)), (0, .ref v0), (1, .int a1), (2, .int a2), (3, .int a3)]) hx hb dX6_write_5 hl (by decide) rfl (fun ls hl => ?_)
    refine lv_aload hx hb dX6_write_7 (lv_at hl 0 rfl) ?_
    refine lv_ifnonnull (tgt := 19) hx hb dX6_write_9 (by decide) ?_
    refine lv_aload hx hb dX6_write_19 (lv_at hl 0 rfl) ?_
    obtain ⟨x104, hg, hf⟩ := o1_s hf
    refine Ct.callV (ws' := wV g v0 u0 u1 u2 u3 k0 k1 k2 k3 h0 h1 h2 h3 s0 s1 s2 s3 c0 c1 c2 p0 r0 t0 t1 t2 t3 z0 f0 ea R N B S C P Q K X fd tl ik) (As := []) (rest := []) (st1 := [.int x104]) (c_X2_isMissing l g (ea 2) (ea 6) (X 2) hg) (cwV 0 hts gX6_write_X2_isMissing rfl rfl rfl q_X2_isMissing ⟨Nat.le_of_ble_eq_true rfl, Nat.le_of_ble_eq_true rfl⟩) ⟨hx, hb, hml, hown, hts⟩ hE hP hD hS hA [31, 32] rfl rfl rfl rfl 2 31 rfl rfl rfl rfl hl.1 rfl rfl (Nat.le_of_ble_eq_true rfl) dX6_write_21 (fun H locs hP hD hS => ?_)
    refine lv_if_eq (tgt := 34) hx hb dX6_write_24 (by decide) (fun hc => ?_) (fun hc => ?_)
    · have hf := if_t hf hc
      refine lv_iload_n hx hb dX6_write_34 rfl (lv_at hl 3 rfl) ?_
      refine lv_iconst (v := (0 : Int32)) hx hb dX6_write_35 (by decide) ?_
      refine lv_aload hx hb dX6_write_36 (lv_at hl 0 rfl) ?_
      refine va_getN (D := g.1) (ci := 2) (v := .int ((X 2).2.2)) (C := RX2) (T := TX2) (N := 3) hx hb hts i_X6_write_X2 hown hE.1 hP 31 rfl rfl 2 (by decide) (va_Nw.use rfl (hE.2.1 _ (List.mem_of_getElem? (i := 20) rfl))) (fun _ h9 => h9) rfl dX6_write_38 ?_
      refine lv_iconst (v := (1 : Int32)) hx hb dX6_write_41 (by decide) ?_
      refine lv_isub hx hb dX6_write_42 ?_
      obtain ⟨x105, hg, hf⟩ := o1_s hf
      refine Ct.callS (ws' := wV g v0 u0 u1 u2 u3 k0 k1 k2 k3 h0 h1 h2 h3 s0 s1 s2 s3 c0 c1 c2 p0 r0 t0 t1 t2 t3 z0 f0 ea R N B S C P Q K X fd tl ik) (As := [.int a2, .int (0 : Int32), .int ((X 2).2.2 - (1 : Int32))]) (rest := []) (st1 := [.int x105]) (c_X6_isWithin l g a2 (0 : Int32) ((X 2).2.2 - (1 : Int32)) hg) (va_cwS 3 hts gX6_write_X6_isWithin rfl rfl rfl q_X6_isWithin.2 ⟨Nat.le_of_ble_eq_true rfl, Nat.le_of_ble_eq_true rfl⟩) ⟨hx, hb, hml, hown, hts⟩ hE hP hD hS hA [] rfl rfl rfl rfl rfl hl.1 rfl rfl (Nat.le_of_ble_eq_true rfl) dX6_write_43 (fun H locs hP hD hS => ?_)
      refine lv_if_ne (tgt := 56) hx hb dX6_write_46 (by decide) (fun hc => ?_) (fun hc => ?_)
      · have hf := if_f hf hc
        refine lv_aload hx hb dX6_write_56 (lv_at hl 0 rfl) ?_
        refine lv_iload_n hx hb dX6_write_58 rfl (lv_at hl 3 rfl) ?_
        refine lv_iload_n hx hb dX6_write_59 rfl (lv_at hl 4 rfl) ?_
        obtain ⟨E106, hg, hf⟩ := o1_s hf
        refine Ct.callV (ws' := wV g v0 u0 u1 u2 u3 k0 k1 k2 k3 h0 h1 h2 h3 s0 s1 s2 s3 c0 c1 c2 p0 r0 t0 t1 t2 t3 z0 f0 ea R N B S C P Q K (upS X 2 E106) fd tl ik) (As := [.int a2, .int a3]) (rest := []) (st1 := []) (c_X2_putLowest l g (ea 2) (ea 6) (X 2) a2 a3 hg) (cwV 2 hts gX6_write_X2_putLowest rfl rfl rfl q_X2_putLowest ⟨Nat.le_of_ble_eq_true rfl, Nat.le_of_ble_eq_true rfl⟩) ⟨hx, hb, hml, hown, hts⟩ hE hP hD hS hA [31, 32] rfl rfl rfl rfl 2 31 rfl rfl rfl rfl hl.1 rfl rfl (Nat.le_of_ble_eq_true rfl) dX6_write_60 (fun H locs hP hD hS => ?_)
        refine lv_iconst (v := (1 : Int32)) hx hb dX6_write_63 (by decide) ?_
        obtain ⟨rfl, rfl, rfl⟩ := some_p3 hf
        rw [hQ]; exact Ct.iret hx hb hr hlocks hAe hP hD hS dX6_write_64
      · have hf := if_t hf hc
        refine lv_aload_n hx hb dX6_write_49 rfl (lv_at hl 1 rfl) ?_
        refine lv_ldc hx hb hown w1 dX6_write_50 ?_
        obtain ⟨x107, fd108, hg, hf⟩ := o2_s hf
        refine Ct.callV0 (ws' := wV g v0 u0 u1 u2 u3 k0 k1 k2 k3 h0 h1 h2 h3 s0 s1 s2 s3 c0 c1 c2 p0 r0 t0 t1 t2 t3 z0 f0 ea R N B S C P Q K X fd108 tl ik) (As := [.int (-1000001 : Int32)]) (rest := []) (st1 := [.int x107]) (c_X6_finding l g v0 u0 u1 u2 u3 k0 k1 k2 k3 h0 h1 h2 h3 s0 s1 s2 s3 c0 c1 c2 p0 r0 t0 t1 t2 t3 z0 f0 ea R N B S C P Q K X fd tl ik (-1000001 : Int32) hg) (cwV 1 hts gX6_write_X6_finding rfl rfl rfl q_X6_finding ⟨Nat.le_of_ble_eq_true rfl, Nat.le_of_ble_eq_true rfl⟩) ⟨hx, hb, hml, hown, hts⟩ hE hP hD hS hA 6 0 rfl rfl rfl rfl hl.1 rfl rfl (Nat.le_of_ble_eq_true rfl) dX6_write_52 (fun H locs hP hD hS => ?_)
        obtain ⟨rfl, rfl, rfl⟩ := some_p3 hf
        rw [hQ]; exact Ct.iret hx hb hr hlocks hAe hP hD hS dX6_write_55
    · have hf := if_f hf hc
      refine lv_aload_n hx hb dX6_write_27 rfl (lv_at hl 1 rfl) ?_
      refine lv_ldc hx hb hown w2 dX6_write_28 ?_
      obtain ⟨x109, fd110, hg, hf⟩ := o2_s hf
      refine Ct.callV0 (ws' := wV g v0 u0 u1 u2 u3 k0 k1 k2 k3 h0 h1 h2 h3 s0 s1 s2 s3 c0 c1 c2 p0 r0 t0 t1 t2 t3 z0 f0 ea R N B S C P Q K X fd110 tl ik) (As := [.int (-1000006 : Int32)]) (rest := []) (st1 := [.int x109]) (c_X6_finding l g v0 u0 u1 u2 u3 k0 k1 k2 k3 h0 h1 h2 h3 s0 s1 s2 s3 c0 c1 c2 p0 r0 t0 t1 t2 t3 z0 f0 ea R N B S C P Q K X fd tl ik (-1000006 : Int32) hg) (cwV 1 hts gX6_write_X6_finding rfl rfl rfl q_X6_finding ⟨Nat.le_of_ble_eq_true rfl, Nat.le_of_ble_eq_true rfl⟩) ⟨hx, hb, hml, hown, hts⟩ hE hP hD hS hA 6 0 rfl rfl rfl rfl hl.1 rfl rfl (Nat.le_of_ble_eq_true rfl) dX6_write_30 (fun H locs hP hD hS => ?_)
      obtain ⟨rfl, rfl, rfl⟩ := some_p3 hf
      rw [hQ]; exact Ct.iret hx hb hr hlocks hAe hP hD hS dX6_write_33
  · refine Ct.callV0 (ws' := wV g v0 u0 u1 u2 u3 k0 k1 k2 k3 h0 h1 h2 h3 s0 s1 s2 s3 c0 c1 c2 p0 r0 t0 t1 t2 t3 z0 f0 ea R N B S C P Q K X fd tl ik) (As := [.int a1]) (rest := []) (st1 := [.ref (ea 3)]) (c_X6_sheetAt l g v0 u0 u1 u2 u3 k0 k1 k2 k3 h0 h1 h2 h3 s0 s1 s2 s3 c0 c1 c2 p0 r0 t0 t1 t2 t3 z0 f0 ea R N B S C P Q K X fd tl ik 3 (by decide) a1 hs) (cwV 1 hts gX6_write_X6_sheetAt rfl rfl rfl q_X6_sheetAt ⟨Nat.le_of_ble_eq_true rfl, Nat.le_of_ble_eq_true rfl⟩) ⟨hx, hb, hml, hown, hts⟩ hE hP hD hS hA 6 0 rfl rfl rfl rfl hl.1 rfl rfl (Nat.le_of_ble_eq_true rfl) dX6_write_2 (fun H locs hP hD hS => ?_)
    refine lv_astore (lv' := [(4, .ref (ea 3)), (0, .ref v0), (1, .int a1), (2, .int a2), (3, .int a3)]) hx hb dX6_write_5 hl (by decide) rfl (fun ls hl => ?_)
    refine lv_aload hx hb dX6_write_7 (lv_at hl 0 rfl) ?_
    refine lv_ifnonnull (tgt := 19) hx hb dX6_write_9 (by decide) ?_
    refine lv_aload hx hb dX6_write_19 (lv_at hl 0 rfl) ?_
    obtain ⟨x104, hg, hf⟩ := o1_s hf
    refine Ct.callV (ws' := wV g v0 u0 u1 u2 u3 k0 k1 k2 k3 h0 h1 h2 h3 s0 s1 s2 s3 c0 c1 c2 p0 r0 t0 t1 t2 t3 z0 f0 ea R N B S C P Q K X fd tl ik) (As := []) (rest := []) (st1 := [.int x104]) (c_X2_isMissing l g (ea 3) (ea 7) (X 3) hg) (cwV 0 hts gX6_write_X2_isMissing rfl rfl rfl q_X2_isMissing ⟨Nat.le_of_ble_eq_true rfl, Nat.le_of_ble_eq_true rfl⟩) ⟨hx, hb, hml, hown, hts⟩ hE hP hD hS hA [33, 34] rfl rfl rfl rfl 2 33 rfl rfl rfl rfl hl.1 rfl rfl (Nat.le_of_ble_eq_true rfl) dX6_write_21 (fun H locs hP hD hS => ?_)
    refine lv_if_eq (tgt := 34) hx hb dX6_write_24 (by decide) (fun hc => ?_) (fun hc => ?_)
    · have hf := if_t hf hc
      refine lv_iload_n hx hb dX6_write_34 rfl (lv_at hl 3 rfl) ?_
      refine lv_iconst (v := (0 : Int32)) hx hb dX6_write_35 (by decide) ?_
      refine lv_aload hx hb dX6_write_36 (lv_at hl 0 rfl) ?_
      refine va_getN (D := g.1) (ci := 2) (v := .int ((X 3).2.2)) (C := RX2) (T := TX2) (N := 3) hx hb hts i_X6_write_X2 hown hE.1 hP 33 rfl rfl 2 (by decide) (va_Nw.use rfl (hE.2.1 _ (List.mem_of_getElem? (i := 20) rfl))) (fun _ h9 => h9) rfl dX6_write_38 ?_
      refine lv_iconst (v := (1 : Int32)) hx hb dX6_write_41 (by decide) ?_
      refine lv_isub hx hb dX6_write_42 ?_
      obtain ⟨x105, hg, hf⟩ := o1_s hf
      refine Ct.callS (ws' := wV g v0 u0 u1 u2 u3 k0 k1 k2 k3 h0 h1 h2 h3 s0 s1 s2 s3 c0 c1 c2 p0 r0 t0 t1 t2 t3 z0 f0 ea R N B S C P Q K X fd tl ik) (As := [.int a2, .int (0 : Int32), .int ((X 3).2.2 - (1 : Int32))]) (rest := []) (st1 := [.int x105]) (c_X6_isWithin l g a2 (0 : Int32) ((X 3).2.2 - (1 : Int32)) hg) (va_cwS 3 hts gX6_write_X6_isWithin rfl rfl rfl q_X6_isWithin.2 ⟨Nat.le_of_ble_eq_true rfl, Nat.le_of_ble_eq_true rfl⟩) ⟨hx, hb, hml, hown, hts⟩ hE hP hD hS hA [] rfl rfl rfl rfl rfl hl.1 rfl rfl (Nat.le_of_ble_eq_true rfl) dX6_write_43 (fun H locs hP hD hS => ?_)
      refine lv_if_ne (tgt := 56) hx hb dX6_write_46 (by decide) (fun hc => ?_) (fun hc => ?_)
      · have hf := if_f hf hc
        refine lv_aload hx hb dX6_write_56 (lv_at hl 0 rfl) ?_
        refine lv_iload_n hx hb dX6_write_58 rfl (lv_at hl 3 rfl) ?_
        refine lv_iload_n hx hb dX6_write_59 rfl (lv_at hl 4 rfl) ?_
        obtain ⟨E106, hg, hf⟩ := o1_s hf
        refine Ct.callV (ws' := wV g v0 u0 u1 u2 u3 k0 k1 k2 k3 h0 h1 h2 h3 s0 s1 s2 s3 c0 c1 c2 p0 r0 t0 t1 t2 t3 z0 f0 ea R N B S C P Q K (upS X 3 E106) fd tl ik) (As := [.int a2, .int a3]) (rest := []) (st1 := []) (c_X2_putLowest l g (ea 3) (ea 7) (X 3) a2 a3 hg) (cwV 2 hts gX6_write_X2_putLowest rfl rfl rfl q_X2_putLowest ⟨Nat.le_of_ble_eq_true rfl, Nat.le_of_ble_eq_true rfl⟩) ⟨hx, hb, hml, hown, hts⟩ hE hP hD hS hA [33, 34] rfl rfl rfl rfl 2 33 rfl rfl rfl rfl hl.1 rfl rfl (Nat.le_of_ble_eq_true rfl) dX6_write_60 (fun H locs hP hD hS => ?_)
        refine lv_iconst (v := (1 : Int32)) hx hb dX6_write_63 (by decide) ?_
        obtain ⟨rfl, rfl, rfl⟩ := some_p3 hf
        rw [hQ]; exact Ct.iret hx hb hr hlocks hAe hP hD hS dX6_write_64
      · have hf := if_t hf hc
        refine lv_aload_n hx hb dX6_write_49 rfl (lv_at hl 1 rfl) ?_
        refine lv_ldc hx hb hown w1 dX6_write_50 ?_
        obtain ⟨x107, fd108, hg, hf⟩ := o2_s hf
        refine Ct.callV0 (ws' := wV g v0 u0 u1 u2 u3 k0 k1 k2 k3 h0 h1 h2 h3 s0 s1 s2 s3 c0 c1 c2 p0 r0 t0 t1 t2 t3 z0 f0 ea R N B S C P Q K X fd108 tl ik) (As := [.int (-1000001 : Int32)]) (rest := []) (st1 := [.int x107]) (c_X6_finding l g v0 u0 u1 u2 u3 k0 k1 k2 k3 h0 h1 h2 h3 s0 s1 s2 s3 c0 c1 c2 p0 r0 t0 t1 t2 t3 z0 f0 ea R N B S C P Q K X fd tl ik (-1000001 : Int32) hg) (cwV 1 hts gX6_write_X6_finding rfl rfl rfl q_X6_finding ⟨Nat.le_of_ble_eq_true rfl, Nat.le_of_ble_eq_true rfl⟩) ⟨hx, hb, hml, hown, hts⟩ hE hP hD hS hA 6 0 rfl rfl rfl rfl hl.1 rfl rfl (Nat.le_of_ble_eq_true rfl) dX6_write_52 (fun H locs hP hD hS => ?_)
        obtain ⟨rfl, rfl, rfl⟩ := some_p3 hf
        rw [hQ]; exact Ct.iret hx hb hr hlocks hAe hP hD hS dX6_write_55
    · have hf := if_f hf hc
      refine lv_aload_n hx hb dX6_write_27 rfl (lv_at hl 1 rfl) ?_
      refine lv_ldc hx hb hown w2 dX6_write_28 ?_
      obtain ⟨x109, fd110, hg, hf⟩ := o2_s hf
      refine Ct.callV0 (ws' := wV g v0 u0 u1 u2 u3 k0 k1 k2 k3 h0 h1 h2 h3 s0 s1 s2 s3 c0 c1 c2 p0 r0 t0 t1 t2 t3 z0 f0 ea R N B S C P Q K X fd110 tl ik) (As := [.int (-1000006 : Int32)]) (rest := []) (st1 := [.int x109]) (c_X6_finding l g v0 u0 u1 u2 u3 k0 k1 k2 k3 h0 h1 h2 h3 s0 s1 s2 s3 c0 c1 c2 p0 r0 t0 t1 t2 t3 z0 f0 ea R N B S C P Q K X fd tl ik (-1000006 : Int32) hg) (cwV 1 hts gX6_write_X6_finding rfl rfl rfl q_X6_finding ⟨Nat.le_of_ble_eq_true rfl, Nat.le_of_ble_eq_true rfl⟩) ⟨hx, hb, hml, hown, hts⟩ hE hP hD hS hA 6 0 rfl rfl rfl rfl hl.1 rfl rfl (Nat.le_of_ble_eq_true rfl) dX6_write_30 (fun H locs hP hD hS => ?_)
      obtain ⟨rfl, rfl, rfl⟩ := some_p3 hf
      rw [hQ]; exact Ct.iret hx hb hr hlocks hAe hP hD hS dX6_write_33
def fX6_copy (X : F4) (fd : Nat → Int32) (a1 : Int32) (a2 : Int32) (a3 : Int32) (a4 : Int32) (a5 : Int32) : Option (Int32 × F4 × (Nat → Int32)) := sh a1 (fun k106 => sh a3 (fun k109 => o1 (fX2_isMissing (X k106)) (fun x110 => if x110 = 0 then (o1 (fX2_isMissing (X k109)) (fun x113 => if x113 = 0 then (if (X k106).2.1 = (X k109).2.1 then (o1 (fX2_hasRange (X k106) a2 a5) (fun x114 => if x114 = 0 then (o2 (fX6_finding fd (-1000001 : Int32)) (fun x115 fd116 => some (x115, X, fd116))) else (o1 (fX2_hasRange (X k109) a4 a5) (fun x117 => if x117 = 0 then (o2 (fX6_finding fd (-1000001 : Int32)) (fun x119 fd120 => some (x119, X, fd120))) else (cp ((X k106).1) ((X k109).1) 40 40 a2 a4 a5 (fun f118 => some (a5, (upS X k109 (f118, (X k109).2.1, (X k109).2.2)), fd))))))) else (o2 (fX6_finding fd (-1000003 : Int32)) (fun x121 fd122 => some (x121, X, fd122)))) else (o2 (fX6_finding fd (-1000006 : Int32)) (fun x123 fd124 => some (x123, X, fd124))))) else (o2 (fX6_finding fd (-1000006 : Int32)) (fun x111 fd112 => some (x111, X, fd112))))) (o2 (fX6_finding fd (-1000001 : Int32)) (fun x107 fd108 => some (x107, X, fd108)))) (sh a3 (fun k103 => o2 (fX6_finding fd (-1000001 : Int32)) (fun x104 fd105 => some (x104, X, fd105))) (o2 (fX6_finding fd (-1000001 : Int32)) (fun x101 fd102 => some (x101, X, fd102))))
theorem q_X6_copy : yX6_copy.cls = RX6 ∧ yX6_copy.cls ≠ "java/lang/invoke/MethodHandle" ∧ yX6_copy.cls ≠ "java/lang/invoke/VarHandle" ∧ (parseMethodDescriptor yX6_copy.desc).map (fun d => d.parameters.length) = some 5 := by decide +kernel
theorem i_X6_copy_X2 : ∀ w ∈ u_ws RX2 TX2 3, w ∈ wsX6_copy := fun _ h => List.mem_cons_of_mem _ (List.mem_append_left _ (List.mem_append_right _ (h)))
set_option maxHeartbeats 4000000 in
set_option maxRecDepth 100000 in
theorem c_X6_copy (l : Launch) (g : gG) (v0 u0 u1 u2 u3 k0 k1 k2 k3 h0 h1 h2 h3 s0 s1 s2 s3 c0 c1 c2 p0 r0 t0 t1 t2 t3 z0 f0 : Nat) (ea : Nat → Nat) (R : Rf) (N : Rf) (B : Rf) (S : Sv) (C : Ca) (P : Nat → Int32) (Q : Tr) (K : Tk) (X : F4) (fd : Nat → Int32) (tl : Int32) (ik : Int32) (a1 : Int32) (a2 : Int32) (a3 : Int32) (a4 : Int32) (a5 : Int32) {r : Int32} {X' : F4} {fd' : Nat → Int32} (hf : fX6_copy X fd a1 a2 a3 a4 a5 = some (r, X', fd')) : Ct l yX6_copy wsX6_copy (rmm 2 63) g (wV g v0 u0 u1 u2 u3 k0 k1 k2 k3 h0 h1 h2 h3 s0 s1 s2 s3 c0 c1 c2 p0 r0 t0 t1 t2 t3 z0 f0 ea R N B S C P Q K X fd tl ik) (wV g v0 u0 u1 u2 u3 k0 k1 k2 k3 h0 h1 h2 h3 s0 s1 s2 s3 c0 c1 c2 p0 r0 t0 t1 t2 t3 z0 f0 ea R N B S C P Q K (X') (fd') tl ik) [.ref v0, .int a1, .int a2, .int a3, .int a4, .int a5] (some (.int r)) := by
  refine Ct.mk (by decide) rfl (Nat.le_of_ble_eq_true rfl) ?_
  intro p e s m args below meth c A ls hx hb hr hml hts hown hlocks hA hE hP hD hS hl hAe
  obtain ⟨Qx, hQ⟩ : ∃ Qx : State → Prop, Qx = MQ below (QcG g (wV g v0 u0 u1 u2 u3 k0 k1 k2 k3 h0 h1 h2 h3 s0 s1 s2 s3 c0 c1 c2 p0 r0 t0 t1 t2 t3 z0 f0 ea R N B S C P Q K X fd tl ik) (wV g v0 u0 u1 u2 u3 k0 k1 k2 k3 h0 h1 h2 h3 s0 s1 s2 s3 c0 c1 c2 p0 r0 t0 t1 t2 t3 z0 f0 ea R N B S C P Q K (X') (fd') tl ik) (some (.int r)) s.heap.size) args s 0 0 A := ⟨_, rfl⟩
  rw [← hQ]
  have hown : s.vm.findClass RX6 = some m.cls := hown
  have hl : lv_has ls 8 [(0, .ref v0), (1, .int a1), (2, .int a2), (3, .int a3), (4, .int a4), (5, .int a5)] := hl
  have w1 := hts (.constant RX6 73 (-1000001)) (List.mem_of_getElem? (i := 1) rfl)
  have w2 := hts (.constant RX6 221 (-1000006)) (List.mem_of_getElem? (i := 2) rfl)
  have w3 := hts (.methodLink RX6 252 arraycopyName) (List.mem_of_getElem? (i := 4) rfl)
  have w4 := hts (.native arraycopyName) (List.mem_of_getElem? (i := 5) rfl)
  have w5 := hts (.static arraycopyName) (List.mem_of_getElem? (i := 6) rfl)
  have w6 := hts (.initialized "java/lang/System") (List.mem_of_getElem? (i := 7) rfl)
  have w7 := hts (.constant RX6 225 (-1000003)) (List.mem_of_getElem? (i := 3) rfl)
  unfold fX6_copy at hf
  refine lv_aload_n hx hb dX6_copy_0 rfl (lv_at hl 0 rfl) ?_
  refine lv_iload_n hx hb dX6_copy_1 rfl (lv_at hl 1 rfl) ?_
  rcases sh_s hf with ⟨hs, hf⟩ | ⟨hs, hf⟩ | ⟨hs, hf⟩ | ⟨hs, hf⟩ | ⟨hs, hf⟩
  · refine Ct.callV0 (ws' := wV g v0 u0 u1 u2 u3 k0 k1 k2 k3 h0 h1 h2 h3 s0 s1 s2 s3 c0 c1 c2 p0 r0 t0 t1 t2 t3 z0 f0 ea R N B S C P Q K X fd tl ik) (As := [.int a1]) (rest := []) (st1 := [.null]) (c_X6_sheetAt_null l g v0 u0 u1 u2 u3 k0 k1 k2 k3 h0 h1 h2 h3 s0 s1 s2 s3 c0 c1 c2 p0 r0 t0 t1 t2 t3 z0 f0 ea R N B S C P Q K X fd tl ik a1 hs) (cwV 1 hts gX6_copy_X6_sheetAt rfl rfl rfl q_X6_sheetAt ⟨Nat.le_of_ble_eq_true rfl, Nat.le_of_ble_eq_true rfl⟩) ⟨hx, hb, hml, hown, hts⟩ hE hP hD hS hA 6 0 rfl rfl rfl rfl hl.1 rfl rfl (Nat.le_of_ble_eq_true rfl) dX6_copy_2 (fun H locs hP hD hS => ?_)
    refine lv_astoreN (lv' := [(6, .null), (0, .ref v0), (1, .int a1), (2, .int a2), (3, .int a3), (4, .int a4), (5, .int a5)]) hx hb dX6_copy_5 hl (by decide) rfl (fun ls hl => ?_)
    refine lv_aload_n hx hb dX6_copy_7 rfl (lv_at hl 1 rfl) ?_
    refine lv_iload_n hx hb dX6_copy_8 rfl (lv_at hl 4 rfl) ?_
    rcases sh_s hf with ⟨hs, hf⟩ | ⟨hs, hf⟩ | ⟨hs, hf⟩ | ⟨hs, hf⟩ | ⟨hs, hf⟩
    · refine Ct.callV0 (ws' := wV g v0 u0 u1 u2 u3 k0 k1 k2 k3 h0 h1 h2 h3 s0 s1 s2 s3 c0 c1 c2 p0 r0 t0 t1 t2 t3 z0 f0 ea R N B S C P Q K X fd tl ik) (As := [.int a3]) (rest := []) (st1 := [.null]) (c_X6_sheetAt_null l g v0 u0 u1 u2 u3 k0 k1 k2 k3 h0 h1 h2 h3 s0 s1 s2 s3 c0 c1 c2 p0 r0 t0 t1 t2 t3 z0 f0 ea R N B S C P Q K X fd tl ik a3 hs) (cwV 1 hts gX6_copy_X6_sheetAt rfl rfl rfl q_X6_sheetAt ⟨Nat.le_of_ble_eq_true rfl, Nat.le_of_ble_eq_true rfl⟩) ⟨hx, hb, hml, hown, hts⟩ hE hP hD hS hA 6 0 rfl rfl rfl rfl hl.1 rfl rfl (Nat.le_of_ble_eq_true rfl) dX6_copy_9 (fun H locs hP hD hS => ?_)
      refine lv_astoreN (lv' := [(7, .null), (6, .null), (0, .ref v0), (1, .int a1), (2, .int a2), (3, .int a3), (4, .int a4), (5, .int a5)]) hx hb dX6_copy_12 hl (by decide) rfl (fun ls hl => ?_)
      refine lv_aloadN hx hb dX6_copy_14 (lv_at hl 1 rfl) ?_
      refine lv_ifnullN (tgt := 24) hx hb dX6_copy_16 (by decide) ?_
      refine lv_aload_n hx hb dX6_copy_24 rfl (lv_at hl 2 rfl) ?_
      refine lv_ldc hx hb hown w1 dX6_copy_25 ?_
      obtain ⟨x101, fd102, hg, hf⟩ := o2_s hf
      refine Ct.callV0 (ws' := wV g v0 u0 u1 u2 u3 k0 k1 k2 k3 h0 h1 h2 h3 s0 s1 s2 s3 c0 c1 c2 p0 r0 t0 t1 t2 t3 z0 f0 ea R N B S C P Q K X fd102 tl ik) (As := [.int (-1000001 : Int32)]) (rest := []) (st1 := [.int x101]) (c_X6_finding l g v0 u0 u1 u2 u3 k0 k1 k2 k3 h0 h1 h2 h3 s0 s1 s2 s3 c0 c1 c2 p0 r0 t0 t1 t2 t3 z0 f0 ea R N B S C P Q K X fd tl ik (-1000001 : Int32) hg) (cwV 1 hts gX6_copy_X6_finding rfl rfl rfl q_X6_finding ⟨Nat.le_of_ble_eq_true rfl, Nat.le_of_ble_eq_true rfl⟩) ⟨hx, hb, hml, hown, hts⟩ hE hP hD hS hA 6 0 rfl rfl rfl rfl hl.1 rfl rfl (Nat.le_of_ble_eq_true rfl) dX6_copy_27 (fun H locs hP hD hS => ?_)
      obtain ⟨rfl, rfl, rfl⟩ := some_p3 hf
      rw [hQ]; exact Ct.iret hx hb hr hlocks hAe hP hD hS dX6_copy_30
    · refine Ct.callV0 (ws' := wV g v0 u0 u1 u2 u3 k0 k1 k2 k3 h0 h1 h2 h3 s0 s1 s2 s3 c0 c1 c2 p0 r0 t0 t1 t2 t3 z0 f0 ea R N B S C P Q K X fd tl ik) (As := [.int a3]) (rest := []) (st1 := [.ref (ea 0)]) (c_X6_sheetAt l g v0 u0 u1 u2 u3 k0 k1 k2 k3 h0 h1 h2 h3 s0 s1 s2 s3 c0 c1 c2 p0 r0 t0 t1 t2 t3 z0 f0 ea R N B S C P Q K X fd tl ik 0 (by decide) a3 hs) (cwV 1 hts gX6_copy_X6_sheetAt rfl rfl rfl q_X6_sheetAt ⟨Nat.le_of_ble_eq_true rfl, Nat.le_of_ble_eq_true rfl⟩) ⟨hx, hb, hml, hown, hts⟩ hE hP hD hS hA 6 0 rfl rfl rfl rfl hl.1 rfl rfl (Nat.le_of_ble_eq_true rfl) dX6_copy_9 (fun H locs hP hD hS => ?_)
      refine lv_astore (lv' := [(7, .ref (ea 0)), (6, .null), (0, .ref v0), (1, .int a1), (2, .int a2), (3, .int a3), (4, .int a4), (5, .int a5)]) hx hb dX6_copy_12 hl (by decide) rfl (fun ls hl => ?_)
      refine lv_aloadN hx hb dX6_copy_14 (lv_at hl 1 rfl) ?_
      refine lv_ifnullN (tgt := 24) hx hb dX6_copy_16 (by decide) ?_
      refine lv_aload_n hx hb dX6_copy_24 rfl (lv_at hl 2 rfl) ?_
      refine lv_ldc hx hb hown w1 dX6_copy_25 ?_
      obtain ⟨x104, fd105, hg, hf⟩ := o2_s hf
      refine Ct.callV0 (ws' := wV g v0 u0 u1 u2 u3 k0 k1 k2 k3 h0 h1 h2 h3 s0 s1 s2 s3 c0 c1 c2 p0 r0 t0 t1 t2 t3 z0 f0 ea R N B S C P Q K X fd105 tl ik) (As := [.int (-1000001 : Int32)]) (rest := []) (st1 := [.int x104]) (c_X6_finding l g v0 u0 u1 u2 u3 k0 k1 k2 k3 h0 h1 h2 h3 s0 s1 s2 s3 c0 c1 c2 p0 r0 t0 t1 t2 t3 z0 f0 ea R N B S C P Q K X fd tl ik (-1000001 : Int32) hg) (cwV 1 hts gX6_copy_X6_finding rfl rfl rfl q_X6_finding ⟨Nat.le_of_ble_eq_true rfl, Nat.le_of_ble_eq_true rfl⟩) ⟨hx, hb, hml, hown, hts⟩ hE hP hD hS hA 6 0 rfl rfl rfl rfl hl.1 rfl rfl (Nat.le_of_ble_eq_true rfl) dX6_copy_27 (fun H locs hP hD hS => ?_)
      obtain ⟨rfl, rfl, rfl⟩ := some_p3 hf
      rw [hQ]; exact Ct.iret hx hb hr hlocks hAe hP hD hS dX6_copy_30
    · refine Ct.callV0 (ws' := wV g v0 u0 u1 u2 u3 k0 k1 k2 k3 h0 h1 h2 h3 s0 s1 s2 s3 c0 c1 c2 p0 r0 t0 t1 t2 t3 z0 f0 ea R N B S C P Q K X fd tl ik) (As := [.int a3]) (rest := []) (st1 := [.ref (ea 1)]) (c_X6_sheetAt l g v0 u0 u1 u2 u3 k0 k1 k2 k3 h0 h1 h2 h3 s0 s1 s2 s3 c0 c1 c2 p0 r0 t0 t1 t2 t3 z0 f0 ea R N B S C P Q K X fd tl ik 1 (by decide) a3 hs) (cwV 1 hts gX6_copy_X6_sheetAt rfl rfl rfl q_X6_sheetAt ⟨Nat.le_of_ble_eq_true rfl, Nat.le_of_ble_eq_true rfl⟩) ⟨hx, hb, hml, hown, hts⟩ hE hP hD hS hA 6 0 rfl rfl rfl rfl hl.1 rfl rfl (Nat.le_of_ble_eq_true rfl) dX6_copy_9 (fun H locs hP hD hS => ?_)
      refine lv_astore (lv' := [(7, .ref (ea 1)), (6, .null), (0, .ref v0), (1, .int a1), (2, .int a2), (3, .int a3), (4, .int a4), (5, .int a5)]) hx hb dX6_copy_12 hl (by decide) rfl (fun ls hl => ?_)
      refine lv_aloadN hx hb dX6_copy_14 (lv_at hl 1 rfl) ?_
      refine lv_ifnullN (tgt := 24) hx hb dX6_copy_16 (by decide) ?_
      refine lv_aload_n hx hb dX6_copy_24 rfl (lv_at hl 2 rfl) ?_
      refine lv_ldc hx hb hown w1 dX6_copy_25 ?_
      obtain ⟨x104, fd105, hg, hf⟩ := o2_s hf
      refine Ct.callV0 (ws' := wV g v0 u0 u1 u2 u3 k0 k1 k2 k3 h0 h1 h2 h3 s0 s1 s2 s3 c0 c1 c2 p0 r0 t0 t1 t2 t3 z0 f0 ea R N B S C P Q K X fd105 tl ik) (As := [.int (-1000001 : Int32)]) (rest := []) (st1 := [.int x104]) (c_X6_finding l g v0 u0 u1 u2 u3 k0 k1 k2 k3 h0 h1 h2 h3 s0 s1 s2 s3 c0 c1 c2 p0 r0 t0 t1 t2 t3 z0 f0 ea R N B S C P Q K X fd tl ik (-1000001 : Int32) hg) (cwV 1 hts gX6_copy_X6_finding rfl rfl rfl q_X6_finding ⟨Nat.le_of_ble_eq_true rfl, Nat.le_of_ble_eq_true rfl⟩) ⟨hx, hb, hml, hown, hts⟩ hE hP hD hS hA 6 0 rfl rfl rfl rfl hl.1 rfl rfl (Nat.le_of_ble_eq_true rfl) dX6_copy_27 (fun H locs hP hD hS => ?_)
      obtain ⟨rfl, rfl, rfl⟩ := some_p3 hf
      rw [hQ]; exact Ct.iret hx hb hr hlocks hAe hP hD hS dX6_copy_30
    · refine Ct.callV0 (ws' := wV g v0 u0 u1 u2 u3 k0 k1 k2 k3 h0 h1 h2 h3 s0 s1 s2 s3 c0 c1 c2 p0 r0 t0 t1 t2 t3 z0 f0 ea R N B S C P Q K X fd tl ik) (As := [.int a3]) (rest := []) (st1 := [.ref (ea 2)]) (c_X6_sheetAt l g v0 u0 u1 u2 u3 k0 k1 k2 k3 h0 h1 h2 h3 s0 s1 s2 s3 c0 c1 c2 p0 r0 t0 t1 t2 t3 z0 f0 ea R N B S C P Q K X fd tl ik 2 (by decide) a3 hs) (cwV 1 hts gX6_copy_X6_sheetAt rfl rfl rfl q_X6_sheetAt ⟨Nat.le_of_ble_eq_true rfl, Nat.le_of_ble_eq_true rfl⟩) ⟨hx, hb, hml, hown, hts⟩ hE hP hD hS hA 6 0 rfl rfl rfl rfl hl.1 rfl rfl (Nat.le_of_ble_eq_true rfl) dX6_copy_9 (fun H locs hP hD hS => ?_)
      refine lv_astore (lv' := [(7, .ref (ea 2)), (6, .null), (0, .ref v0), (1, .int a1), (2, .int a2), (3, .int a3), (4, .int a4), (5, .int a5)]) hx hb dX6_copy_12 hl (by decide) rfl (fun ls hl => ?_)
      refine lv_aloadN hx hb dX6_copy_14 (lv_at hl 1 rfl) ?_
      refine lv_ifnullN (tgt := 24) hx hb dX6_copy_16 (by decide) ?_
      refine lv_aload_n hx hb dX6_copy_24 rfl (lv_at hl 2 rfl) ?_
      refine lv_ldc hx hb hown w1 dX6_copy_25 ?_
      obtain ⟨x104, fd105, hg, hf⟩ := o2_s hf
      refine Ct.callV0 (ws' := wV g v0 u0 u1 u2 u3 k0 k1 k2 k3 h0 h1 h2 h3 s0 s1 s2 s3 c0 c1 c2 p0 r0 t0 t1 t2 t3 z0 f0 ea R N B S C P Q K X fd105 tl ik) (As := [.int (-1000001 : Int32)]) (rest := []) (st1 := [.int x104]) (c_X6_finding l g v0 u0 u1 u2 u3 k0 k1 k2 k3 h0 h1 h2 h3 s0 s1 s2 s3 c0 c1 c2 p0 r0 t0 t1 t2 t3 z0 f0 ea R N B S C P Q K X fd tl ik (-1000001 : Int32) hg) (cwV 1 hts gX6_copy_X6_finding rfl rfl rfl q_X6_finding ⟨Nat.le_of_ble_eq_true rfl, Nat.le_of_ble_eq_true rfl⟩) ⟨hx, hb, hml, hown, hts⟩ hE hP hD hS hA 6 0 rfl rfl rfl rfl hl.1 rfl rfl (Nat.le_of_ble_eq_true rfl) dX6_copy_27 (fun H locs hP hD hS => ?_)
      obtain ⟨rfl, rfl, rfl⟩ := some_p3 hf
      rw [hQ]; exact Ct.iret hx hb hr hlocks hAe hP hD hS dX6_copy_30
    · refine Ct.callV0 (ws' := wV g v0 u0 u1 u2 u3 k0 k1 k2 k3 h0 h1 h2 h3 s0 s1 s2 s3 c0 c1 c2 p0 r0 t0 t1 t2 t3 z0 f0 ea R N B S C P Q K X fd tl ik) (As := [.int a3]) (rest := []) (st1 := [.ref (ea 3)]) (c_X6_sheetAt l g v0 u0 u1 u2 u3 k0 k1 k2 k3 h0 h1 h2 h3 s0 s1 s2 s3 c0 c1 c2 p0 r0 t0 t1 t2 t3 z0 f0 ea R N B S C P Q K X fd tl ik 3 (by decide) a3 hs) (cwV 1 hts gX6_copy_X6_sheetAt rfl rfl rfl q_X6_sheetAt ⟨Nat.le_of_ble_eq_true rfl, Nat.le_of_ble_eq_true rfl⟩) ⟨hx, hb, hml, hown, hts⟩ hE hP hD hS hA 6 0 rfl rfl rfl rfl hl.1 rfl rfl (Nat.le_of_ble_eq_true rfl) dX6_copy_9 (fun H locs hP hD hS => ?_)
      refine lv_astore (lv' := [(7, .ref (ea 3)), (6, .null), (0, .ref v0), (1, .int a1), (2, .int a2), (3, .int a3), (4, .int a4), (5, .int a5)]) hx hb dX6_copy_12 hl (by decide) rfl (fun ls hl => ?_)
      refine lv_aloadN hx hb dX6_copy_14 (lv_at hl 1 rfl) ?_
      refine lv_ifnullN (tgt := 24) hx hb dX6_copy_16 (by decide) ?_
      refine lv_aload_n hx hb dX6_copy_24 rfl (lv_at hl 2 rfl) ?_
      refine lv_ldc hx hb hown w1 dX6_copy_25 ?_
      obtain ⟨x104, fd105, hg, hf⟩ := o2_s hf
      refine Ct.callV0 (ws' := wV g v0 u0 u1 u2 u3 k0 k1 k2 k3 h0 h1 h2 h3 s0 s1 s2 s3 c0 c1 c2 p0 r0 t0 t1 t2 t3 z0 f0 ea R N B S C P Q K X fd105 tl ik) (As := [.int (-1000001 : Int32)]) (rest := []) (st1 := [.int x104]) (c_X6_finding l g v0 u0 u1 u2 u3 k0 k1 k2 k3 h0 h1 h2 h3 s0 s1 s2 s3 c0 c1 c2 p0 r0 t0 t1 t2 t3 z0 f0 ea R N B S C P Q K X fd tl ik (-1000001 : Int32) hg) (cwV 1 hts gX6_copy_X6_finding rfl rfl rfl q_X6_finding ⟨Nat.le_of_ble_eq_true rfl, Nat.le_of_ble_eq_true rfl⟩) ⟨hx, hb, hml, hown, hts⟩ hE hP hD hS hA 6 0 rfl rfl rfl rfl hl.1 rfl rfl (Nat.le_of_ble_eq_true rfl) dX6_copy_27 (fun H locs hP hD hS => ?_)
      obtain ⟨rfl, rfl, rfl⟩ := some_p3 hf
      rw [hQ]; exact Ct.iret hx hb hr hlocks hAe hP hD hS dX6_copy_30
  · refine Ct.callV0 (ws' := wV g v0 u0 u1 u2 u3 k0 k1 k2 k3 h0 h1 h2 h3 s0 s1 s2 s3 c0 c1 c2 p0 r0 t0 t1 t2 t3 z0 f0 ea R N B S C P Q K X fd tl ik) (As := [.int a1]) (rest := []) (st1 := [.ref (ea 0)]) (c_X6_sheetAt l g v0 u0 u1 u2 u3 k0 k1 k2 k3 h0 h1 h2 h3 s0 s1 s2 s3 c0 c1 c2 p0 r0 t0 t1 t2 t3 z0 f0 ea R N B S C P Q K X fd tl ik 0 (by decide) a1 hs) (cwV 1 hts gX6_copy_X6_sheetAt rfl rfl rfl q_X6_sheetAt ⟨Nat.le_of_ble_eq_true rfl, Nat.le_of_ble_eq_true rfl⟩) ⟨hx, hb, hml, hown, hts⟩ hE hP hD hS hA 6 0 rfl rfl rfl rfl hl.1 rfl rfl (Nat.le_of_ble_eq_true rfl) dX6_copy_2 (fun H locs hP hD hS => ?_)
    refine lv_astore (lv' := [(6, .ref (ea 0)), (0, .ref v0), (1, .int a1), (2, .int a2), (3, .int a3), (4, .int a4), (5, .int a5)]) hx hb dX6_copy_5 hl (by decide) rfl (fun ls hl => ?_)
    refine lv_aload_n hx hb dX6_copy_7 rfl (lv_at hl 1 rfl) ?_
    refine lv_iload_n hx hb dX6_copy_8 rfl (lv_at hl 4 rfl) ?_
    rcases sh_s hf with ⟨hs, hf⟩ | ⟨hs, hf⟩ | ⟨hs, hf⟩ | ⟨hs, hf⟩ | ⟨hs, hf⟩
    · refine Ct.callV0 (ws' := wV g v0 u0 u1 u2 u3 k0 k1 k2 k3 h0 h1 h2 h3 s0 s1 s2 s3 c0 c1 c2 p0 r0 t0 t1 t2 t3 z0 f0 ea R N B S C P Q K X fd tl ik) (As := [.int a3]) (rest := []) (st1 := [.null]) (c_X6_sheetAt_null l g v0 u0 u1 u2 u3 k0 k1 k2 k3 h0 h1 h2 h3 s0 s1 s2 s3 c0 c1 c2 p0 r0 t0 t1 t2 t3 z0 f0 ea R N B S C P Q K X fd tl ik a3 hs) (cwV 1 hts gX6_copy_X6_sheetAt rfl rfl rfl q_X6_sheetAt ⟨Nat.le_of_ble_eq_true rfl, Nat.le_of_ble_eq_true rfl⟩) ⟨hx, hb, hml, hown, hts⟩ hE hP hD hS hA 6 0 rfl rfl rfl rfl hl.1 rfl rfl (Nat.le_of_ble_eq_true rfl) dX6_copy_9 (fun H locs hP hD hS => ?_)
      refine lv_astoreN (lv' := [(7, .null), (6, .ref (ea 0)), (0, .ref v0), (1, .int a1), (2, .int a2), (3, .int a3), (4, .int a4), (5, .int a5)]) hx hb dX6_copy_12 hl (by decide) rfl (fun ls hl => ?_)
      refine lv_aload hx hb dX6_copy_14 (lv_at hl 1 rfl) ?_
      refine lv_ifnull hx hb dX6_copy_16 ?_
      refine lv_aloadN hx hb dX6_copy_19 (lv_at hl 0 rfl) ?_
      refine lv_ifnonnullN hx hb dX6_copy_21 ?_
      refine lv_aload_n hx hb dX6_copy_24 rfl (lv_at hl 2 rfl) ?_
      refine lv_ldc hx hb hown w1 dX6_copy_25 ?_
      obtain ⟨x107, fd108, hg, hf⟩ := o2_s hf
      refine Ct.callV0 (ws' := wV g v0 u0 u1 u2 u3 k0 k1 k2 k3 h0 h1 h2 h3 s0 s1 s2 s3 c0 c1 c2 p0 r0 t0 t1 t2 t3 z0 f0 ea R N B S C P Q K X fd108 tl ik) (As := [.int (-1000001 : Int32)]) (rest := []) (st1 := [.int x107]) (c_X6_finding l g v0 u0 u1 u2 u3 k0 k1 k2 k3 h0 h1 h2 h3 s0 s1 s2 s3 c0 c1 c2 p0 r0 t0 t1 t2 t3 z0 f0 ea R N B S C P Q K X fd tl ik (-1000001 : Int32) hg) (cwV 1 hts gX6_copy_X6_finding rfl rfl rfl q_X6_finding ⟨Nat.le_of_ble_eq_true rfl, Nat.le_of_ble_eq_true rfl⟩) ⟨hx, hb, hml, hown, hts⟩ hE hP hD hS hA 6 0 rfl rfl rfl rfl hl.1 rfl rfl (Nat.le_of_ble_eq_true rfl) dX6_copy_27 (fun H locs hP hD hS => ?_)
      obtain ⟨rfl, rfl, rfl⟩ := some_p3 hf
      rw [hQ]; exact Ct.iret hx hb hr hlocks hAe hP hD hS dX6_copy_30
    · refine Ct.callV0 (ws' := wV g v0 u0 u1 u2 u3 k0 k1 k2 k3 h0 h1 h2 h3 s0 s1 s2 s3 c0 c1 c2 p0 r0 t0 t1 t2 t3 z0 f0 ea R N B S C P Q K X fd tl ik) (As := [.int a3]) (rest := []) (st1 := [.ref (ea 0)]) (c_X6_sheetAt l g v0 u0 u1 u2 u3 k0 k1 k2 k3 h0 h1 h2 h3 s0 s1 s2 s3 c0 c1 c2 p0 r0 t0 t1 t2 t3 z0 f0 ea R N B S C P Q K X fd tl ik 0 (by decide) a3 hs) (cwV 1 hts gX6_copy_X6_sheetAt rfl rfl rfl q_X6_sheetAt ⟨Nat.le_of_ble_eq_true rfl, Nat.le_of_ble_eq_true rfl⟩) ⟨hx, hb, hml, hown, hts⟩ hE hP hD hS hA 6 0 rfl rfl rfl rfl hl.1 rfl rfl (Nat.le_of_ble_eq_true rfl) dX6_copy_9 (fun H locs hP hD hS => ?_)
      refine lv_astore (lv' := [(7, .ref (ea 0)), (6, .ref (ea 0)), (0, .ref v0), (1, .int a1), (2, .int a2), (3, .int a3), (4, .int a4), (5, .int a5)]) hx hb dX6_copy_12 hl (by decide) rfl (fun ls hl => ?_)
      refine lv_aload hx hb dX6_copy_14 (lv_at hl 1 rfl) ?_
      refine lv_ifnull hx hb dX6_copy_16 ?_
      refine lv_aload hx hb dX6_copy_19 (lv_at hl 0 rfl) ?_
      refine lv_ifnonnull (tgt := 31) hx hb dX6_copy_21 (by decide) ?_
      refine lv_aload hx hb dX6_copy_31 (lv_at hl 1 rfl) ?_
      obtain ⟨x110, hg, hf⟩ := o1_s hf
      refine Ct.callV (ws' := wV g v0 u0 u1 u2 u3 k0 k1 k2 k3 h0 h1 h2 h3 s0 s1 s2 s3 c0 c1 c2 p0 r0 t0 t1 t2 t3 z0 f0 ea R N B S C P Q K X fd tl ik) (As := []) (rest := []) (st1 := [.int x110]) (c_X2_isMissing l g (ea 0) (ea 4) (X 0) hg) (cwV 0 hts gX6_copy_X2_isMissing rfl rfl rfl q_X2_isMissing ⟨Nat.le_of_ble_eq_true rfl, Nat.le_of_ble_eq_true rfl⟩) ⟨hx, hb, hml, hown, hts⟩ hE hP hD hS hA [27, 28] rfl rfl rfl rfl 2 27 rfl rfl rfl rfl hl.1 rfl rfl (Nat.le_of_ble_eq_true rfl) dX6_copy_33 (fun H locs hP hD hS => ?_)
      refine lv_if_ne (tgt := 47) hx hb dX6_copy_36 (by decide) (fun hc => ?_) (fun hc => ?_)
      · have hf := if_f hf hc
        refine lv_aload_n hx hb dX6_copy_47 rfl (lv_at hl 2 rfl) ?_
        refine lv_ldc hx hb hown w2 dX6_copy_48 ?_
        obtain ⟨x111, fd112, hg, hf⟩ := o2_s hf
        refine Ct.callV0 (ws' := wV g v0 u0 u1 u2 u3 k0 k1 k2 k3 h0 h1 h2 h3 s0 s1 s2 s3 c0 c1 c2 p0 r0 t0 t1 t2 t3 z0 f0 ea R N B S C P Q K X fd112 tl ik) (As := [.int (-1000006 : Int32)]) (rest := []) (st1 := [.int x111]) (c_X6_finding l g v0 u0 u1 u2 u3 k0 k1 k2 k3 h0 h1 h2 h3 s0 s1 s2 s3 c0 c1 c2 p0 r0 t0 t1 t2 t3 z0 f0 ea R N B S C P Q K X fd tl ik (-1000006 : Int32) hg) (cwV 1 hts gX6_copy_X6_finding rfl rfl rfl q_X6_finding ⟨Nat.le_of_ble_eq_true rfl, Nat.le_of_ble_eq_true rfl⟩) ⟨hx, hb, hml, hown, hts⟩ hE hP hD hS hA 6 0 rfl rfl rfl rfl hl.1 rfl rfl (Nat.le_of_ble_eq_true rfl) dX6_copy_50 (fun H locs hP hD hS => ?_)
        obtain ⟨rfl, rfl, rfl⟩ := some_p3 hf
        rw [hQ]; exact Ct.iret hx hb hr hlocks hAe hP hD hS dX6_copy_53
      · have hf := if_t hf hc
        refine lv_aload hx hb dX6_copy_39 (lv_at hl 0 rfl) ?_
        obtain ⟨x113, hg, hf⟩ := o1_s hf
        refine Ct.callV (ws' := wV g v0 u0 u1 u2 u3 k0 k1 k2 k3 h0 h1 h2 h3 s0 s1 s2 s3 c0 c1 c2 p0 r0 t0 t1 t2 t3 z0 f0 ea R N B S C P Q K X fd tl ik) (As := []) (rest := []) (st1 := [.int x113]) (c_X2_isMissing l g (ea 0) (ea 4) (X 0) hg) (cwV 0 hts gX6_copy_X2_isMissing rfl rfl rfl q_X2_isMissing ⟨Nat.le_of_ble_eq_true rfl, Nat.le_of_ble_eq_true rfl⟩) ⟨hx, hb, hml, hown, hts⟩ hE hP hD hS hA [27, 28] rfl rfl rfl rfl 2 27 rfl rfl rfl rfl hl.1 rfl rfl (Nat.le_of_ble_eq_true rfl) dX6_copy_41 (fun H locs hP hD hS => ?_)
        refine lv_if_eq (tgt := 54) hx hb dX6_copy_44 (by decide) (fun hc => ?_) (fun hc => ?_)
        · have hf := if_t hf hc
          refine lv_aload hx hb dX6_copy_54 (lv_at hl 1 rfl) ?_
          refine va_getN (D := g.1) (ci := 2) (v := .int ((X 0).2.1)) (C := RX2) (T := TX2) (N := 3) hx hb hts i_X6_copy_X2 hown hE.1 hP 27 rfl rfl 1 (by decide) (va_Nw.use rfl (hE.2.1 _ (List.mem_of_getElem? (i := 19) rfl))) (fun _ h9 => h9) rfl dX6_copy_56 ?_
          refine lv_aload hx hb dX6_copy_59 (lv_at hl 0 rfl) ?_
          refine va_getN (D := g.1) (ci := 2) (v := .int ((X 0).2.1)) (C := RX2) (T := TX2) (N := 3) hx hb hts i_X6_copy_X2 hown hE.1 hP 27 rfl rfl 1 (by decide) (va_Nw.use rfl (hE.2.1 _ (List.mem_of_getElem? (i := 19) rfl))) (fun _ h9 => h9) rfl dX6_copy_61 ?_
          refine lv_icmp_eq (tgt := 74) hx hb dX6_copy_64 (by decide) (fun hc => ?_) (fun hc => ?_)
          · have hf := if_t hf hc
            refine lv_aload hx hb dX6_copy_74 (lv_at hl 1 rfl) ?_
            refine lv_iload_n hx hb dX6_copy_76 rfl (lv_at hl 4 rfl) ?_
            refine lv_iload hx hb dX6_copy_77 (lv_at hl 7 rfl) ?_
            obtain ⟨x114, hg, hf⟩ := o1_s hf
            refine Ct.callV (ws' := wV g v0 u0 u1 u2 u3 k0 k1 k2 k3 h0 h1 h2 h3 s0 s1 s2 s3 c0 c1 c2 p0 r0 t0 t1 t2 t3 z0 f0 ea R N B S C P Q K X fd tl ik) (As := [.int a2, .int a5]) (rest := []) (st1 := [.int x114]) (c_X2_hasRange l g (ea 0) (ea 4) (X 0) a2 a5 hg) (cwV 2 hts gX6_copy_X2_hasRange rfl rfl rfl q_X2_hasRange ⟨Nat.le_of_ble_eq_true rfl, Nat.le_of_ble_eq_true rfl⟩) ⟨hx, hb, hml, hown, hts⟩ hE hP hD hS hA [27, 28] rfl rfl rfl rfl 2 27 rfl rfl rfl rfl hl.1 rfl rfl (Nat.le_of_ble_eq_true rfl) dX6_copy_79 (fun H locs hP hD hS => ?_)
            refine lv_if_eq (tgt := 97) hx hb dX6_copy_82 (by decide) (fun hc => ?_) (fun hc => ?_)
            · have hf := if_t hf hc
              refine lv_aload_n hx hb dX6_copy_97 rfl (lv_at hl 2 rfl) ?_
              refine lv_ldc hx hb hown w1 dX6_copy_98 ?_
              obtain ⟨x115, fd116, hg, hf⟩ := o2_s hf
              refine Ct.callV0 (ws' := wV g v0 u0 u1 u2 u3 k0 k1 k2 k3 h0 h1 h2 h3 s0 s1 s2 s3 c0 c1 c2 p0 r0 t0 t1 t2 t3 z0 f0 ea R N B S C P Q K X fd116 tl ik) (As := [.int (-1000001 : Int32)]) (rest := []) (st1 := [.int x115]) (c_X6_finding l g v0 u0 u1 u2 u3 k0 k1 k2 k3 h0 h1 h2 h3 s0 s1 s2 s3 c0 c1 c2 p0 r0 t0 t1 t2 t3 z0 f0 ea R N B S C P Q K X fd tl ik (-1000001 : Int32) hg) (cwV 1 hts gX6_copy_X6_finding rfl rfl rfl q_X6_finding ⟨Nat.le_of_ble_eq_true rfl, Nat.le_of_ble_eq_true rfl⟩) ⟨hx, hb, hml, hown, hts⟩ hE hP hD hS hA 6 0 rfl rfl rfl rfl hl.1 rfl rfl (Nat.le_of_ble_eq_true rfl) dX6_copy_100 (fun H locs hP hD hS => ?_)
              obtain ⟨rfl, rfl, rfl⟩ := some_p3 hf
              rw [hQ]; exact Ct.iret hx hb hr hlocks hAe hP hD hS dX6_copy_103
            · have hf := if_f hf hc
              refine lv_aload hx hb dX6_copy_85 (lv_at hl 0 rfl) ?_
              refine lv_iload hx hb dX6_copy_87 (lv_at hl 6 rfl) ?_
              refine lv_iload hx hb dX6_copy_89 (lv_at hl 7 rfl) ?_
              obtain ⟨x117, hg, hf⟩ := o1_s hf
              refine Ct.callV (ws' := wV g v0 u0 u1 u2 u3 k0 k1 k2 k3 h0 h1 h2 h3 s0 s1 s2 s3 c0 c1 c2 p0 r0 t0 t1 t2 t3 z0 f0 ea R N B S C P Q K X fd tl ik) (As := [.int a4, .int a5]) (rest := []) (st1 := [.int x117]) (c_X2_hasRange l g (ea 0) (ea 4) (X 0) a4 a5 hg) (cwV 2 hts gX6_copy_X2_hasRange rfl rfl rfl q_X2_hasRange ⟨Nat.le_of_ble_eq_true rfl, Nat.le_of_ble_eq_true rfl⟩) ⟨hx, hb, hml, hown, hts⟩ hE hP hD hS hA [27, 28] rfl rfl rfl rfl 2 27 rfl rfl rfl rfl hl.1 rfl rfl (Nat.le_of_ble_eq_true rfl) dX6_copy_91 (fun H locs hP hD hS => ?_)
              refine lv_if_ne (tgt := 104) hx hb dX6_copy_94 (by decide) (fun hc => ?_) (fun hc => ?_)
              · have hf := if_f hf hc
                refine lv_aload hx hb dX6_copy_104 (lv_at hl 1 rfl) ?_
                refine va_getN (D := g.1) (ci := 2) (v := .ref (ea 4)) (C := RX2) (T := TX2) (N := 3) hx hb hts i_X6_copy_X2 hown hE.1 hP 27 rfl rfl 0 (by decide) (va_Nw.use rfl (hE.2.1 _ (List.mem_of_getElem? (i := 18) rfl))) (fun _ h9 => h9) rfl dX6_copy_106 ?_
                refine lv_iload_n hx hb dX6_copy_109 rfl (lv_at hl 4 rfl) ?_
                refine lv_aload hx hb dX6_copy_110 (lv_at hl 0 rfl) ?_
                refine va_getN (D := g.1) (ci := 2) (v := .ref (ea 4)) (C := RX2) (T := TX2) (N := 3) hx hb hts i_X6_copy_X2 hown hE.1 hP 27 rfl rfl 0 (by decide) (va_Nw.use rfl (hE.2.1 _ (List.mem_of_getElem? (i := 18) rfl))) (fun _ h9 => h9) rfl dX6_copy_112 ?_
                refine lv_iload hx hb dX6_copy_115 (lv_at hl 6 rfl) ?_
                refine lv_iload hx hb dX6_copy_117 (lv_at hl 7 rfl) ?_
                obtain ⟨f118, ef, hcp, hf⟩ := cp_s hf
                refine st_copy (ws' := wV g v0 u0 u1 u2 u3 k0 k1 k2 k3 h0 h1 h2 h3 s0 s1 s2 s3 c0 c1 c2 p0 r0 t0 t1 t2 t3 z0 f0 ea R N B S C P Q K (upS X 0 (f118, (X 0).2.1, (X 0).2.2)) fd tl ik) (f := ((X 0).1)) (g := ((X 0).1)) (f2 := f118) hx hb (hml.trans hl.1.symm) hown w3 w4 w5 w6 hE.1 hP hD hS 28 28 0 rfl rfl rfl ef hcp rfl (Nat.le_of_ble_eq_true rfl) (Nat.le_of_ble_eq_true rfl) dX6_copy_119 (fun H locs hP hD hS => ?_)
                refine lv_iload hx hb dX6_copy_122 (lv_at hl 7 rfl) ?_
                obtain ⟨rfl, rfl, rfl⟩ := some_p3 hf
                rw [hQ]; exact Ct.iret hx hb hr hlocks hAe hP hD hS dX6_copy_124
              · have hf := if_t hf hc
                refine lv_aload_n hx hb dX6_copy_97 rfl (lv_at hl 2 rfl) ?_
                refine lv_ldc hx hb hown w1 dX6_copy_98 ?_
                obtain ⟨x119, fd120, hg, hf⟩ := o2_s hf
                refine Ct.callV0 (ws' := wV g v0 u0 u1 u2 u3 k0 k1 k2 k3 h0 h1 h2 h3 s0 s1 s2 s3 c0 c1 c2 p0 r0 t0 t1 t2 t3 z0 f0 ea R N B S C P Q K X fd120 tl ik) (As := [.int (-1000001 : Int32)]) (rest := []) (st1 := [.int x119]) (c_X6_finding l g v0 u0 u1 u2 u3 k0 k1 k2 k3 h0 h1 h2 h3 s0 s1 s2 s3 c0 c1 c2 p0 r0 t0 t1 t2 t3 z0 f0 ea R N B S C P Q K X fd tl ik (-1000001 : Int32) hg) (cwV 1 hts gX6_copy_X6_finding rfl rfl rfl q_X6_finding ⟨Nat.le_of_ble_eq_true rfl, Nat.le_of_ble_eq_true rfl⟩) ⟨hx, hb, hml, hown, hts⟩ hE hP hD hS hA 6 0 rfl rfl rfl rfl hl.1 rfl rfl (Nat.le_of_ble_eq_true rfl) dX6_copy_100 (fun H locs hP hD hS => ?_)
                obtain ⟨rfl, rfl, rfl⟩ := some_p3 hf
                rw [hQ]; exact Ct.iret hx hb hr hlocks hAe hP hD hS dX6_copy_103
          · have hf := if_f hf hc
            refine lv_aload_n hx hb dX6_copy_67 rfl (lv_at hl 2 rfl) ?_
            refine lv_ldc hx hb hown w7 dX6_copy_68 ?_
            obtain ⟨x121, fd122, hg, hf⟩ := o2_s hf
            refine Ct.callV0 (ws' := wV g v0 u0 u1 u2 u3 k0 k1 k2 k3 h0 h1 h2 h3 s0 s1 s2 s3 c0 c1 c2 p0 r0 t0 t1 t2 t3 z0 f0 ea R N B S C P Q K X fd122 tl ik) (As := [.int (-1000003 : Int32)]) (rest := []) (st1 := [.int x121]) (c_X6_finding l g v0 u0 u1 u2 u3 k0 k1 k2 k3 h0 h1 h2 h3 s0 s1 s2 s3 c0 c1 c2 p0 r0 t0 t1 t2 t3 z0 f0 ea R N B S C P Q K X fd tl ik (-1000003 : Int32) hg) (cwV 1 hts gX6_copy_X6_finding rfl rfl rfl q_X6_finding ⟨Nat.le_of_ble_eq_true rfl, Nat.le_of_ble_eq_true rfl⟩) ⟨hx, hb, hml, hown, hts⟩ hE hP hD hS hA 6 0 rfl rfl rfl rfl hl.1 rfl rfl (Nat.le_of_ble_eq_true rfl) dX6_copy_70 (fun H locs hP hD hS => ?_)
            obtain ⟨rfl, rfl, rfl⟩ := some_p3 hf
            rw [hQ]; exact Ct.iret hx hb hr hlocks hAe hP hD hS dX6_copy_73
        · have hf := if_f hf hc
          refine lv_aload_n hx hb dX6_copy_47 rfl (lv_at hl 2 rfl) ?_
          refine lv_ldc hx hb hown w2 dX6_copy_48 ?_
          obtain ⟨x123, fd124, hg, hf⟩ := o2_s hf
          refine Ct.callV0 (ws' := wV g v0 u0 u1 u2 u3 k0 k1 k2 k3 h0 h1 h2 h3 s0 s1 s2 s3 c0 c1 c2 p0 r0 t0 t1 t2 t3 z0 f0 ea R N B S C P Q K X fd124 tl ik) (As := [.int (-1000006 : Int32)]) (rest := []) (st1 := [.int x123]) (c_X6_finding l g v0 u0 u1 u2 u3 k0 k1 k2 k3 h0 h1 h2 h3 s0 s1 s2 s3 c0 c1 c2 p0 r0 t0 t1 t2 t3 z0 f0 ea R N B S C P Q K X fd tl ik (-1000006 : Int32) hg) (cwV 1 hts gX6_copy_X6_finding rfl rfl rfl q_X6_finding ⟨Nat.le_of_ble_eq_true rfl, Nat.le_of_ble_eq_true rfl⟩) ⟨hx, hb, hml, hown, hts⟩ hE hP hD hS hA 6 0 rfl rfl rfl rfl hl.1 rfl rfl (Nat.le_of_ble_eq_true rfl) dX6_copy_50 (fun H locs hP hD hS => ?_)
          obtain ⟨rfl, rfl, rfl⟩ := some_p3 hf
          rw [hQ]; exact Ct.iret hx hb hr hlocks hAe hP hD hS dX6_copy_53
    · refine Ct.callV0 (ws' := wV g v0 u0 u1 u2 u3 k0 k1 k2 k3 h0 h1 h2 h3 s0 s1 s2 s3 c0 c1 c2 p0 r0 t0 t1 t2 t3 z0 f0 ea R N B S C P Q K X fd tl ik) (As := [.int a3]) (rest := []) (st1 := [.ref (ea 1)]) (c_X6_sheetAt l g v0 u0 u1 u2 u3 k0 k1 k2 k3 h0 h1 h2 h3 s0 s1 s2 s3 c0 c1 c2 p0 r0 t0 t1 t2 t3 z0 f0 ea R N B S C P Q K X fd tl ik 1 (by decide) a3 hs) (cwV 1 hts gX6_copy_X6_sheetAt rfl rfl rfl q_X6_sheetAt ⟨Nat.le_of_ble_eq_true rfl, Nat.le_of_ble_eq_true rfl⟩) ⟨hx, hb, hml, hown, hts⟩ hE hP hD hS hA 6 0 rfl rfl rfl rfl hl.1 rfl rfl (Nat.le_of_ble_eq_true rfl) dX6_copy_9 (fun H locs hP hD hS => ?_)
      refine lv_astore (lv' := [(7, .ref (ea 1)), (6, .ref (ea 0)), (0, .ref v0), (1, .int a1), (2, .int a2), (3, .int a3), (4, .int a4), (5, .int a5)]) hx hb dX6_copy_12 hl (by decide) rfl (fun ls hl => ?_)
      refine lv_aload hx hb dX6_copy_14 (lv_at hl 1 rfl) ?_
      refine lv_ifnull hx hb dX6_copy_16 ?_
      refine lv_aload hx hb dX6_copy_19 (lv_at hl 0 rfl) ?_
      refine lv_ifnonnull (tgt := 31) hx hb dX6_copy_21 (by decide) ?_
      refine lv_aload hx hb dX6_copy_31 (lv_at hl 1 rfl) ?_
      obtain ⟨x110, hg, hf⟩ := o1_s hf
      refine Ct.callV (ws' := wV g v0 u0 u1 u2 u3 k0 k1 k2 k3 h0 h1 h2 h3 s0 s1 s2 s3 c0 c1 c2 p0 r0 t0 t1 t2 t3 z0 f0 ea R N B S C P Q K X fd tl ik) (As := []) (rest := []) (st1 := [.int x110]) (c_X2_isMissing l g (ea 0) (ea 4) (X 0) hg) (cwV 0 hts gX6_copy_X2_isMissing rfl rfl rfl q_X2_isMissing ⟨Nat.le_of_ble_eq_true rfl, Nat.le_of_ble_eq_true rfl⟩) ⟨hx, hb, hml, hown, hts⟩ hE hP hD hS hA [27, 28] rfl rfl rfl rfl 2 27 rfl rfl rfl rfl hl.1 rfl rfl (Nat.le_of_ble_eq_true rfl) dX6_copy_33 (fun H locs hP hD hS => ?_)
      refine lv_if_ne (tgt := 47) hx hb dX6_copy_36 (by decide) (fun hc => ?_) (fun hc => ?_)
      · have hf := if_f hf hc
        refine lv_aload_n hx hb dX6_copy_47 rfl (lv_at hl 2 rfl) ?_
        refine lv_ldc hx hb hown w2 dX6_copy_48 ?_
        obtain ⟨x111, fd112, hg, hf⟩ := o2_s hf
        refine Ct.callV0 (ws' := wV g v0 u0 u1 u2 u3 k0 k1 k2 k3 h0 h1 h2 h3 s0 s1 s2 s3 c0 c1 c2 p0 r0 t0 t1 t2 t3 z0 f0 ea R N B S C P Q K X fd112 tl ik) (As := [.int (-1000006 : Int32)]) (rest := []) (st1 := [.int x111]) (c_X6_finding l g v0 u0 u1 u2 u3 k0 k1 k2 k3 h0 h1 h2 h3 s0 s1 s2 s3 c0 c1 c2 p0 r0 t0 t1 t2 t3 z0 f0 ea R N B S C P Q K X fd tl ik (-1000006 : Int32) hg) (cwV 1 hts gX6_copy_X6_finding rfl rfl rfl q_X6_finding ⟨Nat.le_of_ble_eq_true rfl, Nat.le_of_ble_eq_true rfl⟩) ⟨hx, hb, hml, hown, hts⟩ hE hP hD hS hA 6 0 rfl rfl rfl rfl hl.1 rfl rfl (Nat.le_of_ble_eq_true rfl) dX6_copy_50 (fun H locs hP hD hS => ?_)
        obtain ⟨rfl, rfl, rfl⟩ := some_p3 hf
        rw [hQ]; exact Ct.iret hx hb hr hlocks hAe hP hD hS dX6_copy_53
      · have hf := if_t hf hc
        refine lv_aload hx hb dX6_copy_39 (lv_at hl 0 rfl) ?_
        obtain ⟨x113, hg, hf⟩ := o1_s hf
        refine Ct.callV (ws' := wV g v0 u0 u1 u2 u3 k0 k1 k2 k3 h0 h1 h2 h3 s0 s1 s2 s3 c0 c1 c2 p0 r0 t0 t1 t2 t3 z0 f0 ea R N B S C P Q K X fd tl ik) (As := []) (rest := []) (st1 := [.int x113]) (c_X2_isMissing l g (ea 1) (ea 5) (X 1) hg) (cwV 0 hts gX6_copy_X2_isMissing rfl rfl rfl q_X2_isMissing ⟨Nat.le_of_ble_eq_true rfl, Nat.le_of_ble_eq_true rfl⟩) ⟨hx, hb, hml, hown, hts⟩ hE hP hD hS hA [29, 30] rfl rfl rfl rfl 2 29 rfl rfl rfl rfl hl.1 rfl rfl (Nat.le_of_ble_eq_true rfl) dX6_copy_41 (fun H locs hP hD hS => ?_)
        refine lv_if_eq (tgt := 54) hx hb dX6_copy_44 (by decide) (fun hc => ?_) (fun hc => ?_)
        · have hf := if_t hf hc
          refine lv_aload hx hb dX6_copy_54 (lv_at hl 1 rfl) ?_
          refine va_getN (D := g.1) (ci := 2) (v := .int ((X 0).2.1)) (C := RX2) (T := TX2) (N := 3) hx hb hts i_X6_copy_X2 hown hE.1 hP 27 rfl rfl 1 (by decide) (va_Nw.use rfl (hE.2.1 _ (List.mem_of_getElem? (i := 19) rfl))) (fun _ h9 => h9) rfl dX6_copy_56 ?_
          refine lv_aload hx hb dX6_copy_59 (lv_at hl 0 rfl) ?_
          refine va_getN (D := g.1) (ci := 2) (v := .int ((X 1).2.1)) (C := RX2) (T := TX2) (N := 3) hx hb hts i_X6_copy_X2 hown hE.1 hP 29 rfl rfl 1 (by decide) (va_Nw.use rfl (hE.2.1 _ (List.mem_of_getElem? (i := 19) rfl))) (fun _ h9 => h9) rfl dX6_copy_61 ?_
          refine lv_icmp_eq (tgt := 74) hx hb dX6_copy_64 (by decide) (fun hc => ?_) (fun hc => ?_)
          · have hf := if_t hf hc
            refine lv_aload hx hb dX6_copy_74 (lv_at hl 1 rfl) ?_
            refine lv_iload_n hx hb dX6_copy_76 rfl (lv_at hl 4 rfl) ?_
            refine lv_iload hx hb dX6_copy_77 (lv_at hl 7 rfl) ?_
            obtain ⟨x114, hg, hf⟩ := o1_s hf
            refine Ct.callV (ws' := wV g v0 u0 u1 u2 u3 k0 k1 k2 k3 h0 h1 h2 h3 s0 s1 s2 s3 c0 c1 c2 p0 r0 t0 t1 t2 t3 z0 f0 ea R N B S C P Q K X fd tl ik) (As := [.int a2, .int a5]) (rest := []) (st1 := [.int x114]) (c_X2_hasRange l g (ea 0) (ea 4) (X 0) a2 a5 hg) (cwV 2 hts gX6_copy_X2_hasRange rfl rfl rfl q_X2_hasRange ⟨Nat.le_of_ble_eq_true rfl, Nat.le_of_ble_eq_true rfl⟩) ⟨hx, hb, hml, hown, hts⟩ hE hP hD hS hA [27, 28] rfl rfl rfl rfl 2 27 rfl rfl rfl rfl hl.1 rfl rfl (Nat.le_of_ble_eq_true rfl) dX6_copy_79 (fun H locs hP hD hS => ?_)
            refine lv_if_eq (tgt := 97) hx hb dX6_copy_82 (by decide) (fun hc => ?_) (fun hc => ?_)
            · have hf := if_t hf hc
              refine lv_aload_n hx hb dX6_copy_97 rfl (lv_at hl 2 rfl) ?_
              refine lv_ldc hx hb hown w1 dX6_copy_98 ?_
              obtain ⟨x115, fd116, hg, hf⟩ := o2_s hf
              refine Ct.callV0 (ws' := wV g v0 u0 u1 u2 u3 k0 k1 k2 k3 h0 h1 h2 h3 s0 s1 s2 s3 c0 c1 c2 p0 r0 t0 t1 t2 t3 z0 f0 ea R N B S C P Q K X fd116 tl ik) (As := [.int (-1000001 : Int32)]) (rest := []) (st1 := [.int x115]) (c_X6_finding l g v0 u0 u1 u2 u3 k0 k1 k2 k3 h0 h1 h2 h3 s0 s1 s2 s3 c0 c1 c2 p0 r0 t0 t1 t2 t3 z0 f0 ea R N B S C P Q K X fd tl ik (-1000001 : Int32) hg) (cwV 1 hts gX6_copy_X6_finding rfl rfl rfl q_X6_finding ⟨Nat.le_of_ble_eq_true rfl, Nat.le_of_ble_eq_true rfl⟩) ⟨hx, hb, hml, hown, hts⟩ hE hP hD hS hA 6 0 rfl rfl rfl rfl hl.1 rfl rfl (Nat.le_of_ble_eq_true rfl) dX6_copy_100 (fun H locs hP hD hS => ?_)
              obtain ⟨rfl, rfl, rfl⟩ := some_p3 hf
              rw [hQ]; exact Ct.iret hx hb hr hlocks hAe hP hD hS dX6_copy_103
            · have hf := if_f hf hc
              refine lv_aload hx hb dX6_copy_85 (lv_at hl 0 rfl) ?_
              refine lv_iload hx hb dX6_copy_87 (lv_at hl 6 rfl) ?_
              refine lv_iload hx hb dX6_copy_89 (lv_at hl 7 rfl) ?_
              obtain ⟨x117, hg, hf⟩ := o1_s hf
              refine Ct.callV (ws' := wV g v0 u0 u1 u2 u3 k0 k1 k2 k3 h0 h1 h2 h3 s0 s1 s2 s3 c0 c1 c2 p0 r0 t0 t1 t2 t3 z0 f0 ea R N B S C P Q K X fd tl ik) (As := [.int a4, .int a5]) (rest := []) (st1 := [.int x117]) (c_X2_hasRange l g (ea 1) (ea 5) (X 1) a4 a5 hg) (cwV 2 hts gX6_copy_X2_hasRange rfl rfl rfl q_X2_hasRange ⟨Nat.le_of_ble_eq_true rfl, Nat.le_of_ble_eq_true rfl⟩) ⟨hx, hb, hml, hown, hts⟩ hE hP hD hS hA [29, 30] rfl rfl rfl rfl 2 29 rfl rfl rfl rfl hl.1 rfl rfl (Nat.le_of_ble_eq_true rfl) dX6_copy_91 (fun H locs hP hD hS => ?_)
              refine lv_if_ne (tgt := 104) hx hb dX6_copy_94 (by decide) (fun hc => ?_) (fun hc => ?_)
              · have hf := if_f hf hc
                refine lv_aload hx hb dX6_copy_104 (lv_at hl 1 rfl) ?_
                refine va_getN (D := g.1) (ci := 2) (v := .ref (ea 4)) (C := RX2) (T := TX2) (N := 3) hx hb hts i_X6_copy_X2 hown hE.1 hP 27 rfl rfl 0 (by decide) (va_Nw.use rfl (hE.2.1 _ (List.mem_of_getElem? (i := 18) rfl))) (fun _ h9 => h9) rfl dX6_copy_106 ?_
                refine lv_iload_n hx hb dX6_copy_109 rfl (lv_at hl 4 rfl) ?_
                refine lv_aload hx hb dX6_copy_110 (lv_at hl 0 rfl) ?_
                refine va_getN (D := g.1) (ci := 2) (v := .ref (ea 5)) (C := RX2) (T := TX2) (N := 3) hx hb hts i_X6_copy_X2 hown hE.1 hP 29 rfl rfl 0 (by decide) (va_Nw.use rfl (hE.2.1 _ (List.mem_of_getElem? (i := 18) rfl))) (fun _ h9 => h9) rfl dX6_copy_112 ?_
                refine lv_iload hx hb dX6_copy_115 (lv_at hl 6 rfl) ?_
                refine lv_iload hx hb dX6_copy_117 (lv_at hl 7 rfl) ?_
                obtain ⟨f118, ef, hcp, hf⟩ := cp_s hf
                refine st_copy (ws' := wV g v0 u0 u1 u2 u3 k0 k1 k2 k3 h0 h1 h2 h3 s0 s1 s2 s3 c0 c1 c2 p0 r0 t0 t1 t2 t3 z0 f0 ea R N B S C P Q K (upS X 1 (f118, (X 1).2.1, (X 1).2.2)) fd tl ik) (f := ((X 0).1)) (g := ((X 1).1)) (f2 := f118) hx hb (hml.trans hl.1.symm) hown w3 w4 w5 w6 hE.1 hP hD hS 28 30 0 rfl rfl rfl ef hcp rfl (Nat.le_of_ble_eq_true rfl) (Nat.le_of_ble_eq_true rfl) dX6_copy_119 (fun H locs hP hD hS => ?_)
                refine lv_iload hx hb dX6_copy_122 (lv_at hl 7 rfl) ?_
                obtain ⟨rfl, rfl, rfl⟩ := some_p3 hf
                rw [hQ]; exact Ct.iret hx hb hr hlocks hAe hP hD hS dX6_copy_124
              · have hf := if_t hf hc
                refine lv_aload_n hx hb dX6_copy_97 rfl (lv_at hl 2 rfl) ?_
                refine lv_ldc hx hb hown w1 dX6_copy_98 ?_
                obtain ⟨x119, fd120, hg, hf⟩ := o2_s hf
                refine Ct.callV0 (ws' := wV g v0 u0 u1 u2 u3 k0 k1 k2 k3 h0 h1 h2 h3 s0 s1 s2 s3 c0 c1 c2 p0 r0 t0 t1 t2 t3 z0 f0 ea R N B S C P Q K X fd120 tl ik) (As := [.int (-1000001 : Int32)]) (rest := []) (st1 := [.int x119]) (c_X6_finding l g v0 u0 u1 u2 u3 k0 k1 k2 k3 h0 h1 h2 h3 s0 s1 s2 s3 c0 c1 c2 p0 r0 t0 t1 t2 t3 z0 f0 ea R N B S C P Q K X fd tl ik (-1000001 : Int32) hg) (cwV 1 hts gX6_copy_X6_finding rfl rfl rfl q_X6_finding ⟨Nat.le_of_ble_eq_true rfl, Nat.le_of_ble_eq_true rfl⟩) ⟨hx, hb, hml, hown, hts⟩ hE hP hD hS hA 6 0 rfl rfl rfl rfl hl.1 rfl rfl (Nat.le_of_ble_eq_true rfl) dX6_copy_100 (fun H locs hP hD hS => ?_)
                obtain ⟨rfl, rfl, rfl⟩ := some_p3 hf
                rw [hQ]; exact Ct.iret hx hb hr hlocks hAe hP hD hS dX6_copy_103
          · have hf := if_f hf hc
            refine lv_aload_n hx hb dX6_copy_67 rfl (lv_at hl 2 rfl) ?_
            refine lv_ldc hx hb hown w7 dX6_copy_68 ?_
            obtain ⟨x121, fd122, hg, hf⟩ := o2_s hf
            refine Ct.callV0 (ws' := wV g v0 u0 u1 u2 u3 k0 k1 k2 k3 h0 h1 h2 h3 s0 s1 s2 s3 c0 c1 c2 p0 r0 t0 t1 t2 t3 z0 f0 ea R N B S C P Q K X fd122 tl ik) (As := [.int (-1000003 : Int32)]) (rest := []) (st1 := [.int x121]) (c_X6_finding l g v0 u0 u1 u2 u3 k0 k1 k2 k3 h0 h1 h2 h3 s0 s1 s2 s3 c0 c1 c2 p0 r0 t0 t1 t2 t3 z0 f0 ea R N B S C P Q K X fd tl ik (-1000003 : Int32) hg) (cwV 1 hts gX6_copy_X6_finding rfl rfl rfl q_X6_finding ⟨Nat.le_of_ble_eq_true rfl, Nat.le_of_ble_eq_true rfl⟩) ⟨hx, hb, hml, hown, hts⟩ hE hP hD hS hA 6 0 rfl rfl rfl rfl hl.1 rfl rfl (Nat.le_of_ble_eq_true rfl) dX6_copy_70 (fun H locs hP hD hS => ?_)
            obtain ⟨rfl, rfl, rfl⟩ := some_p3 hf
            rw [hQ]; exact Ct.iret hx hb hr hlocks hAe hP hD hS dX6_copy_73
        · have hf := if_f hf hc
          refine lv_aload_n hx hb dX6_copy_47 rfl (lv_at hl 2 rfl) ?_
          refine lv_ldc hx hb hown w2 dX6_copy_48 ?_
          obtain ⟨x123, fd124, hg, hf⟩ := o2_s hf
          refine Ct.callV0 (ws' := wV g v0 u0 u1 u2 u3 k0 k1 k2 k3 h0 h1 h2 h3 s0 s1 s2 s3 c0 c1 c2 p0 r0 t0 t1 t2 t3 z0 f0 ea R N B S C P Q K X fd124 tl ik) (As := [.int (-1000006 : Int32)]) (rest := []) (st1 := [.int x123]) (c_X6_finding l g v0 u0 u1 u2 u3 k0 k1 k2 k3 h0 h1 h2 h3 s0 s1 s2 s3 c0 c1 c2 p0 r0 t0 t1 t2 t3 z0 f0 ea R N B S C P Q K X fd tl ik (-1000006 : Int32) hg) (cwV 1 hts gX6_copy_X6_finding rfl rfl rfl q_X6_finding ⟨Nat.le_of_ble_eq_true rfl, Nat.le_of_ble_eq_true rfl⟩) ⟨hx, hb, hml, hown, hts⟩ hE hP hD hS hA 6 0 rfl rfl rfl rfl hl.1 rfl rfl (Nat.le_of_ble_eq_true rfl) dX6_copy_50 (fun H locs hP hD hS => ?_)
          obtain ⟨rfl, rfl, rfl⟩ := some_p3 hf
          rw [hQ]; exact Ct.iret hx hb hr hlocks hAe hP hD hS dX6_copy_53
    · refine Ct.callV0 (ws' := wV g v0 u0 u1 u2 u3 k0 k1 k2 k3 h0 h1 h2 h3 s0 s1 s2 s3 c0 c1 c2 p0 r0 t0 t1 t2 t3 z0 f0 ea R N B S C P Q K X fd tl ik) (As := [.int a3]) (rest := []) (st1 := [.ref (ea 2)]) (c_X6_sheetAt l g v0 u0 u1 u2 u3 k0 k1 k2 k3 h0 h1 h2 h3 s0 s1 s2 s3 c0 c1 c2 p0 r0 t0 t1 t2 t3 z0 f0 ea R N B S C P Q K X fd tl ik 2 (by decide) a3 hs) (cwV 1 hts gX6_copy_X6_sheetAt rfl rfl rfl q_X6_sheetAt ⟨Nat.le_of_ble_eq_true rfl, Nat.le_of_ble_eq_true rfl⟩) ⟨hx, hb, hml, hown, hts⟩ hE hP hD hS hA 6 0 rfl rfl rfl rfl hl.1 rfl rfl (Nat.le_of_ble_eq_true rfl) dX6_copy_9 (fun H locs hP hD hS => ?_)
      refine lv_astore (lv' := [(7, .ref (ea 2)), (6, .ref (ea 0)), (0, .ref v0), (1, .int a1), (2, .int a2), (3, .int a3), (4, .int a4), (5, .int a5)]) hx hb dX6_copy_12 hl (by decide) rfl (fun ls hl => ?_)
      refine lv_aload hx hb dX6_copy_14 (lv_at hl 1 rfl) ?_
      refine lv_ifnull hx hb dX6_copy_16 ?_
      refine lv_aload hx hb dX6_copy_19 (lv_at hl 0 rfl) ?_
      refine lv_ifnonnull (tgt := 31) hx hb dX6_copy_21 (by decide) ?_
      refine lv_aload hx hb dX6_copy_31 (lv_at hl 1 rfl) ?_
      obtain ⟨x110, hg, hf⟩ := o1_s hf
      refine Ct.callV (ws' := wV g v0 u0 u1 u2 u3 k0 k1 k2 k3 h0 h1 h2 h3 s0 s1 s2 s3 c0 c1 c2 p0 r0 t0 t1 t2 t3 z0 f0 ea R N B S C P Q K X fd tl ik) (As := []) (rest := []) (st1 := [.int x110]) (c_X2_isMissing l g (ea 0) (ea 4) (X 0) hg) (cwV 0 hts gX6_copy_X2_isMissing rfl rfl rfl q_X2_isMissing ⟨Nat.le_of_ble_eq_true rfl, Nat.le_of_ble_eq_true rfl⟩) ⟨hx, hb, hml, hown, hts⟩ hE hP hD hS hA [27, 28] rfl rfl rfl rfl 2 27 rfl rfl rfl rfl hl.1 rfl rfl (Nat.le_of_ble_eq_true rfl) dX6_copy_33 (fun H locs hP hD hS => ?_)
      refine lv_if_ne (tgt := 47) hx hb dX6_copy_36 (by decide) (fun hc => ?_) (fun hc => ?_)
      · have hf := if_f hf hc
        refine lv_aload_n hx hb dX6_copy_47 rfl (lv_at hl 2 rfl) ?_
        refine lv_ldc hx hb hown w2 dX6_copy_48 ?_
        obtain ⟨x111, fd112, hg, hf⟩ := o2_s hf
        refine Ct.callV0 (ws' := wV g v0 u0 u1 u2 u3 k0 k1 k2 k3 h0 h1 h2 h3 s0 s1 s2 s3 c0 c1 c2 p0 r0 t0 t1 t2 t3 z0 f0 ea R N B S C P Q K X fd112 tl ik) (As := [.int (-1000006 : Int32)]) (rest := []) (st1 := [.int x111]) (c_X6_finding l g v0 u0 u1 u2 u3 k0 k1 k2 k3 h0 h1 h2 h3 s0 s1 s2 s3 c0 c1 c2 p0 r0 t0 t1 t2 t3 z0 f0 ea R N B S C P Q K X fd tl ik (-1000006 : Int32) hg) (cwV 1 hts gX6_copy_X6_finding rfl rfl rfl q_X6_finding ⟨Nat.le_of_ble_eq_true rfl, Nat.le_of_ble_eq_true rfl⟩) ⟨hx, hb, hml, hown, hts⟩ hE hP hD hS hA 6 0 rfl rfl rfl rfl hl.1 rfl rfl (Nat.le_of_ble_eq_true rfl) dX6_copy_50 (fun H locs hP hD hS => ?_)
        obtain ⟨rfl, rfl, rfl⟩ := some_p3 hf
        rw [hQ]; exact Ct.iret hx hb hr hlocks hAe hP hD hS dX6_copy_53
      · have hf := if_t hf hc
        refine lv_aload hx hb dX6_copy_39 (lv_at hl 0 rfl) ?_
        obtain ⟨x113, hg, hf⟩ := o1_s hf
        refine Ct.callV (ws' := wV g v0 u0 u1 u2 u3 k0 k1 k2 k3 h0 h1 h2 h3 s0 s1 s2 s3 c0 c1 c2 p0 r0 t0 t1 t2 t3 z0 f0 ea R N B S C P Q K X fd tl ik) (As := []) (rest := []) (st1 := [.int x113]) (c_X2_isMissing l g (ea 2) (ea 6) (X 2) hg) (cwV 0 hts gX6_copy_X2_isMissing rfl rfl rfl q_X2_isMissing ⟨Nat.le_of_ble_eq_true rfl, Nat.le_of_ble_eq_true rfl⟩) ⟨hx, hb, hml, hown, hts⟩ hE hP hD hS hA [31, 32] rfl rfl rfl rfl 2 31 rfl rfl rfl rfl hl.1 rfl rfl (Nat.le_of_ble_eq_true rfl) dX6_copy_41 (fun H locs hP hD hS => ?_)
        refine lv_if_eq (tgt := 54) hx hb dX6_copy_44 (by decide) (fun hc => ?_) (fun hc => ?_)
        · have hf := if_t hf hc
          refine lv_aload hx hb dX6_copy_54 (lv_at hl 1 rfl) ?_
          refine va_getN (D := g.1) (ci := 2) (v := .int ((X 0).2.1)) (C := RX2) (T := TX2) (N := 3) hx hb hts i_X6_copy_X2 hown hE.1 hP 27 rfl rfl 1 (by decide) (va_Nw.use rfl (hE.2.1 _ (List.mem_of_getElem? (i := 19) rfl))) (fun _ h9 => h9) rfl dX6_copy_56 ?_
          refine lv_aload hx hb dX6_copy_59 (lv_at hl 0 rfl) ?_
          refine va_getN (D := g.1) (ci := 2) (v := .int ((X 2).2.1)) (C := RX2) (T := TX2) (N := 3) hx hb hts i_X6_copy_X2 hown hE.1 hP 31 rfl rfl 1 (by decide) (va_Nw.use rfl (hE.2.1 _ (List.mem_of_getElem? (i := 19) rfl))) (fun _ h9 => h9) rfl dX6_copy_61 ?_
          refine lv_icmp_eq (tgt := 74) hx hb dX6_copy_64 (by decide) (fun hc => ?_) (fun hc => ?_)
          · have hf := if_t hf hc
            refine lv_aload hx hb dX6_copy_74 (lv_at hl 1 rfl) ?_
            refine lv_iload_n hx hb dX6_copy_76 rfl (lv_at hl 4 rfl) ?_
            refine lv_iload hx hb dX6_copy_77 (lv_at hl 7 rfl) ?_
            obtain ⟨x114, hg, hf⟩ := o1_s hf
            refine Ct.callV (ws' := wV g v0 u0 u1 u2 u3 k0 k1 k2 k3 h0 h1 h2 h3 s0 s1 s2 s3 c0 c1 c2 p0 r0 t0 t1 t2 t3 z0 f0 ea R N B S C P Q K X fd tl ik) (As := [.int a2, .int a5]) (rest := []) (st1 := [.int x114]) (c_X2_hasRange l g (ea 0) (ea 4) (X 0) a2 a5 hg) (cwV 2 hts gX6_copy_X2_hasRange rfl rfl rfl q_X2_hasRange ⟨Nat.le_of_ble_eq_true rfl, Nat.le_of_ble_eq_true rfl⟩) ⟨hx, hb, hml, hown, hts⟩ hE hP hD hS hA [27, 28] rfl rfl rfl rfl 2 27 rfl rfl rfl rfl hl.1 rfl rfl (Nat.le_of_ble_eq_true rfl) dX6_copy_79 (fun H locs hP hD hS => ?_)
            refine lv_if_eq (tgt := 97) hx hb dX6_copy_82 (by decide) (fun hc => ?_) (fun hc => ?_)
            · have hf := if_t hf hc
              refine lv_aload_n hx hb dX6_copy_97 rfl (lv_at hl 2 rfl) ?_
              refine lv_ldc hx hb hown w1 dX6_copy_98 ?_
              obtain ⟨x115, fd116, hg, hf⟩ := o2_s hf
              refine Ct.callV0 (ws' := wV g v0 u0 u1 u2 u3 k0 k1 k2 k3 h0 h1 h2 h3 s0 s1 s2 s3 c0 c1 c2 p0 r0 t0 t1 t2 t3 z0 f0 ea R N B S C P Q K X fd116 tl ik) (As := [.int (-1000001 : Int32)]) (rest := []) (st1 := [.int x115]) (c_X6_finding l g v0 u0 u1 u2 u3 k0 k1 k2 k3 h0 h1 h2 h3 s0 s1 s2 s3 c0 c1 c2 p0 r0 t0 t1 t2 t3 z0 f0 ea R N B S C P Q K X fd tl ik (-1000001 : Int32) hg) (cwV 1 hts gX6_copy_X6_finding rfl rfl rfl q_X6_finding ⟨Nat.le_of_ble_eq_true rfl, Nat.le_of_ble_eq_true rfl⟩) ⟨hx, hb, hml, hown, hts⟩ hE hP hD hS hA 6 0 rfl rfl rfl rfl hl.1 rfl rfl (Nat.le_of_ble_eq_true rfl) dX6_copy_100 (fun H locs hP hD hS => ?_)
              obtain ⟨rfl, rfl, rfl⟩ := some_p3 hf
              rw [hQ]; exact Ct.iret hx hb hr hlocks hAe hP hD hS dX6_copy_103
            · have hf := if_f hf hc
              refine lv_aload hx hb dX6_copy_85 (lv_at hl 0 rfl) ?_
              refine lv_iload hx hb dX6_copy_87 (lv_at hl 6 rfl) ?_
              refine lv_iload hx hb dX6_copy_89 (lv_at hl 7 rfl) ?_
              obtain ⟨x117, hg, hf⟩ := o1_s hf
              refine Ct.callV (ws' := wV g v0 u0 u1 u2 u3 k0 k1 k2 k3 h0 h1 h2 h3 s0 s1 s2 s3 c0 c1 c2 p0 r0 t0 t1 t2 t3 z0 f0 ea R N B S C P Q K X fd tl ik) (As := [.int a4, .int a5]) (rest := []) (st1 := [.int x117]) (c_X2_hasRange l g (ea 2) (ea 6) (X 2) a4 a5 hg) (cwV 2 hts gX6_copy_X2_hasRange rfl rfl rfl q_X2_hasRange ⟨Nat.le_of_ble_eq_true rfl, Nat.le_of_ble_eq_true rfl⟩) ⟨hx, hb, hml, hown, hts⟩ hE hP hD hS hA [31, 32] rfl rfl rfl rfl 2 31 rfl rfl rfl rfl hl.1 rfl rfl (Nat.le_of_ble_eq_true rfl) dX6_copy_91 (fun H locs hP hD hS => ?_)
              refine lv_if_ne (tgt := 104) hx hb dX6_copy_94 (by decide) (fun hc => ?_) (fun hc => ?_)
              · have hf := if_f hf hc
                refine lv_aload hx hb dX6_copy_104 (lv_at hl 1 rfl) ?_
                refine va_getN (D := g.1) (ci := 2) (v := .ref (ea 4)) (C := RX2) (T := TX2) (N := 3) hx hb hts i_X6_copy_X2 hown hE.1 hP 27 rfl rfl 0 (by decide) (va_Nw.use rfl (hE.2.1 _ (List.mem_of_getElem? (i := 18) rfl))) (fun _ h9 => h9) rfl dX6_copy_106 ?_
                refine lv_iload_n hx hb dX6_copy_109 rfl (lv_at hl 4 rfl) ?_
                refine lv_aload hx hb dX6_copy_110 (lv_at hl 0 rfl) ?_
                refine va_getN (D := g.1) (ci := 2) (v := .ref (ea 6)) (C := RX2) (T := TX2) (N := 3) hx hb hts i_X6_copy_X2 hown hE.1 hP 31 rfl rfl 0 (by decide) (va_Nw.use rfl (hE.2.1 _ (List.mem_of_getElem? (i := 18) rfl))) (fun _ h9 => h9) rfl dX6_copy_112 ?_
                refine lv_iload hx hb dX6_copy_115 (lv_at hl 6 rfl) ?_
                refine lv_iload hx hb dX6_copy_117 (lv_at hl 7 rfl) ?_
                obtain ⟨f118, ef, hcp, hf⟩ := cp_s hf
                refine st_copy (ws' := wV g v0 u0 u1 u2 u3 k0 k1 k2 k3 h0 h1 h2 h3 s0 s1 s2 s3 c0 c1 c2 p0 r0 t0 t1 t2 t3 z0 f0 ea R N B S C P Q K (upS X 2 (f118, (X 2).2.1, (X 2).2.2)) fd tl ik) (f := ((X 0).1)) (g := ((X 2).1)) (f2 := f118) hx hb (hml.trans hl.1.symm) hown w3 w4 w5 w6 hE.1 hP hD hS 28 32 0 rfl rfl rfl ef hcp rfl (Nat.le_of_ble_eq_true rfl) (Nat.le_of_ble_eq_true rfl) dX6_copy_119 (fun H locs hP hD hS => ?_)
                refine lv_iload hx hb dX6_copy_122 (lv_at hl 7 rfl) ?_
                obtain ⟨rfl, rfl, rfl⟩ := some_p3 hf
                rw [hQ]; exact Ct.iret hx hb hr hlocks hAe hP hD hS dX6_copy_124
              · have hf := if_t hf hc
                refine lv_aload_n hx hb dX6_copy_97 rfl (lv_at hl 2 rfl) ?_
                refine lv_ldc hx hb hown w1 dX6_copy_98 ?_
                obtain ⟨x119, fd120, hg, hf⟩ := o2_s hf
                refine Ct.callV0 (ws' := wV g v0 u0 u1 u2 u3 k0 k1 k2 k3 h0 h1 h2 h3 s0 s1 s2 s3 c0 c1 c2 p0 r0 t0 t1 t2 t3 z0 f0 ea R N B S C P Q K X fd120 tl ik) (As := [.int (-1000001 : Int32)]) (rest := []) (st1 := [.int x119]) (c_X6_finding l g v0 u0 u1 u2 u3 k0 k1 k2 k3 h0 h1 h2 h3 s0 s1 s2 s3 c0 c1 c2 p0 r0 t0 t1 t2 t3 z0 f0 ea R N B S C P Q K X fd tl ik (-1000001 : Int32) hg) (cwV 1 hts gX6_copy_X6_finding rfl rfl rfl q_X6_finding ⟨Nat.le_of_ble_eq_true rfl, Nat.le_of_ble_eq_true rfl⟩) ⟨hx, hb, hml, hown, hts⟩ hE hP hD hS hA 6 0 rfl rfl rfl rfl hl.1 rfl rfl (Nat.le_of_ble_eq_true rfl) dX6_copy_100 (fun H locs hP hD hS => ?_)
                obtain ⟨rfl, rfl, rfl⟩ := some_p3 hf
                rw [hQ]; exact Ct.iret hx hb hr hlocks hAe hP hD hS dX6_copy_103
          · have hf := if_f hf hc
            refine lv_aload_n hx hb dX6_copy_67 rfl (lv_at hl 2 rfl) ?_
            refine lv_ldc hx hb hown w7 dX6_copy_68 ?_
            obtain ⟨x121, fd122, hg, hf⟩ := o2_s hf
            refine Ct.callV0 (ws' := wV g v0 u0 u1 u2 u3 k0 k1 k2 k3 h0 h1 h2 h3 s0 s1 s2 s3 c0 c1 c2 p0 r0 t0 t1 t2 t3 z0 f0 ea R N B S C P Q K X fd122 tl ik) (As := [.int (-1000003 : Int32)]) (rest := []) (st1 := [.int x121]) (c_X6_finding l g v0 u0 u1 u2 u3 k0 k1 k2 k3 h0 h1 h2 h3 s0 s1 s2 s3 c0 c1 c2 p0 r0 t0 t1 t2 t3 z0 f0 ea R N B S C P Q K X fd tl ik (-1000003 : Int32) hg) (cwV 1 hts gX6_copy_X6_finding rfl rfl rfl q_X6_finding ⟨Nat.le_of_ble_eq_true rfl, Nat.le_of_ble_eq_true rfl⟩) ⟨hx, hb, hml, hown, hts⟩ hE hP hD hS hA 6 0 rfl rfl rfl rfl hl.1 rfl rfl (Nat.le_of_ble_eq_true rfl) dX6_copy_70 (fun H locs hP hD hS => ?_)
            obtain ⟨rfl, rfl, rfl⟩ := some_p3 hf
            rw [hQ]; exact Ct.iret hx hb hr hlocks hAe hP hD hS dX6_copy_73
        · have hf := if_f hf hc
          refine lv_aload_n hx hb dX6_copy_47 rfl (lv_at hl 2 rfl) ?_
          refine lv_ldc hx hb hown w2 dX6_copy_48 ?_
          obtain ⟨x123, fd124, hg, hf⟩ := o2_s hf
          refine Ct.callV0 (ws' := wV g v0 u0 u1 u2 u3 k0 k1 k2 k3 h0 h1 h2 h3 s0 s1 s2 s3 c0 c1 c2 p0 r0 t0 t1 t2 t3 z0 f0 ea R N B S C P Q K X fd124 tl ik) (As := [.int (-1000006 : Int32)]) (rest := []) (st1 := [.int x123]) (c_X6_finding l g v0 u0 u1 u2 u3 k0 k1 k2 k3 h0 h1 h2 h3 s0 s1 s2 s3 c0 c1 c2 p0 r0 t0 t1 t2 t3 z0 f0 ea R N B S C P Q K X fd tl ik (-1000006 : Int32) hg) (cwV 1 hts gX6_copy_X6_finding rfl rfl rfl q_X6_finding ⟨Nat.le_of_ble_eq_true rfl, Nat.le_of_ble_eq_true rfl⟩) ⟨hx, hb, hml, hown, hts⟩ hE hP hD hS hA 6 0 rfl rfl rfl rfl hl.1 rfl rfl (Nat.le_of_ble_eq_true rfl) dX6_copy_50 (fun H locs hP hD hS => ?_)
          obtain ⟨rfl, rfl, rfl⟩ := some_p3 hf
          rw [hQ]; exact Ct.iret hx hb hr hlocks hAe hP hD hS dX6_copy_53
    · refine Ct.callV0 (ws' := wV g v0 u0 u1 u2 u3 k0 k1 k2 k3 h0 h1 h2 h3 s0 s1 s2 s3 c0 c1 c2 p0 r0 t0 t1 t2 t3 z0 f0 ea R N B S C P Q K X fd tl ik) (As := [.int a3]) (rest := []) (st1 := [.ref (ea 3)]) (c_X6_sheetAt l g v0 u0 u1 u2 u3 k0 k1 k2 k3 h0 h1 h2 h3 s0 s1 s2 s3 c0 c1 c2 p0 r0 t0 t1 t2 t3 z0 f0 ea R N B S C P Q K X fd tl ik 3 (by decide) a3 hs) (cwV 1 hts gX6_copy_X6_sheetAt rfl rfl rfl q_X6_sheetAt ⟨Nat.le_of_ble_eq_true rfl, Nat.le_of_ble_eq_true rfl⟩) ⟨hx, hb, hml, hown, hts⟩ hE hP hD hS hA 6 0 rfl rfl rfl rfl hl.1 rfl rfl (Nat.le_of_ble_eq_true rfl) dX6_copy_9 (fun H locs hP hD hS => ?_)
      refine lv_astore (lv' := [(7, .ref (ea 3)), (6, .ref (ea 0)), (0, .ref v0), (1, .int a1), (2, .int a2), (3, .int a3), (4, .int a4), (5, .int a5)]) hx hb dX6_copy_12 hl (by decide) rfl (fun ls hl => ?_)
      refine lv_aload hx hb dX6_copy_14 (lv_at hl 1 rfl) ?_
      refine lv_ifnull hx hb dX6_copy_16 ?_
      refine lv_aload hx hb dX6_copy_19 (lv_at hl 0 rfl) ?_
      refine lv_ifnonnull (tgt := 31) hx hb dX6_copy_21 (by decide) ?_
      refine lv_aload hx hb dX6_copy_31 (lv_at hl 1 rfl) ?_
      obtain ⟨x110, hg, hf⟩ := o1_s hf
      refine Ct.callV (ws' := wV g v0 u0 u1 u2 u3 k0 k1 k2 k3 h0 h1 h2 h3 s0 s1 s2 s3 c0 c1 c2 p0 r0 t0 t1 t2 t3 z0 f0 ea R N B S C P Q K X fd tl ik) (As := []) (rest := []) (st1 := [.int x110]) (c_X2_isMissing l g (ea 0) (ea 4) (X 0) hg) (cwV 0 hts gX6_copy_X2_isMissing rfl rfl rfl q_X2_isMissing ⟨Nat.le_of_ble_eq_true rfl, Nat.le_of_ble_eq_true rfl⟩) ⟨hx, hb, hml, hown, hts⟩ hE hP hD hS hA [27, 28] rfl rfl rfl rfl 2 27 rfl rfl rfl rfl hl.1 rfl rfl (Nat.le_of_ble_eq_true rfl) dX6_copy_33 (fun H locs hP hD hS => ?_)
      refine lv_if_ne (tgt := 47) hx hb dX6_copy_36 (by decide) (fun hc => ?_) (fun hc => ?_)
      · have hf := if_f hf hc
        refine lv_aload_n hx hb dX6_copy_47 rfl (lv_at hl 2 rfl) ?_
        refine lv_ldc hx hb hown w2 dX6_copy_48 ?_
        obtain ⟨x111, fd112, hg, hf⟩ := o2_s hf
        refine Ct.callV0 (ws' := wV g v0 u0 u1 u2 u3 k0 k1 k2 k3 h0 h1 h2 h3 s0 s1 s2 s3 c0 c1 c2 p0 r0 t0 t1 t2 t3 z0 f0 ea R N B S C P Q K X fd112 tl ik) (As := [.int (-1000006 : Int32)]) (rest := []) (st1 := [.int x111]) (c_X6_finding l g v0 u0 u1 u2 u3 k0 k1 k2 k3 h0 h1 h2 h3 s0 s1 s2 s3 c0 c1 c2 p0 r0 t0 t1 t2 t3 z0 f0 ea R N B S C P Q K X fd tl ik (-1000006 : Int32) hg) (cwV 1 hts gX6_copy_X6_finding rfl rfl rfl q_X6_finding ⟨Nat.le_of_ble_eq_true rfl, Nat.le_of_ble_eq_true rfl⟩) ⟨hx, hb, hml, hown, hts⟩ hE hP hD hS hA 6 0 rfl rfl rfl rfl hl.1 rfl rfl (Nat.le_of_ble_eq_true rfl) dX6_copy_50 (fun H locs hP hD hS => ?_)
        obtain ⟨rfl, rfl, rfl⟩ := some_p3 hf
        rw [hQ]; exact Ct.iret hx hb hr hlocks hAe hP hD hS dX6_copy_53
      · have hf := if_t hf hc
        refine lv_aload hx hb dX6_copy_39 (lv_at hl 0 rfl) ?_
        obtain ⟨x113, hg, hf⟩ := o1_s hf
        refine Ct.callV (ws' := wV g v0 u0 u1 u2 u3 k0 k1 k2 k3 h0 h1 h2 h3 s0 s1 s2 s3 c0 c1 c2 p0 r0 t0 t1 t2 t3 z0 f0 ea R N B S C P Q K X fd tl ik) (As := []) (rest := []) (st1 := [.int x113]) (c_X2_isMissing l g (ea 3) (ea 7) (X 3) hg) (cwV 0 hts gX6_copy_X2_isMissing rfl rfl rfl q_X2_isMissing ⟨Nat.le_of_ble_eq_true rfl, Nat.le_of_ble_eq_true rfl⟩) ⟨hx, hb, hml, hown, hts⟩ hE hP hD hS hA [33, 34] rfl rfl rfl rfl 2 33 rfl rfl rfl rfl hl.1 rfl rfl (Nat.le_of_ble_eq_true rfl) dX6_copy_41 (fun H locs hP hD hS => ?_)
        refine lv_if_eq (tgt := 54) hx hb dX6_copy_44 (by decide) (fun hc => ?_) (fun hc => ?_)
        · have hf := if_t hf hc
          refine lv_aload hx hb dX6_copy_54 (lv_at hl 1 rfl) ?_
          refine va_getN (D := g.1) (ci := 2) (v := .int ((X 0).2.1)) (C := RX2) (T := TX2) (N := 3) hx hb hts i_X6_copy_X2 hown hE.1 hP 27 rfl rfl 1 (by decide) (va_Nw.use rfl (hE.2.1 _ (List.mem_of_getElem? (i := 19) rfl))) (fun _ h9 => h9) rfl dX6_copy_56 ?_
          refine lv_aload hx hb dX6_copy_59 (lv_at hl 0 rfl) ?_
          refine va_getN (D := g.1) (ci := 2) (v := .int ((X 3).2.1)) (C := RX2) (T := TX2) (N := 3) hx hb hts i_X6_copy_X2 hown hE.1 hP 33 rfl rfl 1 (by decide) (va_Nw.use rfl (hE.2.1 _ (List.mem_of_getElem? (i := 19) rfl))) (fun _ h9 => h9) rfl dX6_copy_61 ?_
          refine lv_icmp_eq (tgt := 74) hx hb dX6_copy_64 (by decide) (fun hc => ?_) (fun hc => ?_)
          · have hf := if_t hf hc
            refine lv_aload hx hb dX6_copy_74 (lv_at hl 1 rfl) ?_
            refine lv_iload_n hx hb dX6_copy_76 rfl (lv_at hl 4 rfl) ?_
            refine lv_iload hx hb dX6_copy_77 (lv_at hl 7 rfl) ?_
            obtain ⟨x114, hg, hf⟩ := o1_s hf
            refine Ct.callV (ws' := wV g v0 u0 u1 u2 u3 k0 k1 k2 k3 h0 h1 h2 h3 s0 s1 s2 s3 c0 c1 c2 p0 r0 t0 t1 t2 t3 z0 f0 ea R N B S C P Q K X fd tl ik) (As := [.int a2, .int a5]) (rest := []) (st1 := [.int x114]) (c_X2_hasRange l g (ea 0) (ea 4) (X 0) a2 a5 hg) (cwV 2 hts gX6_copy_X2_hasRange rfl rfl rfl q_X2_hasRange ⟨Nat.le_of_ble_eq_true rfl, Nat.le_of_ble_eq_true rfl⟩) ⟨hx, hb, hml, hown, hts⟩ hE hP hD hS hA [27, 28] rfl rfl rfl rfl 2 27 rfl rfl rfl rfl hl.1 rfl rfl (Nat.le_of_ble_eq_true rfl) dX6_copy_79 (fun H locs hP hD hS => ?_)
            refine lv_if_eq (tgt := 97) hx hb dX6_copy_82 (by decide) (fun hc => ?_) (fun hc => ?_)
            · have hf := if_t hf hc
              refine lv_aload_n hx hb dX6_copy_97 rfl (lv_at hl 2 rfl) ?_
              refine lv_ldc hx hb hown w1 dX6_copy_98 ?_
              obtain ⟨x115, fd116, hg, hf⟩ := o2_s hf
              refine Ct.callV0 (ws' := wV g v0 u0 u1 u2 u3 k0 k1 k2 k3 h0 h1 h2 h3 s0 s1 s2 s3 c0 c1 c2 p0 r0 t0 t1 t2 t3 z0 f0 ea R N B S C P Q K X fd116 tl ik) (As := [.int (-1000001 : Int32)]) (rest := []) (st1 := [.int x115]) (c_X6_finding l g v0 u0 u1 u2 u3 k0 k1 k2 k3 h0 h1 h2 h3 s0 s1 s2 s3 c0 c1 c2 p0 r0 t0 t1 t2 t3 z0 f0 ea R N B S C P Q K X fd tl ik (-1000001 : Int32) hg) (cwV 1 hts gX6_copy_X6_finding rfl rfl rfl q_X6_finding ⟨Nat.le_of_ble_eq_true rfl, Nat.le_of_ble_eq_true rfl⟩) ⟨hx, hb, hml, hown, hts⟩ hE hP hD hS hA 6 0 rfl rfl rfl rfl hl.1 rfl rfl (Nat.le_of_ble_eq_true rfl) dX6_copy_100 (fun H locs hP hD hS => ?_)
              obtain ⟨rfl, rfl, rfl⟩ := some_p3 hf
              rw [hQ]; exact Ct.iret hx hb hr hlocks hAe hP hD hS dX6_copy_103
            · have hf := if_f hf hc
              refine lv_aload hx hb dX6_copy_85 (lv_at hl 0 rfl) ?_
              refine lv_iload hx hb dX6_copy_87 (lv_at hl 6 rfl) ?_
              refine lv_iload hx hb dX6_copy_89 (lv_at hl 7 rfl) ?_
              obtain ⟨x117, hg, hf⟩ := o1_s hf
              refine Ct.callV (ws' := wV g v0 u0 u1 u2 u3 k0 k1 k2 k3 h0 h1 h2 h3 s0 s1 s2 s3 c0 c1 c2 p0 r0 t0 t1 t2 t3 z0 f0 ea R N B S C P Q K X fd tl ik) (As := [.int a4, .int a5]) (rest := []) (st1 := [.int x117]) (c_X2_hasRange l g (ea 3) (ea 7) (X 3) a4 a5 hg) (cwV 2 hts gX6_copy_X2_hasRange rfl rfl rfl q_X2_hasRange ⟨Nat.le_of_ble_eq_true rfl, Nat.le_of_ble_eq_true rfl⟩) ⟨hx, hb, hml, hown, hts⟩ hE hP hD hS hA [33, 34] rfl rfl rfl rfl 2 33 rfl rfl rfl rfl hl.1 rfl rfl (Nat.le_of_ble_eq_true rfl) dX6_copy_91 (fun H locs hP hD hS => ?_)
              refine lv_if_ne (tgt := 104) hx hb dX6_copy_94 (by decide) (fun hc => ?_) (fun hc => ?_)
              · have hf := if_f hf hc
                refine lv_aload hx hb dX6_copy_104 (lv_at hl 1 rfl) ?_
                refine va_getN (D := g.1) (ci := 2) (v := .ref (ea 4)) (C := RX2) (T := TX2) (N := 3) hx hb hts i_X6_copy_X2 hown hE.1 hP 27 rfl rfl 0 (by decide) (va_Nw.use rfl (hE.2.1 _ (List.mem_of_getElem? (i := 18) rfl))) (fun _ h9 => h9) rfl dX6_copy_106 ?_
                refine lv_iload_n hx hb dX6_copy_109 rfl (lv_at hl 4 rfl) ?_
                refine lv_aload hx hb dX6_copy_110 (lv_at hl 0 rfl) ?_
                refine va_getN (D := g.1) (ci := 2) (v := .ref (ea 7)) (C := RX2) (T := TX2) (N := 3) hx hb hts i_X6_copy_X2 hown hE.1 hP 33 rfl rfl 0 (by decide) (va_Nw.use rfl (hE.2.1 _ (List.mem_of_getElem? (i := 18) rfl))) (fun _ h9 => h9) rfl dX6_copy_112 ?_
                refine lv_iload hx hb dX6_copy_115 (lv_at hl 6 rfl) ?_
                refine lv_iload hx hb dX6_copy_117 (lv_at hl 7 rfl) ?_
                obtain ⟨f118, ef, hcp, hf⟩ := cp_s hf
                refine st_copy (ws' := wV g v0 u0 u1 u2 u3 k0 k1 k2 k3 h0 h1 h2 h3 s0 s1 s2 s3 c0 c1 c2 p0 r0 t0 t1 t2 t3 z0 f0 ea R N B S C P Q K (upS X 3 (f118, (X 3).2.1, (X 3).2.2)) fd tl ik) (f := ((X 0).1)) (g := ((X 3).1)) (f2 := f118) hx hb (hml.trans hl.1.symm) hown w3 w4 w5 w6 hE.1 hP hD hS 28 34 0 rfl rfl rfl ef hcp rfl (Nat.le_of_ble_eq_true rfl) (Nat.le_of_ble_eq_true rfl) dX6_copy_119 (fun H locs hP hD hS => ?_)
                refine lv_iload hx hb dX6_copy_122 (lv_at hl 7 rfl) ?_
                obtain ⟨rfl, rfl, rfl⟩ := some_p3 hf
                rw [hQ]; exact Ct.iret hx hb hr hlocks hAe hP hD hS dX6_copy_124
              · have hf := if_t hf hc
                refine lv_aload_n hx hb dX6_copy_97 rfl (lv_at hl 2 rfl) ?_
                refine lv_ldc hx hb hown w1 dX6_copy_98 ?_
                obtain ⟨x119, fd120, hg, hf⟩ := o2_s hf
                refine Ct.callV0 (ws' := wV g v0 u0 u1 u2 u3 k0 k1 k2 k3 h0 h1 h2 h3 s0 s1 s2 s3 c0 c1 c2 p0 r0 t0 t1 t2 t3 z0 f0 ea R N B S C P Q K X fd120 tl ik) (As := [.int (-1000001 : Int32)]) (rest := []) (st1 := [.int x119]) (c_X6_finding l g v0 u0 u1 u2 u3 k0 k1 k2 k3 h0 h1 h2 h3 s0 s1 s2 s3 c0 c1 c2 p0 r0 t0 t1 t2 t3 z0 f0 ea R N B S C P Q K X fd tl ik (-1000001 : Int32) hg) (cwV 1 hts gX6_copy_X6_finding rfl rfl rfl q_X6_finding ⟨Nat.le_of_ble_eq_true rfl, Nat.le_of_ble_eq_true rfl⟩) ⟨hx, hb, hml, hown, hts⟩ hE hP hD hS hA 6 0 rfl rfl rfl rfl hl.1 rfl rfl (Nat.le_of_ble_eq_true rfl) dX6_copy_100 (fun H locs hP hD hS => ?_)
                obtain ⟨rfl, rfl, rfl⟩ := some_p3 hf
                rw [hQ]; exact Ct.iret hx hb hr hlocks hAe hP hD hS dX6_copy_103
          · have hf := if_f hf hc
            refine lv_aload_n hx hb dX6_copy_67 rfl (lv_at hl 2 rfl) ?_
            refine lv_ldc hx hb hown w7 dX6_copy_68 ?_
            obtain ⟨x121, fd122, hg, hf⟩ := o2_s hf
            refine Ct.callV0 (ws' := wV g v0 u0 u1 u2 u3 k0 k1 k2 k3 h0 h1 h2 h3 s0 s1 s2 s3 c0 c1 c2 p0 r0 t0 t1 t2 t3 z0 f0 ea R N B S C P Q K X fd122 tl ik) (As := [.int (-1000003 : Int32)]) (rest := []) (st1 := [.int x121]) (c_X6_finding l g v0 u0 u1 u2 u3 k0 k1 k2 k3 h0 h1 h2 h3 s0 s1 s2 s3 c0 c1 c2 p0 r0 t0 t1 t2 t3 z0 f0 ea R N B S C P Q K X fd tl ik (-1000003 : Int32) hg) (cwV 1 hts gX6_copy_X6_finding rfl rfl rfl q_X6_finding ⟨Nat.le_of_ble_eq_true rfl, Nat.le_of_ble_eq_true rfl⟩) ⟨hx, hb, hml, hown, hts⟩ hE hP hD hS hA 6 0 rfl rfl rfl rfl hl.1 rfl rfl (Nat.le_of_ble_eq_true rfl) dX6_copy_70 (fun H locs hP hD hS => ?_)
            obtain ⟨rfl, rfl, rfl⟩ := some_p3 hf
            rw [hQ]; exact Ct.iret hx hb hr hlocks hAe hP hD hS dX6_copy_73
        · have hf := if_f hf hc
          refine lv_aload_n hx hb dX6_copy_47 rfl (lv_at hl 2 rfl) ?_
          refine lv_ldc hx hb hown w2 dX6_copy_48 ?_
          obtain ⟨x123, fd124, hg, hf⟩ := o2_s hf
          refine Ct.callV0 (ws' := wV g v0 u0 u1 u2 u3 k0 k1 k2 k3 h0 h1 h2 h3 s0 s1 s2 s3 c0 c1 c2 p0 r0 t0 t1 t2 t3 z0 f0 ea R N B S C P Q K X fd124 tl ik) (As := [.int (-1000006 : Int32)]) (rest := []) (st1 := [.int x123]) (c_X6_finding l g v0 u0 u1 u2 u3 k0 k1 k2 k3 h0 h1 h2 h3 s0 s1 s2 s3 c0 c1 c2 p0 r0 t0 t1 t2 t3 z0 f0 ea R N B S C P Q K X fd tl ik (-1000006 : Int32) hg) (cwV 1 hts gX6_copy_X6_finding rfl rfl rfl q_X6_finding ⟨Nat.le_of_ble_eq_true rfl, Nat.le_of_ble_eq_true rfl⟩) ⟨hx, hb, hml, hown, hts⟩ hE hP hD hS hA 6 0 rfl rfl rfl rfl hl.1 rfl rfl (Nat.le_of_ble_eq_true rfl) dX6_copy_50 (fun H locs hP hD hS => ?_)
          obtain ⟨rfl, rfl, rfl⟩ := some_p3 hf
          rw [hQ]; exact Ct.iret hx hb hr hlocks hAe hP hD hS dX6_copy_53
  · refine Ct.callV0 (ws' := wV g v0 u0 u1 u2 u3 k0 k1 k2 k3 h0 h1 h2 h3 s0 s1 s2 s3 c0 c1 c2 p0 r0 t0 t1 t2 t3 z0 f0 ea R N B S C P Q K X fd tl ik) (As := [.int a1]) (rest := []) (st1 := [.ref (ea 1)]) (c_X6_sheetAt l g v0 u0 u1 u2 u3 k0 k1 k2 k3 h0 h1 h2 h3 s0 s1 s2 s3 c0 c1 c2 p0 r0 t0 t1 t2 t3 z0 f0 ea R N B S C P Q K X fd tl ik 1 (by decide) a1 hs) (cwV 1 hts gX6_copy_X6_sheetAt rfl rfl rfl q_X6_sheetAt ⟨Nat.le_of_ble_eq_true rfl, Nat.le_of_ble_eq_true rfl⟩) ⟨hx, hb, hml, hown, hts⟩ hE hP hD hS hA 6 0 rfl rfl rfl rfl hl.1 rfl rfl (Nat.le_of_ble_eq_true rfl) dX6_copy_2 (fun H locs hP hD hS => ?_)
    refine lv_astore (lv' := [(6, .ref (ea 1)), (0, .ref v0), (1, .int a1), (2, .int a2), (3, .int a3), (4, .int a4), (5, .int a5)]) hx hb dX6_copy_5 hl (by decide) rfl (fun ls hl => ?_)
    refine lv_aload_n hx hb dX6_copy_7 rfl (lv_at hl 1 rfl) ?_
    refine lv_iload_n hx hb dX6_copy_8 rfl (lv_at hl 4 rfl) ?_
    rcases sh_s hf with ⟨hs, hf⟩ | ⟨hs, hf⟩ | ⟨hs, hf⟩ | ⟨hs, hf⟩ | ⟨hs, hf⟩
    · refine Ct.callV0 (ws' := wV g v0 u0 u1 u2 u3 k0 k1 k2 k3 h0 h1 h2 h3 s0 s1 s2 s3 c0 c1 c2 p0 r0 t0 t1 t2 t3 z0 f0 ea R N B S C P Q K X fd tl ik) (As := [.int a3]) (rest := []) (st1 := [.null]) (c_X6_sheetAt_null l g v0 u0 u1 u2 u3 k0 k1 k2 k3 h0 h1 h2 h3 s0 s1 s2 s3 c0 c1 c2 p0 r0 t0 t1 t2 t3 z0 f0 ea R N B S C P Q K X fd tl ik a3 hs) (cwV 1 hts gX6_copy_X6_sheetAt rfl rfl rfl q_X6_sheetAt ⟨Nat.le_of_ble_eq_true rfl, Nat.le_of_ble_eq_true rfl⟩) ⟨hx, hb, hml, hown, hts⟩ hE hP hD hS hA 6 0 rfl rfl rfl rfl hl.1 rfl rfl (Nat.le_of_ble_eq_true rfl) dX6_copy_9 (fun H locs hP hD hS => ?_)
      refine lv_astoreN (lv' := [(7, .null), (6, .ref (ea 1)), (0, .ref v0), (1, .int a1), (2, .int a2), (3, .int a3), (4, .int a4), (5, .int a5)]) hx hb dX6_copy_12 hl (by decide) rfl (fun ls hl => ?_)
      refine lv_aload hx hb dX6_copy_14 (lv_at hl 1 rfl) ?_
      refine lv_ifnull hx hb dX6_copy_16 ?_
      refine lv_aloadN hx hb dX6_copy_19 (lv_at hl 0 rfl) ?_
      refine lv_ifnonnullN hx hb dX6_copy_21 ?_
      refine lv_aload_n hx hb dX6_copy_24 rfl (lv_at hl 2 rfl) ?_
      refine lv_ldc hx hb hown w1 dX6_copy_25 ?_
      obtain ⟨x107, fd108, hg, hf⟩ := o2_s hf
      refine Ct.callV0 (ws' := wV g v0 u0 u1 u2 u3 k0 k1 k2 k3 h0 h1 h2 h3 s0 s1 s2 s3 c0 c1 c2 p0 r0 t0 t1 t2 t3 z0 f0 ea R N B S C P Q K X fd108 tl ik) (As := [.int (-1000001 : Int32)]) (rest := []) (st1 := [.int x107]) (c_X6_finding l g v0 u0 u1 u2 u3 k0 k1 k2 k3 h0 h1 h2 h3 s0 s1 s2 s3 c0 c1 c2 p0 r0 t0 t1 t2 t3 z0 f0 ea R N B S C P Q K X fd tl ik (-1000001 : Int32) hg) (cwV 1 hts gX6_copy_X6_finding rfl rfl rfl q_X6_finding ⟨Nat.le_of_ble_eq_true rfl, Nat.le_of_ble_eq_true rfl⟩) ⟨hx, hb, hml, hown, hts⟩ hE hP hD hS hA 6 0 rfl rfl rfl rfl hl.1 rfl rfl (Nat.le_of_ble_eq_true rfl) dX6_copy_27 (fun H locs hP hD hS => ?_)
      obtain ⟨rfl, rfl, rfl⟩ := some_p3 hf
      rw [hQ]; exact Ct.iret hx hb hr hlocks hAe hP hD hS dX6_copy_30
    · refine Ct.callV0 (ws' := wV g v0 u0 u1 u2 u3 k0 k1 k2 k3 h0 h1 h2 h3 s0 s1 s2 s3 c0 c1 c2 p0 r0 t0 t1 t2 t3 z0 f0 ea R N B S C P Q K X fd tl ik) (As := [.int a3]) (rest := []) (st1 := [.ref (ea 0)]) (c_X6_sheetAt l g v0 u0 u1 u2 u3 k0 k1 k2 k3 h0 h1 h2 h3 s0 s1 s2 s3 c0 c1 c2 p0 r0 t0 t1 t2 t3 z0 f0 ea R N B S C P Q K X fd tl ik 0 (by decide) a3 hs) (cwV 1 hts gX6_copy_X6_sheetAt rfl rfl rfl q_X6_sheetAt ⟨Nat.le_of_ble_eq_true rfl, Nat.le_of_ble_eq_true rfl⟩) ⟨hx, hb, hml, hown, hts⟩ hE hP hD hS hA 6 0 rfl rfl rfl rfl hl.1 rfl rfl (Nat.le_of_ble_eq_true rfl) dX6_copy_9 (fun H locs hP hD hS => ?_)
      refine lv_astore (lv' := [(7, .ref (ea 0)), (6, .ref (ea 1)), (0, .ref v0), (1, .int a1), (2, .int a2), (3, .int a3), (4, .int a4), (5, .int a5)]) hx hb dX6_copy_12 hl (by decide) rfl (fun ls hl => ?_)
      refine lv_aload hx hb dX6_copy_14 (lv_at hl 1 rfl) ?_
      refine lv_ifnull hx hb dX6_copy_16 ?_
      refine lv_aload hx hb dX6_copy_19 (lv_at hl 0 rfl) ?_
      refine lv_ifnonnull (tgt := 31) hx hb dX6_copy_21 (by decide) ?_
      refine lv_aload hx hb dX6_copy_31 (lv_at hl 1 rfl) ?_
      obtain ⟨x110, hg, hf⟩ := o1_s hf
      refine Ct.callV (ws' := wV g v0 u0 u1 u2 u3 k0 k1 k2 k3 h0 h1 h2 h3 s0 s1 s2 s3 c0 c1 c2 p0 r0 t0 t1 t2 t3 z0 f0 ea R N B S C P Q K X fd tl ik) (As := []) (rest := []) (st1 := [.int x110]) (c_X2_isMissing l g (ea 1) (ea 5) (X 1) hg) (cwV 0 hts gX6_copy_X2_isMissing rfl rfl rfl q_X2_isMissing ⟨Nat.le_of_ble_eq_true rfl, Nat.le_of_ble_eq_true rfl⟩) ⟨hx, hb, hml, hown, hts⟩ hE hP hD hS hA [29, 30] rfl rfl rfl rfl 2 29 rfl rfl rfl rfl hl.1 rfl rfl (Nat.le_of_ble_eq_true rfl) dX6_copy_33 (fun H locs hP hD hS => ?_)
      refine lv_if_ne (tgt := 47) hx hb dX6_copy_36 (by decide) (fun hc => ?_) (fun hc => ?_)
      · have hf := if_f hf hc
        refine lv_aload_n hx hb dX6_copy_47 rfl (lv_at hl 2 rfl) ?_
        refine lv_ldc hx hb hown w2 dX6_copy_48 ?_
        obtain ⟨x111, fd112, hg, hf⟩ := o2_s hf
        refine Ct.callV0 (ws' := wV g v0 u0 u1 u2 u3 k0 k1 k2 k3 h0 h1 h2 h3 s0 s1 s2 s3 c0 c1 c2 p0 r0 t0 t1 t2 t3 z0 f0 ea R N B S C P Q K X fd112 tl ik) (As := [.int (-1000006 : Int32)]) (rest := []) (st1 := [.int x111]) (c_X6_finding l g v0 u0 u1 u2 u3 k0 k1 k2 k3 h0 h1 h2 h3 s0 s1 s2 s3 c0 c1 c2 p0 r0 t0 t1 t2 t3 z0 f0 ea R N B S C P Q K X fd tl ik (-1000006 : Int32) hg) (cwV 1 hts gX6_copy_X6_finding rfl rfl rfl q_X6_finding ⟨Nat.le_of_ble_eq_true rfl, Nat.le_of_ble_eq_true rfl⟩) ⟨hx, hb, hml, hown, hts⟩ hE hP hD hS hA 6 0 rfl rfl rfl rfl hl.1 rfl rfl (Nat.le_of_ble_eq_true rfl) dX6_copy_50 (fun H locs hP hD hS => ?_)
        obtain ⟨rfl, rfl, rfl⟩ := some_p3 hf
        rw [hQ]; exact Ct.iret hx hb hr hlocks hAe hP hD hS dX6_copy_53
      · have hf := if_t hf hc
        refine lv_aload hx hb dX6_copy_39 (lv_at hl 0 rfl) ?_
        obtain ⟨x113, hg, hf⟩ := o1_s hf
        refine Ct.callV (ws' := wV g v0 u0 u1 u2 u3 k0 k1 k2 k3 h0 h1 h2 h3 s0 s1 s2 s3 c0 c1 c2 p0 r0 t0 t1 t2 t3 z0 f0 ea R N B S C P Q K X fd tl ik) (As := []) (rest := []) (st1 := [.int x113]) (c_X2_isMissing l g (ea 0) (ea 4) (X 0) hg) (cwV 0 hts gX6_copy_X2_isMissing rfl rfl rfl q_X2_isMissing ⟨Nat.le_of_ble_eq_true rfl, Nat.le_of_ble_eq_true rfl⟩) ⟨hx, hb, hml, hown, hts⟩ hE hP hD hS hA [27, 28] rfl rfl rfl rfl 2 27 rfl rfl rfl rfl hl.1 rfl rfl (Nat.le_of_ble_eq_true rfl) dX6_copy_41 (fun H locs hP hD hS => ?_)
        refine lv_if_eq (tgt := 54) hx hb dX6_copy_44 (by decide) (fun hc => ?_) (fun hc => ?_)
        · have hf := if_t hf hc
          refine lv_aload hx hb dX6_copy_54 (lv_at hl 1 rfl) ?_
          refine va_getN (D := g.1) (ci := 2) (v := .int ((X 1).2.1)) (C := RX2) (T := TX2) (N := 3) hx hb hts i_X6_copy_X2 hown hE.1 hP 29 rfl rfl 1 (by decide) (va_Nw.use rfl (hE.2.1 _ (List.mem_of_getElem? (i := 19) rfl))) (fun _ h9 => h9) rfl dX6_copy_56 ?_
          refine lv_aload hx hb dX6_copy_59 (lv_at hl 0 rfl) ?_
          refine va_getN (D := g.1) (ci := 2) (v := .int ((X 0).2.1)) (C := RX2) (T := TX2) (N := 3) hx hb hts i_X6_copy_X2 hown hE.1 hP 27 rfl rfl 1 (by decide) (va_Nw.use rfl (hE.2.1 _ (List.mem_of_getElem? (i := 19) rfl))) (fun _ h9 => h9) rfl dX6_copy_61 ?_
          refine lv_icmp_eq (tgt := 74) hx hb dX6_copy_64 (by decide) (fun hc => ?_) (fun hc => ?_)
          · have hf := if_t hf hc
            refine lv_aload hx hb dX6_copy_74 (lv_at hl 1 rfl) ?_
            refine lv_iload_n hx hb dX6_copy_76 rfl (lv_at hl 4 rfl) ?_
            refine lv_iload hx hb dX6_copy_77 (lv_at hl 7 rfl) ?_
            obtain ⟨x114, hg, hf⟩ := o1_s hf
            refine Ct.callV (ws' := wV g v0 u0 u1 u2 u3 k0 k1 k2 k3 h0 h1 h2 h3 s0 s1 s2 s3 c0 c1 c2 p0 r0 t0 t1 t2 t3 z0 f0 ea R N B S C P Q K X fd tl ik) (As := [.int a2, .int a5]) (rest := []) (st1 := [.int x114]) (c_X2_hasRange l g (ea 1) (ea 5) (X 1) a2 a5 hg) (cwV 2 hts gX6_copy_X2_hasRange rfl rfl rfl q_X2_hasRange ⟨Nat.le_of_ble_eq_true rfl, Nat.le_of_ble_eq_true rfl⟩) ⟨hx, hb, hml, hown, hts⟩ hE hP hD hS hA [29, 30] rfl rfl rfl rfl 2 29 rfl rfl rfl rfl hl.1 rfl rfl (Nat.le_of_ble_eq_true rfl) dX6_copy_79 (fun H locs hP hD hS => ?_)
            refine lv_if_eq (tgt := 97) hx hb dX6_copy_82 (by decide) (fun hc => ?_) (fun hc => ?_)
            · have hf := if_t hf hc
              refine lv_aload_n hx hb dX6_copy_97 rfl (lv_at hl 2 rfl) ?_
              refine lv_ldc hx hb hown w1 dX6_copy_98 ?_
              obtain ⟨x115, fd116, hg, hf⟩ := o2_s hf
              refine Ct.callV0 (ws' := wV g v0 u0 u1 u2 u3 k0 k1 k2 k3 h0 h1 h2 h3 s0 s1 s2 s3 c0 c1 c2 p0 r0 t0 t1 t2 t3 z0 f0 ea R N B S C P Q K X fd116 tl ik) (As := [.int (-1000001 : Int32)]) (rest := []) (st1 := [.int x115]) (c_X6_finding l g v0 u0 u1 u2 u3 k0 k1 k2 k3 h0 h1 h2 h3 s0 s1 s2 s3 c0 c1 c2 p0 r0 t0 t1 t2 t3 z0 f0 ea R N B S C P Q K X fd tl ik (-1000001 : Int32) hg) (cwV 1 hts gX6_copy_X6_finding rfl rfl rfl q_X6_finding ⟨Nat.le_of_ble_eq_true rfl, Nat.le_of_ble_eq_true rfl⟩) ⟨hx, hb, hml, hown, hts⟩ hE hP hD hS hA 6 0 rfl rfl rfl rfl hl.1 rfl rfl (Nat.le_of_ble_eq_true rfl) dX6_copy_100 (fun H locs hP hD hS => ?_)
              obtain ⟨rfl, rfl, rfl⟩ := some_p3 hf
              rw [hQ]; exact Ct.iret hx hb hr hlocks hAe hP hD hS dX6_copy_103
            · have hf := if_f hf hc
              refine lv_aload hx hb dX6_copy_85 (lv_at hl 0 rfl) ?_
              refine lv_iload hx hb dX6_copy_87 (lv_at hl 6 rfl) ?_
              refine lv_iload hx hb dX6_copy_89 (lv_at hl 7 rfl) ?_
              obtain ⟨x117, hg, hf⟩ := o1_s hf
              refine Ct.callV (ws' := wV g v0 u0 u1 u2 u3 k0 k1 k2 k3 h0 h1 h2 h3 s0 s1 s2 s3 c0 c1 c2 p0 r0 t0 t1 t2 t3 z0 f0 ea R N B S C P Q K X fd tl ik) (As := [.int a4, .int a5]) (rest := []) (st1 := [.int x117]) (c_X2_hasRange l g (ea 0) (ea 4) (X 0) a4 a5 hg) (cwV 2 hts gX6_copy_X2_hasRange rfl rfl rfl q_X2_hasRange ⟨Nat.le_of_ble_eq_true rfl, Nat.le_of_ble_eq_true rfl⟩) ⟨hx, hb, hml, hown, hts⟩ hE hP hD hS hA [27, 28] rfl rfl rfl rfl 2 27 rfl rfl rfl rfl hl.1 rfl rfl (Nat.le_of_ble_eq_true rfl) dX6_copy_91 (fun H locs hP hD hS => ?_)
              refine lv_if_ne (tgt := 104) hx hb dX6_copy_94 (by decide) (fun hc => ?_) (fun hc => ?_)
              · have hf := if_f hf hc
                refine lv_aload hx hb dX6_copy_104 (lv_at hl 1 rfl) ?_
                refine va_getN (D := g.1) (ci := 2) (v := .ref (ea 5)) (C := RX2) (T := TX2) (N := 3) hx hb hts i_X6_copy_X2 hown hE.1 hP 29 rfl rfl 0 (by decide) (va_Nw.use rfl (hE.2.1 _ (List.mem_of_getElem? (i := 18) rfl))) (fun _ h9 => h9) rfl dX6_copy_106 ?_
                refine lv_iload_n hx hb dX6_copy_109 rfl (lv_at hl 4 rfl) ?_
                refine lv_aload hx hb dX6_copy_110 (lv_at hl 0 rfl) ?_
                refine va_getN (D := g.1) (ci := 2) (v := .ref (ea 4)) (C := RX2) (T := TX2) (N := 3) hx hb hts i_X6_copy_X2 hown hE.1 hP 27 rfl rfl 0 (by decide) (va_Nw.use rfl (hE.2.1 _ (List.mem_of_getElem? (i := 18) rfl))) (fun _ h9 => h9) rfl dX6_copy_112 ?_
                refine lv_iload hx hb dX6_copy_115 (lv_at hl 6 rfl) ?_
                refine lv_iload hx hb dX6_copy_117 (lv_at hl 7 rfl) ?_
                obtain ⟨f118, ef, hcp, hf⟩ := cp_s hf
                refine st_copy (ws' := wV g v0 u0 u1 u2 u3 k0 k1 k2 k3 h0 h1 h2 h3 s0 s1 s2 s3 c0 c1 c2 p0 r0 t0 t1 t2 t3 z0 f0 ea R N B S C P Q K (upS X 0 (f118, (X 0).2.1, (X 0).2.2)) fd tl ik) (f := ((X 1).1)) (g := ((X 0).1)) (f2 := f118) hx hb (hml.trans hl.1.symm) hown w3 w4 w5 w6 hE.1 hP hD hS 30 28 0 rfl rfl rfl ef hcp rfl (Nat.le_of_ble_eq_true rfl) (Nat.le_of_ble_eq_true rfl) dX6_copy_119 (fun H locs hP hD hS => ?_)
                refine lv_iload hx hb dX6_copy_122 (lv_at hl 7 rfl) ?_
                obtain ⟨rfl, rfl, rfl⟩ := some_p3 hf
                rw [hQ]; exact Ct.iret hx hb hr hlocks hAe hP hD hS dX6_copy_124
              · have hf := if_t hf hc
                refine lv_aload_n hx hb dX6_copy_97 rfl (lv_at hl 2 rfl) ?_
                refine lv_ldc hx hb hown w1 dX6_copy_98 ?_
                obtain ⟨x119, fd120, hg, hf⟩ := o2_s hf
                refine Ct.callV0 (ws' := wV g v0 u0 u1 u2 u3 k0 k1 k2 k3 h0 h1 h2 h3 s0 s1 s2 s3 c0 c1 c2 p0 r0 t0 t1 t2 t3 z0 f0 ea R N B S C P Q K X fd120 tl ik) (As := [.int (-1000001 : Int32)]) (rest := []) (st1 := [.int x119]) (c_X6_finding l g v0 u0 u1 u2 u3 k0 k1 k2 k3 h0 h1 h2 h3 s0 s1 s2 s3 c0 c1 c2 p0 r0 t0 t1 t2 t3 z0 f0 ea R N B S C P Q K X fd tl ik (-1000001 : Int32) hg) (cwV 1 hts gX6_copy_X6_finding rfl rfl rfl q_X6_finding ⟨Nat.le_of_ble_eq_true rfl, Nat.le_of_ble_eq_true rfl⟩) ⟨hx, hb, hml, hown, hts⟩ hE hP hD hS hA 6 0 rfl rfl rfl rfl hl.1 rfl rfl (Nat.le_of_ble_eq_true rfl) dX6_copy_100 (fun H locs hP hD hS => ?_)
                obtain ⟨rfl, rfl, rfl⟩ := some_p3 hf
                rw [hQ]; exact Ct.iret hx hb hr hlocks hAe hP hD hS dX6_copy_103
          · have hf := if_f hf hc
            refine lv_aload_n hx hb dX6_copy_67 rfl (lv_at hl 2 rfl) ?_
            refine lv_ldc hx hb hown w7 dX6_copy_68 ?_
            obtain ⟨x121, fd122, hg, hf⟩ := o2_s hf
            refine Ct.callV0 (ws' := wV g v0 u0 u1 u2 u3 k0 k1 k2 k3 h0 h1 h2 h3 s0 s1 s2 s3 c0 c1 c2 p0 r0 t0 t1 t2 t3 z0 f0 ea R N B S C P Q K X fd122 tl ik) (As := [.int (-1000003 : Int32)]) (rest := []) (st1 := [.int x121]) (c_X6_finding l g v0 u0 u1 u2 u3 k0 k1 k2 k3 h0 h1 h2 h3 s0 s1 s2 s3 c0 c1 c2 p0 r0 t0 t1 t2 t3 z0 f0 ea R N B S C P Q K X fd tl ik (-1000003 : Int32) hg) (cwV 1 hts gX6_copy_X6_finding rfl rfl rfl q_X6_finding ⟨Nat.le_of_ble_eq_true rfl, Nat.le_of_ble_eq_true rfl⟩) ⟨hx, hb, hml, hown, hts⟩ hE hP hD hS hA 6 0 rfl rfl rfl rfl hl.1 rfl rfl (Nat.le_of_ble_eq_true rfl) dX6_copy_70 (fun H locs hP hD hS => ?_)
            obtain ⟨rfl, rfl, rfl⟩ := some_p3 hf
            rw [hQ]; exact Ct.iret hx hb hr hlocks hAe hP hD hS dX6_copy_73
        · have hf := if_f hf hc
          refine lv_aload_n hx hb dX6_copy_47 rfl (lv_at hl 2 rfl) ?_
          refine lv_ldc hx hb hown w2 dX6_copy_48 ?_
          obtain ⟨x123, fd124, hg, hf⟩ := o2_s hf
          refine Ct.callV0 (ws' := wV g v0 u0 u1 u2 u3 k0 k1 k2 k3 h0 h1 h2 h3 s0 s1 s2 s3 c0 c1 c2 p0 r0 t0 t1 t2 t3 z0 f0 ea R N B S C P Q K X fd124 tl ik) (As := [.int (-1000006 : Int32)]) (rest := []) (st1 := [.int x123]) (c_X6_finding l g v0 u0 u1 u2 u3 k0 k1 k2 k3 h0 h1 h2 h3 s0 s1 s2 s3 c0 c1 c2 p0 r0 t0 t1 t2 t3 z0 f0 ea R N B S C P Q K X fd tl ik (-1000006 : Int32) hg) (cwV 1 hts gX6_copy_X6_finding rfl rfl rfl q_X6_finding ⟨Nat.le_of_ble_eq_true rfl, Nat.le_of_ble_eq_true rfl⟩) ⟨hx, hb, hml, hown, hts⟩ hE hP hD hS hA 6 0 rfl rfl rfl rfl hl.1 rfl rfl (Nat.le_of_ble_eq_true rfl) dX6_copy_50 (fun H locs hP hD hS => ?_)
          obtain ⟨rfl, rfl, rfl⟩ := some_p3 hf
          rw [hQ]; exact Ct.iret hx hb hr hlocks hAe hP hD hS dX6_copy_53
    · refine Ct.callV0 (ws' := wV g v0 u0 u1 u2 u3 k0 k1 k2 k3 h0 h1 h2 h3 s0 s1 s2 s3 c0 c1 c2 p0 r0 t0 t1 t2 t3 z0 f0 ea R N B S C P Q K X fd tl ik) (As := [.int a3]) (rest := []) (st1 := [.ref (ea 1)]) (c_X6_sheetAt l g v0 u0 u1 u2 u3 k0 k1 k2 k3 h0 h1 h2 h3 s0 s1 s2 s3 c0 c1 c2 p0 r0 t0 t1 t2 t3 z0 f0 ea R N B S C P Q K X fd tl ik 1 (by decide) a3 hs) (cwV 1 hts gX6_copy_X6_sheetAt rfl rfl rfl q_X6_sheetAt ⟨Nat.le_of_ble_eq_true rfl, Nat.le_of_ble_eq_true rfl⟩) ⟨hx, hb, hml, hown, hts⟩ hE hP hD hS hA 6 0 rfl rfl rfl rfl hl.1 rfl rfl (Nat.le_of_ble_eq_true rfl) dX6_copy_9 (fun H locs hP hD hS => ?_)
      refine lv_astore (lv' := [(7, .ref (ea 1)), (6, .ref (ea 1)), (0, .ref v0), (1, .int a1), (2, .int a2), (3, .int a3), (4, .int a4), (5, .int a5)]) hx hb dX6_copy_12 hl (by decide) rfl (fun ls hl => ?_)
      refine lv_aload hx hb dX6_copy_14 (lv_at hl 1 rfl) ?_
      refine lv_ifnull hx hb dX6_copy_16 ?_
      refine lv_aload hx hb dX6_copy_19 (lv_at hl 0 rfl) ?_
      refine lv_ifnonnull (tgt := 31) hx hb dX6_copy_21 (by decide) ?_
      refine lv_aload hx hb dX6_copy_31 (lv_at hl 1 rfl) ?_
      obtain ⟨x110, hg, hf⟩ := o1_s hf
      refine Ct.callV (ws' := wV g v0 u0 u1 u2 u3 k0 k1 k2 k3 h0 h1 h2 h3 s0 s1 s2 s3 c0 c1 c2 p0 r0 t0 t1 t2 t3 z0 f0 ea R N B S C P Q K X fd tl ik) (As := []) (rest := []) (st1 := [.int x110]) (c_X2_isMissing l g (ea 1) (ea 5) (X 1) hg) (cwV 0 hts gX6_copy_X2_isMissing rfl rfl rfl q_X2_isMissing ⟨Nat.le_of_ble_eq_true rfl, Nat.le_of_ble_eq_true rfl⟩) ⟨hx, hb, hml, hown, hts⟩ hE hP hD hS hA [29, 30] rfl rfl rfl rfl 2 29 rfl rfl rfl rfl hl.1 rfl rfl (Nat.le_of_ble_eq_true rfl) dX6_copy_33 (fun H locs hP hD hS => ?_)
      refine lv_if_ne (tgt := 47) hx hb dX6_copy_36 (by decide) (fun hc => ?_) (fun hc => ?_)
      · have hf := if_f hf hc
        refine lv_aload_n hx hb dX6_copy_47 rfl (lv_at hl 2 rfl) ?_
        refine lv_ldc hx hb hown w2 dX6_copy_48 ?_
        obtain ⟨x111, fd112, hg, hf⟩ := o2_s hf
        refine Ct.callV0 (ws' := wV g v0 u0 u1 u2 u3 k0 k1 k2 k3 h0 h1 h2 h3 s0 s1 s2 s3 c0 c1 c2 p0 r0 t0 t1 t2 t3 z0 f0 ea R N B S C P Q K X fd112 tl ik) (As := [.int (-1000006 : Int32)]) (rest := []) (st1 := [.int x111]) (c_X6_finding l g v0 u0 u1 u2 u3 k0 k1 k2 k3 h0 h1 h2 h3 s0 s1 s2 s3 c0 c1 c2 p0 r0 t0 t1 t2 t3 z0 f0 ea R N B S C P Q K X fd tl ik (-1000006 : Int32) hg) (cwV 1 hts gX6_copy_X6_finding rfl rfl rfl q_X6_finding ⟨Nat.le_of_ble_eq_true rfl, Nat.le_of_ble_eq_true rfl⟩) ⟨hx, hb, hml, hown, hts⟩ hE hP hD hS hA 6 0 rfl rfl rfl rfl hl.1 rfl rfl (Nat.le_of_ble_eq_true rfl) dX6_copy_50 (fun H locs hP hD hS => ?_)
        obtain ⟨rfl, rfl, rfl⟩ := some_p3 hf
        rw [hQ]; exact Ct.iret hx hb hr hlocks hAe hP hD hS dX6_copy_53
      · have hf := if_t hf hc
        refine lv_aload hx hb dX6_copy_39 (lv_at hl 0 rfl) ?_
        obtain ⟨x113, hg, hf⟩ := o1_s hf
        refine Ct.callV (ws' := wV g v0 u0 u1 u2 u3 k0 k1 k2 k3 h0 h1 h2 h3 s0 s1 s2 s3 c0 c1 c2 p0 r0 t0 t1 t2 t3 z0 f0 ea R N B S C P Q K X fd tl ik) (As := []) (rest := []) (st1 := [.int x113]) (c_X2_isMissing l g (ea 1) (ea 5) (X 1) hg) (cwV 0 hts gX6_copy_X2_isMissing rfl rfl rfl q_X2_isMissing ⟨Nat.le_of_ble_eq_true rfl, Nat.le_of_ble_eq_true rfl⟩) ⟨hx, hb, hml, hown, hts⟩ hE hP hD hS hA [29, 30] rfl rfl rfl rfl 2 29 rfl rfl rfl rfl hl.1 rfl rfl (Nat.le_of_ble_eq_true rfl) dX6_copy_41 (fun H locs hP hD hS => ?_)
        refine lv_if_eq (tgt := 54) hx hb dX6_copy_44 (by decide) (fun hc => ?_) (fun hc => ?_)
        · have hf := if_t hf hc
          refine lv_aload hx hb dX6_copy_54 (lv_at hl 1 rfl) ?_
          refine va_getN (D := g.1) (ci := 2) (v := .int ((X 1).2.1)) (C := RX2) (T := TX2) (N := 3) hx hb hts i_X6_copy_X2 hown hE.1 hP 29 rfl rfl 1 (by decide) (va_Nw.use rfl (hE.2.1 _ (List.mem_of_getElem? (i := 19) rfl))) (fun _ h9 => h9) rfl dX6_copy_56 ?_
          refine lv_aload hx hb dX6_copy_59 (lv_at hl 0 rfl) ?_
          refine va_getN (D := g.1) (ci := 2) (v := .int ((X 1).2.1)) (C := RX2) (T := TX2) (N := 3) hx hb hts i_X6_copy_X2 hown hE.1 hP 29 rfl rfl 1 (by decide) (va_Nw.use rfl (hE.2.1 _ (List.mem_of_getElem? (i := 19) rfl))) (fun _ h9 => h9) rfl dX6_copy_61 ?_
          refine lv_icmp_eq (tgt := 74) hx hb dX6_copy_64 (by decide) (fun hc => ?_) (fun hc => ?_)
          · have hf := if_t hf hc
            refine lv_aload hx hb dX6_copy_74 (lv_at hl 1 rfl) ?_
            refine lv_iload_n hx hb dX6_copy_76 rfl (lv_at hl 4 rfl) ?_
            refine lv_iload hx hb dX6_copy_77 (lv_at hl 7 rfl) ?_
            obtain ⟨x114, hg, hf⟩ := o1_s hf
            refine Ct.callV (ws' := wV g v0 u0 u1 u2 u3 k0 k1 k2 k3 h0 h1 h2 h3 s0 s1 s2 s3 c0 c1 c2 p0 r0 t0 t1 t2 t3 z0 f0 ea R N B S C P Q K X fd tl ik) (As := [.int a2, .int a5]) (rest := []) (st1 := [.int x114]) (c_X2_hasRange l g (ea 1) (ea 5) (X 1) a2 a5 hg) (cwV 2 hts gX6_copy_X2_hasRange rfl rfl rfl q_X2_hasRange ⟨Nat.le_of_ble_eq_true rfl, Nat.le_of_ble_eq_true rfl⟩) ⟨hx, hb, hml, hown, hts⟩ hE hP hD hS hA [29, 30] rfl rfl rfl rfl 2 29 rfl rfl rfl rfl hl.1 rfl rfl (Nat.le_of_ble_eq_true rfl) dX6_copy_79 (fun H locs hP hD hS => ?_)
            refine lv_if_eq (tgt := 97) hx hb dX6_copy_82 (by decide) (fun hc => ?_) (fun hc => ?_)
            · have hf := if_t hf hc
              refine lv_aload_n hx hb dX6_copy_97 rfl (lv_at hl 2 rfl) ?_
              refine lv_ldc hx hb hown w1 dX6_copy_98 ?_
              obtain ⟨x115, fd116, hg, hf⟩ := o2_s hf
              refine Ct.callV0 (ws' := wV g v0 u0 u1 u2 u3 k0 k1 k2 k3 h0 h1 h2 h3 s0 s1 s2 s3 c0 c1 c2 p0 r0 t0 t1 t2 t3 z0 f0 ea R N B S C P Q K X fd116 tl ik) (As := [.int (-1000001 : Int32)]) (rest := []) (st1 := [.int x115]) (c_X6_finding l g v0 u0 u1 u2 u3 k0 k1 k2 k3 h0 h1 h2 h3 s0 s1 s2 s3 c0 c1 c2 p0 r0 t0 t1 t2 t3 z0 f0 ea R N B S C P Q K X fd tl ik (-1000001 : Int32) hg) (cwV 1 hts gX6_copy_X6_finding rfl rfl rfl q_X6_finding ⟨Nat.le_of_ble_eq_true rfl, Nat.le_of_ble_eq_true rfl⟩) ⟨hx, hb, hml, hown, hts⟩ hE hP hD hS hA 6 0 rfl rfl rfl rfl hl.1 rfl rfl (Nat.le_of_ble_eq_true rfl) dX6_copy_100 (fun H locs hP hD hS => ?_)
              obtain ⟨rfl, rfl, rfl⟩ := some_p3 hf
              rw [hQ]; exact Ct.iret hx hb hr hlocks hAe hP hD hS dX6_copy_103
            · have hf := if_f hf hc
              refine lv_aload hx hb dX6_copy_85 (lv_at hl 0 rfl) ?_
              refine lv_iload hx hb dX6_copy_87 (lv_at hl 6 rfl) ?_
              refine lv_iload hx hb dX6_copy_89 (lv_at hl 7 rfl) ?_
              obtain ⟨x117, hg, hf⟩ := o1_s hf
              refine Ct.callV (ws' := wV g v0 u0 u1 u2 u3 k0 k1 k2 k3 h0 h1 h2 h3 s0 s1 s2 s3 c0 c1 c2 p0 r0 t0 t1 t2 t3 z0 f0 ea R N B S C P Q K X fd tl ik) (As := [.int a4, .int a5]) (rest := []) (st1 := [.int x117]) (c_X2_hasRange l g (ea 1) (ea 5) (X 1) a4 a5 hg) (cwV 2 hts gX6_copy_X2_hasRange rfl rfl rfl q_X2_hasRange ⟨Nat.le_of_ble_eq_true rfl, Nat.le_of_ble_eq_true rfl⟩) ⟨hx, hb, hml, hown, hts⟩ hE hP hD hS hA [29, 30] rfl rfl rfl rfl 2 29 rfl rfl rfl rfl hl.1 rfl rfl (Nat.le_of_ble_eq_true rfl) dX6_copy_91 (fun H locs hP hD hS => ?_)
              refine lv_if_ne (tgt := 104) hx hb dX6_copy_94 (by decide) (fun hc => ?_) (fun hc => ?_)
              · have hf := if_f hf hc
                refine lv_aload hx hb dX6_copy_104 (lv_at hl 1 rfl) ?_
                refine va_getN (D := g.1) (ci := 2) (v := .ref (ea 5)) (C := RX2) (T := TX2) (N := 3) hx hb hts i_X6_copy_X2 hown hE.1 hP 29 rfl rfl 0 (by decide) (va_Nw.use rfl (hE.2.1 _ (List.mem_of_getElem? (i := 18) rfl))) (fun _ h9 => h9) rfl dX6_copy_106 ?_
                refine lv_iload_n hx hb dX6_copy_109 rfl (lv_at hl 4 rfl) ?_
                refine lv_aload hx hb dX6_copy_110 (lv_at hl 0 rfl) ?_
                refine va_getN (D := g.1) (ci := 2) (v := .ref (ea 5)) (C := RX2) (T := TX2) (N := 3) hx hb hts i_X6_copy_X2 hown hE.1 hP 29 rfl rfl 0 (by decide) (va_Nw.use rfl (hE.2.1 _ (List.mem_of_getElem? (i := 18) rfl))) (fun _ h9 => h9) rfl dX6_copy_112 ?_
                refine lv_iload hx hb dX6_copy_115 (lv_at hl 6 rfl) ?_
                refine lv_iload hx hb dX6_copy_117 (lv_at hl 7 rfl) ?_
                obtain ⟨f118, ef, hcp, hf⟩ := cp_s hf
                refine st_copy (ws' := wV g v0 u0 u1 u2 u3 k0 k1 k2 k3 h0 h1 h2 h3 s0 s1 s2 s3 c0 c1 c2 p0 r0 t0 t1 t2 t3 z0 f0 ea R N B S C P Q K (upS X 1 (f118, (X 1).2.1, (X 1).2.2)) fd tl ik) (f := ((X 1).1)) (g := ((X 1).1)) (f2 := f118) hx hb (hml.trans hl.1.symm) hown w3 w4 w5 w6 hE.1 hP hD hS 30 30 0 rfl rfl rfl ef hcp rfl (Nat.le_of_ble_eq_true rfl) (Nat.le_of_ble_eq_true rfl) dX6_copy_119 (fun H locs hP hD hS => ?_)
                refine lv_iload hx hb dX6_copy_122 (lv_at hl 7 rfl) ?_
                obtain ⟨rfl, rfl, rfl⟩ := some_p3 hf
                rw [hQ]; exact Ct.iret hx hb hr hlocks hAe hP hD hS dX6_copy_124
              · have hf := if_t hf hc
                refine lv_aload_n hx hb dX6_copy_97 rfl (lv_at hl 2 rfl) ?_
                refine lv_ldc hx hb hown w1 dX6_copy_98 ?_
                obtain ⟨x119, fd120, hg, hf⟩ := o2_s hf
                refine Ct.callV0 (ws' := wV g v0 u0 u1 u2 u3 k0 k1 k2 k3 h0 h1 h2 h3 s0 s1 s2 s3 c0 c1 c2 p0 r0 t0 t1 t2 t3 z0 f0 ea R N B S C P Q K X fd120 tl ik) (As := [.int (-1000001 : Int32)]) (rest := []) (st1 := [.int x119]) (c_X6_finding l g v0 u0 u1 u2 u3 k0 k1 k2 k3 h0 h1 h2 h3 s0 s1 s2 s3 c0 c1 c2 p0 r0 t0 t1 t2 t3 z0 f0 ea R N B S C P Q K X fd tl ik (-1000001 : Int32) hg) (cwV 1 hts gX6_copy_X6_finding rfl rfl rfl q_X6_finding ⟨Nat.le_of_ble_eq_true rfl, Nat.le_of_ble_eq_true rfl⟩) ⟨hx, hb, hml, hown, hts⟩ hE hP hD hS hA 6 0 rfl rfl rfl rfl hl.1 rfl rfl (Nat.le_of_ble_eq_true rfl) dX6_copy_100 (fun H locs hP hD hS => ?_)
                obtain ⟨rfl, rfl, rfl⟩ := some_p3 hf
                rw [hQ]; exact Ct.iret hx hb hr hlocks hAe hP hD hS dX6_copy_103
          · have hf := if_f hf hc
            refine lv_aload_n hx hb dX6_copy_67 rfl (lv_at hl 2 rfl) ?_
            refine lv_ldc hx hb hown w7 dX6_copy_68 ?_
            obtain ⟨x121, fd122, hg, hf⟩ := o2_s hf
            refine Ct.callV0 (ws' := wV g v0 u0 u1 u2 u3 k0 k1 k2 k3 h0 h1 h2 h3 s0 s1 s2 s3 c0 c1 c2 p0 r0 t0 t1 t2 t3 z0 f0 ea R N B S C P Q K X fd122 tl ik) (As := [.int (-1000003 : Int32)]) (rest := []) (st1 := [.int x121]) (c_X6_finding l g v0 u0 u1 u2 u3 k0 k1 k2 k3 h0 h1 h2 h3 s0 s1 s2 s3 c0 c1 c2 p0 r0 t0 t1 t2 t3 z0 f0 ea R N B S C P Q K X fd tl ik (-1000003 : Int32) hg) (cwV 1 hts gX6_copy_X6_finding rfl rfl rfl q_X6_finding ⟨Nat.le_of_ble_eq_true rfl, Nat.le_of_ble_eq_true rfl⟩) ⟨hx, hb, hml, hown, hts⟩ hE hP hD hS hA 6 0 rfl rfl rfl rfl hl.1 rfl rfl (Nat.le_of_ble_eq_true rfl) dX6_copy_70 (fun H locs hP hD hS => ?_)
            obtain ⟨rfl, rfl, rfl⟩ := some_p3 hf
            rw [hQ]; exact Ct.iret hx hb hr hlocks hAe hP hD hS dX6_copy_73
        · have hf := if_f hf hc
          refine lv_aload_n hx hb dX6_copy_47 rfl (lv_at hl 2 rfl) ?_
          refine lv_ldc hx hb hown w2 dX6_copy_48 ?_
          obtain ⟨x123, fd124, hg, hf⟩ := o2_s hf
          refine Ct.callV0 (ws' := wV g v0 u0 u1 u2 u3 k0 k1 k2 k3 h0 h1 h2 h3 s0 s1 s2 s3 c0 c1 c2 p0 r0 t0 t1 t2 t3 z0 f0 ea R N B S C P Q K X fd124 tl ik) (As := [.int (-1000006 : Int32)]) (rest := []) (st1 := [.int x123]) (c_X6_finding l g v0 u0 u1 u2 u3 k0 k1 k2 k3 h0 h1 h2 h3 s0 s1 s2 s3 c0 c1 c2 p0 r0 t0 t1 t2 t3 z0 f0 ea R N B S C P Q K X fd tl ik (-1000006 : Int32) hg) (cwV 1 hts gX6_copy_X6_finding rfl rfl rfl q_X6_finding ⟨Nat.le_of_ble_eq_true rfl, Nat.le_of_ble_eq_true rfl⟩) ⟨hx, hb, hml, hown, hts⟩ hE hP hD hS hA 6 0 rfl rfl rfl rfl hl.1 rfl rfl (Nat.le_of_ble_eq_true rfl) dX6_copy_50 (fun H locs hP hD hS => ?_)
          obtain ⟨rfl, rfl, rfl⟩ := some_p3 hf
          rw [hQ]; exact Ct.iret hx hb hr hlocks hAe hP hD hS dX6_copy_53
    · refine Ct.callV0 (ws' := wV g v0 u0 u1 u2 u3 k0 k1 k2 k3 h0 h1 h2 h3 s0 s1 s2 s3 c0 c1 c2 p0 r0 t0 t1 t2 t3 z0 f0 ea R N B S C P Q K X fd tl ik) (As := [.int a3]) (rest := []) (st1 := [.ref (ea 2)]) (c_X6_sheetAt l g v0 u0 u1 u2 u3 k0 k1 k2 k3 h0 h1 h2 h3 s0 s1 s2 s3 c0 c1 c2 p0 r0 t0 t1 t2 t3 z0 f0 ea R N B S C P Q K X fd tl ik 2 (by decide) a3 hs) (cwV 1 hts gX6_copy_X6_sheetAt rfl rfl rfl q_X6_sheetAt ⟨Nat.le_of_ble_eq_true rfl, Nat.le_of_ble_eq_true rfl⟩) ⟨hx, hb, hml, hown, hts⟩ hE hP hD hS hA 6 0 rfl rfl rfl rfl hl.1 rfl rfl (Nat.le_of_ble_eq_true rfl) dX6_copy_9 (fun H locs hP hD hS => ?_)
      refine lv_astore (lv' := [(7, .ref (ea 2)), (6, .ref (ea 1)), (0, .ref v0), (1, .int a1), (2, .int a2), (3, .int a3), (4, .int a4), (5, .int a5)]) hx hb dX6_copy_12 hl (by decide) rfl (fun ls hl => ?_)
      refine lv_aload hx hb dX6_copy_14 (lv_at hl 1 rfl) ?_
      refine lv_ifnull hx hb dX6_copy_16 ?_
      refine lv_aload hx hb dX6_copy_19 (lv_at hl 0 rfl) ?_
      refine lv_ifnonnull (tgt := 31) hx hb dX6_copy_21 (by decide) ?_
      refine lv_aload hx hb dX6_copy_31 (lv_at hl 1 rfl) ?_
      obtain ⟨x110, hg, hf⟩ := o1_s hf
      refine Ct.callV (ws' := wV g v0 u0 u1 u2 u3 k0 k1 k2 k3 h0 h1 h2 h3 s0 s1 s2 s3 c0 c1 c2 p0 r0 t0 t1 t2 t3 z0 f0 ea R N B S C P Q K X fd tl ik) (As := []) (rest := []) (st1 := [.int x110]) (c_X2_isMissing l g (ea 1) (ea 5) (X 1) hg) (cwV 0 hts gX6_copy_X2_isMissing rfl rfl rfl q_X2_isMissing ⟨Nat.le_of_ble_eq_true rfl, Nat.le_of_ble_eq_true rfl⟩) ⟨hx, hb, hml, hown, hts⟩ hE hP hD hS hA [29, 30] rfl rfl rfl rfl 2 29 rfl rfl rfl rfl hl.1 rfl rfl (Nat.le_of_ble_eq_true rfl) dX6_copy_33 (fun H locs hP hD hS => ?_)
      refine lv_if_ne (tgt := 47) hx hb dX6_copy_36 (by decide) (fun hc => ?_) (fun hc => ?_)
      · have hf := if_f hf hc
        refine lv_aload_n hx hb dX6_copy_47 rfl (lv_at hl 2 rfl) ?_
        refine lv_ldc hx hb hown w2 dX6_copy_48 ?_
        obtain ⟨x111, fd112, hg, hf⟩ := o2_s hf
        refine Ct.callV0 (ws' := wV g v0 u0 u1 u2 u3 k0 k1 k2 k3 h0 h1 h2 h3 s0 s1 s2 s3 c0 c1 c2 p0 r0 t0 t1 t2 t3 z0 f0 ea R N B S C P Q K X fd112 tl ik) (As := [.int (-1000006 : Int32)]) (rest := []) (st1 := [.int x111]) (c_X6_finding l g v0 u0 u1 u2 u3 k0 k1 k2 k3 h0 h1 h2 h3 s0 s1 s2 s3 c0 c1 c2 p0 r0 t0 t1 t2 t3 z0 f0 ea R N B S C P Q K X fd tl ik (-1000006 : Int32) hg) (cwV 1 hts gX6_copy_X6_finding rfl rfl rfl q_X6_finding ⟨Nat.le_of_ble_eq_true rfl, Nat.le_of_ble_eq_true rfl⟩) ⟨hx, hb, hml, hown, hts⟩ hE hP hD hS hA 6 0 rfl rfl rfl rfl hl.1 rfl rfl (Nat.le_of_ble_eq_true rfl) dX6_copy_50 (fun H locs hP hD hS => ?_)
        obtain ⟨rfl, rfl, rfl⟩ := some_p3 hf
        rw [hQ]; exact Ct.iret hx hb hr hlocks hAe hP hD hS dX6_copy_53
      · have hf := if_t hf hc
        refine lv_aload hx hb dX6_copy_39 (lv_at hl 0 rfl) ?_
        obtain ⟨x113, hg, hf⟩ := o1_s hf
        refine Ct.callV (ws' := wV g v0 u0 u1 u2 u3 k0 k1 k2 k3 h0 h1 h2 h3 s0 s1 s2 s3 c0 c1 c2 p0 r0 t0 t1 t2 t3 z0 f0 ea R N B S C P Q K X fd tl ik) (As := []) (rest := []) (st1 := [.int x113]) (c_X2_isMissing l g (ea 2) (ea 6) (X 2) hg) (cwV 0 hts gX6_copy_X2_isMissing rfl rfl rfl q_X2_isMissing ⟨Nat.le_of_ble_eq_true rfl, Nat.le_of_ble_eq_true rfl⟩) ⟨hx, hb, hml, hown, hts⟩ hE hP hD hS hA [31, 32] rfl rfl rfl rfl 2 31 rfl rfl rfl rfl hl.1 rfl rfl (Nat.le_of_ble_eq_true rfl) dX6_copy_41 (fun H locs hP hD hS => ?_)
        refine lv_if_eq (tgt := 54) hx hb dX6_copy_44 (by decide) (fun hc => ?_) (fun hc => ?_)
        · have hf := if_t hf hc
          refine lv_aload hx hb dX6_copy_54 (lv_at hl 1 rfl) ?_
          refine va_getN (D := g.1) (ci := 2) (v := .int ((X 1).2.1)) (C := RX2) (T := TX2) (N := 3) hx hb hts i_X6_copy_X2 hown hE.1 hP 29 rfl rfl 1 (by decide) (va_Nw.use rfl (hE.2.1 _ (List.mem_of_getElem? (i := 19) rfl))) (fun _ h9 => h9) rfl dX6_copy_56 ?_
          refine lv_aload hx hb dX6_copy_59 (lv_at hl 0 rfl) ?_
          refine va_getN (D := g.1) (ci := 2) (v := .int ((X 2).2.1)) (C := RX2) (T := TX2) (N := 3) hx hb hts i_X6_copy_X2 hown hE.1 hP 31 rfl rfl 1 (by decide) (va_Nw.use rfl (hE.2.1 _ (List.mem_of_getElem? (i := 19) rfl))) (fun _ h9 => h9) rfl dX6_copy_61 ?_
          refine lv_icmp_eq (tgt := 74) hx hb dX6_copy_64 (by decide) (fun hc => ?_) (fun hc => ?_)
          · have hf := if_t hf hc
            refine lv_aload hx hb dX6_copy_74 (lv_at hl 1 rfl) ?_
            refine lv_iload_n hx hb dX6_copy_76 rfl (lv_at hl 4 rfl) ?_
            refine lv_iload hx hb dX6_copy_77 (lv_at hl 7 rfl) ?_
            obtain ⟨x114, hg, hf⟩ := o1_s hf
            refine Ct.callV (ws' := wV g v0 u0 u1 u2 u3 k0 k1 k2 k3 h0 h1 h2 h3 s0 s1 s2 s3 c0 c1 c2 p0 r0 t0 t1 t2 t3 z0 f0 ea R N B S C P Q K X fd tl ik) (As := [.int a2, .int a5]) (rest := []) (st1 := [.int x114]) (c_X2_hasRange l g (ea 1) (ea 5) (X 1) a2 a5 hg) (cwV 2 hts gX6_copy_X2_hasRange rfl rfl rfl q_X2_hasRange ⟨Nat.le_of_ble_eq_true rfl, Nat.le_of_ble_eq_true rfl⟩) ⟨hx, hb, hml, hown, hts⟩ hE hP hD hS hA [29, 30] rfl rfl rfl rfl 2 29 rfl rfl rfl rfl hl.1 rfl rfl (Nat.le_of_ble_eq_true rfl) dX6_copy_79 (fun H locs hP hD hS => ?_)
            refine lv_if_eq (tgt := 97) hx hb dX6_copy_82 (by decide) (fun hc => ?_) (fun hc => ?_)
            · have hf := if_t hf hc
              refine lv_aload_n hx hb dX6_copy_97 rfl (lv_at hl 2 rfl) ?_
              refine lv_ldc hx hb hown w1 dX6_copy_98 ?_
              obtain ⟨x115, fd116, hg, hf⟩ := o2_s hf
              refine Ct.callV0 (ws' := wV g v0 u0 u1 u2 u3 k0 k1 k2 k3 h0 h1 h2 h3 s0 s1 s2 s3 c0 c1 c2 p0 r0 t0 t1 t2 t3 z0 f0 ea R N B S C P Q K X fd116 tl ik) (As := [.int (-1000001 : Int32)]) (rest := []) (st1 := [.int x115]) (c_X6_finding l g v0 u0 u1 u2 u3 k0 k1 k2 k3 h0 h1 h2 h3 s0 s1 s2 s3 c0 c1 c2 p0 r0 t0 t1 t2 t3 z0 f0 ea R N B S C P Q K X fd tl ik (-1000001 : Int32) hg) (cwV 1 hts gX6_copy_X6_finding rfl rfl rfl q_X6_finding ⟨Nat.le_of_ble_eq_true rfl, Nat.le_of_ble_eq_true rfl⟩) ⟨hx, hb, hml, hown, hts⟩ hE hP hD hS hA 6 0 rfl rfl rfl rfl hl.1 rfl rfl (Nat.le_of_ble_eq_true rfl) dX6_copy_100 (fun H locs hP hD hS => ?_)
              obtain ⟨rfl, rfl, rfl⟩ := some_p3 hf
              rw [hQ]; exact Ct.iret hx hb hr hlocks hAe hP hD hS dX6_copy_103
            · have hf := if_f hf hc
              refine lv_aload hx hb dX6_copy_85 (lv_at hl 0 rfl) ?_
              refine lv_iload hx hb dX6_copy_87 (lv_at hl 6 rfl) ?_
              refine lv_iload hx hb dX6_copy_89 (lv_at hl 7 rfl) ?_
              obtain ⟨x117, hg, hf⟩ := o1_s hf
              refine Ct.callV (ws' := wV g v0 u0 u1 u2 u3 k0 k1 k2 k3 h0 h1 h2 h3 s0 s1 s2 s3 c0 c1 c2 p0 r0 t0 t1 t2 t3 z0 f0 ea R N B S C P Q K X fd tl ik) (As := [.int a4, .int a5]) (rest := []) (st1 := [.int x117]) (c_X2_hasRange l g (ea 2) (ea 6) (X 2) a4 a5 hg) (cwV 2 hts gX6_copy_X2_hasRange rfl rfl rfl q_X2_hasRange ⟨Nat.le_of_ble_eq_true rfl, Nat.le_of_ble_eq_true rfl⟩) ⟨hx, hb, hml, hown, hts⟩ hE hP hD hS hA [31, 32] rfl rfl rfl rfl 2 31 rfl rfl rfl rfl hl.1 rfl rfl (Nat.le_of_ble_eq_true rfl) dX6_copy_91 (fun H locs hP hD hS => ?_)
              refine lv_if_ne (tgt := 104) hx hb dX6_copy_94 (by decide) (fun hc => ?_) (fun hc => ?_)
              · have hf := if_f hf hc
                refine lv_aload hx hb dX6_copy_104 (lv_at hl 1 rfl) ?_
                refine va_getN (D := g.1) (ci := 2) (v := .ref (ea 5)) (C := RX2) (T := TX2) (N := 3) hx hb hts i_X6_copy_X2 hown hE.1 hP 29 rfl rfl 0 (by decide) (va_Nw.use rfl (hE.2.1 _ (List.mem_of_getElem? (i := 18) rfl))) (fun _ h9 => h9) rfl dX6_copy_106 ?_
                refine lv_iload_n hx hb dX6_copy_109 rfl (lv_at hl 4 rfl) ?_
                refine lv_aload hx hb dX6_copy_110 (lv_at hl 0 rfl) ?_
                refine va_getN (D := g.1) (ci := 2) (v := .ref (ea 6)) (C := RX2) (T := TX2) (N := 3) hx hb hts i_X6_copy_X2 hown hE.1 hP 31 rfl rfl 0 (by decide) (va_Nw.use rfl (hE.2.1 _ (List.mem_of_getElem? (i := 18) rfl))) (fun _ h9 => h9) rfl dX6_copy_112 ?_
                refine lv_iload hx hb dX6_copy_115 (lv_at hl 6 rfl) ?_
                refine lv_iload hx hb dX6_copy_117 (lv_at hl 7 rfl) ?_
                obtain ⟨f118, ef, hcp, hf⟩ := cp_s hf
                refine st_copy (ws' := wV g v0 u0 u1 u2 u3 k0 k1 k2 k3 h0 h1 h2 h3 s0 s1 s2 s3 c0 c1 c2 p0 r0 t0 t1 t2 t3 z0 f0 ea R N B S C P Q K (upS X 2 (f118, (X 2).2.1, (X 2).2.2)) fd tl ik) (f := ((X 1).1)) (g := ((X 2).1)) (f2 := f118) hx hb (hml.trans hl.1.symm) hown w3 w4 w5 w6 hE.1 hP hD hS 30 32 0 rfl rfl rfl ef hcp rfl (Nat.le_of_ble_eq_true rfl) (Nat.le_of_ble_eq_true rfl) dX6_copy_119 (fun H locs hP hD hS => ?_)
                refine lv_iload hx hb dX6_copy_122 (lv_at hl 7 rfl) ?_
                obtain ⟨rfl, rfl, rfl⟩ := some_p3 hf
                rw [hQ]; exact Ct.iret hx hb hr hlocks hAe hP hD hS dX6_copy_124
              · have hf := if_t hf hc
                refine lv_aload_n hx hb dX6_copy_97 rfl (lv_at hl 2 rfl) ?_
                refine lv_ldc hx hb hown w1 dX6_copy_98 ?_
                obtain ⟨x119, fd120, hg, hf⟩ := o2_s hf
                refine Ct.callV0 (ws' := wV g v0 u0 u1 u2 u3 k0 k1 k2 k3 h0 h1 h2 h3 s0 s1 s2 s3 c0 c1 c2 p0 r0 t0 t1 t2 t3 z0 f0 ea R N B S C P Q K X fd120 tl ik) (As := [.int (-1000001 : Int32)]) (rest := []) (st1 := [.int x119]) (c_X6_finding l g v0 u0 u1 u2 u3 k0 k1 k2 k3 h0 h1 h2 h3 s0 s1 s2 s3 c0 c1 c2 p0 r0 t0 t1 t2 t3 z0 f0 ea R N B S C P Q K X fd tl ik (-1000001 : Int32) hg) (cwV 1 hts gX6_copy_X6_finding rfl rfl rfl q_X6_finding ⟨Nat.le_of_ble_eq_true rfl, Nat.le_of_ble_eq_true rfl⟩) ⟨hx, hb, hml, hown, hts⟩ hE hP hD hS hA 6 0 rfl rfl rfl rfl hl.1 rfl rfl (Nat.le_of_ble_eq_true rfl) dX6_copy_100 (fun H locs hP hD hS => ?_)
                obtain ⟨rfl, rfl, rfl⟩ := some_p3 hf
                rw [hQ]; exact Ct.iret hx hb hr hlocks hAe hP hD hS dX6_copy_103
          · have hf := if_f hf hc
            refine lv_aload_n hx hb dX6_copy_67 rfl (lv_at hl 2 rfl) ?_
            refine lv_ldc hx hb hown w7 dX6_copy_68 ?_
            obtain ⟨x121, fd122, hg, hf⟩ := o2_s hf
            refine Ct.callV0 (ws' := wV g v0 u0 u1 u2 u3 k0 k1 k2 k3 h0 h1 h2 h3 s0 s1 s2 s3 c0 c1 c2 p0 r0 t0 t1 t2 t3 z0 f0 ea R N B S C P Q K X fd122 tl ik) (As := [.int (-1000003 : Int32)]) (rest := []) (st1 := [.int x121]) (c_X6_finding l g v0 u0 u1 u2 u3 k0 k1 k2 k3 h0 h1 h2 h3 s0 s1 s2 s3 c0 c1 c2 p0 r0 t0 t1 t2 t3 z0 f0 ea R N B S C P Q K X fd tl ik (-1000003 : Int32) hg) (cwV 1 hts gX6_copy_X6_finding rfl rfl rfl q_X6_finding ⟨Nat.le_of_ble_eq_true rfl, Nat.le_of_ble_eq_true rfl⟩) ⟨hx, hb, hml, hown, hts⟩ hE hP hD hS hA 6 0 rfl rfl rfl rfl hl.1 rfl rfl (Nat.le_of_ble_eq_true rfl) dX6_copy_70 (fun H locs hP hD hS => ?_)
            obtain ⟨rfl, rfl, rfl⟩ := some_p3 hf
            rw [hQ]; exact Ct.iret hx hb hr hlocks hAe hP hD hS dX6_copy_73
        · have hf := if_f hf hc
          refine lv_aload_n hx hb dX6_copy_47 rfl (lv_at hl 2 rfl) ?_
          refine lv_ldc hx hb hown w2 dX6_copy_48 ?_
          obtain ⟨x123, fd124, hg, hf⟩ := o2_s hf
          refine Ct.callV0 (ws' := wV g v0 u0 u1 u2 u3 k0 k1 k2 k3 h0 h1 h2 h3 s0 s1 s2 s3 c0 c1 c2 p0 r0 t0 t1 t2 t3 z0 f0 ea R N B S C P Q K X fd124 tl ik) (As := [.int (-1000006 : Int32)]) (rest := []) (st1 := [.int x123]) (c_X6_finding l g v0 u0 u1 u2 u3 k0 k1 k2 k3 h0 h1 h2 h3 s0 s1 s2 s3 c0 c1 c2 p0 r0 t0 t1 t2 t3 z0 f0 ea R N B S C P Q K X fd tl ik (-1000006 : Int32) hg) (cwV 1 hts gX6_copy_X6_finding rfl rfl rfl q_X6_finding ⟨Nat.le_of_ble_eq_true rfl, Nat.le_of_ble_eq_true rfl⟩) ⟨hx, hb, hml, hown, hts⟩ hE hP hD hS hA 6 0 rfl rfl rfl rfl hl.1 rfl rfl (Nat.le_of_ble_eq_true rfl) dX6_copy_50 (fun H locs hP hD hS => ?_)
          obtain ⟨rfl, rfl, rfl⟩ := some_p3 hf
          rw [hQ]; exact Ct.iret hx hb hr hlocks hAe hP hD hS dX6_copy_53
    · refine Ct.callV0 (ws' := wV g v0 u0 u1 u2 u3 k0 k1 k2 k3 h0 h1 h2 h3 s0 s1 s2 s3 c0 c1 c2 p0 r0 t0 t1 t2 t3 z0 f0 ea R N B S C P Q K X fd tl ik) (As := [.int a3]) (rest := []) (st1 := [.ref (ea 3)]) (c_X6_sheetAt l g v0 u0 u1 u2 u3 k0 k1 k2 k3 h0 h1 h2 h3 s0 s1 s2 s3 c0 c1 c2 p0 r0 t0 t1 t2 t3 z0 f0 ea R N B S C P Q K X fd tl ik 3 (by decide) a3 hs) (cwV 1 hts gX6_copy_X6_sheetAt rfl rfl rfl q_X6_sheetAt ⟨Nat.le_of_ble_eq_true rfl, Nat.le_of_ble_eq_true rfl⟩) ⟨hx, hb, hml, hown, hts⟩ hE hP hD hS hA 6 0 rfl rfl rfl rfl hl.1 rfl rfl (Nat.le_of_ble_eq_true rfl) dX6_copy_9 (fun H locs hP hD hS => ?_)
      refine lv_astore (lv' := [(7, .ref (ea 3)), (6, .ref (ea 1)), (0, .ref v0), (1, .int a1), (2, .int a2), (3, .int a3), (4, .int a4), (5, .int a5)]) hx hb dX6_copy_12 hl (by decide) rfl (fun ls hl => ?_)
      refine lv_aload hx hb dX6_copy_14 (lv_at hl 1 rfl) ?_
      refine lv_ifnull hx hb dX6_copy_16 ?_
      refine lv_aload hx hb dX6_copy_19 (lv_at hl 0 rfl) ?_
      refine lv_ifnonnull (tgt := 31) hx hb dX6_copy_21 (by decide) ?_
      refine lv_aload hx hb dX6_copy_31 (lv_at hl 1 rfl) ?_
      obtain ⟨x110, hg, hf⟩ := o1_s hf
      refine Ct.callV (ws' := wV g v0 u0 u1 u2 u3 k0 k1 k2 k3 h0 h1 h2 h3 s0 s1 s2 s3 c0 c1 c2 p0 r0 t0 t1 t2 t3 z0 f0 ea R N B S C P Q K X fd tl ik) (As := []) (rest := []) (st1 := [.int x110]) (c_X2_isMissing l g (ea 1) (ea 5) (X 1) hg) (cwV 0 hts gX6_copy_X2_isMissing rfl rfl rfl q_X2_isMissing ⟨Nat.le_of_ble_eq_true rfl, Nat.le_of_ble_eq_true rfl⟩) ⟨hx, hb, hml, hown, hts⟩ hE hP hD hS hA [29, 30] rfl rfl rfl rfl 2 29 rfl rfl rfl rfl hl.1 rfl rfl (Nat.le_of_ble_eq_true rfl) dX6_copy_33 (fun H locs hP hD hS => ?_)
      refine lv_if_ne (tgt := 47) hx hb dX6_copy_36 (by decide) (fun hc => ?_) (fun hc => ?_)
      · have hf := if_f hf hc
        refine lv_aload_n hx hb dX6_copy_47 rfl (lv_at hl 2 rfl) ?_
        refine lv_ldc hx hb hown w2 dX6_copy_48 ?_
        obtain ⟨x111, fd112, hg, hf⟩ := o2_s hf
        refine Ct.callV0 (ws' := wV g v0 u0 u1 u2 u3 k0 k1 k2 k3 h0 h1 h2 h3 s0 s1 s2 s3 c0 c1 c2 p0 r0 t0 t1 t2 t3 z0 f0 ea R N B S C P Q K X fd112 tl ik) (As := [.int (-1000006 : Int32)]) (rest := []) (st1 := [.int x111]) (c_X6_finding l g v0 u0 u1 u2 u3 k0 k1 k2 k3 h0 h1 h2 h3 s0 s1 s2 s3 c0 c1 c2 p0 r0 t0 t1 t2 t3 z0 f0 ea R N B S C P Q K X fd tl ik (-1000006 : Int32) hg) (cwV 1 hts gX6_copy_X6_finding rfl rfl rfl q_X6_finding ⟨Nat.le_of_ble_eq_true rfl, Nat.le_of_ble_eq_true rfl⟩) ⟨hx, hb, hml, hown, hts⟩ hE hP hD hS hA 6 0 rfl rfl rfl rfl hl.1 rfl rfl (Nat.le_of_ble_eq_true rfl) dX6_copy_50 (fun H locs hP hD hS => ?_)
        obtain ⟨rfl, rfl, rfl⟩ := some_p3 hf
        rw [hQ]; exact Ct.iret hx hb hr hlocks hAe hP hD hS dX6_copy_53
      · have hf := if_t hf hc
        refine lv_aload hx hb dX6_copy_39 (lv_at hl 0 rfl) ?_
        obtain ⟨x113, hg, hf⟩ := o1_s hf
        refine Ct.callV (ws' := wV g v0 u0 u1 u2 u3 k0 k1 k2 k3 h0 h1 h2 h3 s0 s1 s2 s3 c0 c1 c2 p0 r0 t0 t1 t2 t3 z0 f0 ea R N B S C P Q K X fd tl ik) (As := []) (rest := []) (st1 := [.int x113]) (c_X2_isMissing l g (ea 3) (ea 7) (X 3) hg) (cwV 0 hts gX6_copy_X2_isMissing rfl rfl rfl q_X2_isMissing ⟨Nat.le_of_ble_eq_true rfl, Nat.le_of_ble_eq_true rfl⟩) ⟨hx, hb, hml, hown, hts⟩ hE hP hD hS hA [33, 34] rfl rfl rfl rfl 2 33 rfl rfl rfl rfl hl.1 rfl rfl (Nat.le_of_ble_eq_true rfl) dX6_copy_41 (fun H locs hP hD hS => ?_)
        refine lv_if_eq (tgt := 54) hx hb dX6_copy_44 (by decide) (fun hc => ?_) (fun hc => ?_)
        · have hf := if_t hf hc
          refine lv_aload hx hb dX6_copy_54 (lv_at hl 1 rfl) ?_
          refine va_getN (D := g.1) (ci := 2) (v := .int ((X 1).2.1)) (C := RX2) (T := TX2) (N := 3) hx hb hts i_X6_copy_X2 hown hE.1 hP 29 rfl rfl 1 (by decide) (va_Nw.use rfl (hE.2.1 _ (List.mem_of_getElem? (i := 19) rfl))) (fun _ h9 => h9) rfl dX6_copy_56 ?_
          refine lv_aload hx hb dX6_copy_59 (lv_at hl 0 rfl) ?_
          refine va_getN (D := g.1) (ci := 2) (v := .int ((X 3).2.1)) (C := RX2) (T := TX2) (N := 3) hx hb hts i_X6_copy_X2 hown hE.1 hP 33 rfl rfl 1 (by decide) (va_Nw.use rfl (hE.2.1 _ (List.mem_of_getElem? (i := 19) rfl))) (fun _ h9 => h9) rfl dX6_copy_61 ?_
          refine lv_icmp_eq (tgt := 74) hx hb dX6_copy_64 (by decide) (fun hc => ?_) (fun hc => ?_)
          · have hf := if_t hf hc
            refine lv_aload hx hb dX6_copy_74 (lv_at hl 1 rfl) ?_
            refine lv_iload_n hx hb dX6_copy_76 rfl (lv_at hl 4 rfl) ?_
            refine lv_iload hx hb dX6_copy_77 (lv_at hl 7 rfl) ?_
            obtain ⟨x114, hg, hf⟩ := o1_s hf
            refine Ct.callV (ws' := wV g v0 u0 u1 u2 u3 k0 k1 k2 k3 h0 h1 h2 h3 s0 s1 s2 s3 c0 c1 c2 p0 r0 t0 t1 t2 t3 z0 f0 ea R N B S C P Q K X fd tl ik) (As := [.int a2, .int a5]) (rest := []) (st1 := [.int x114]) (c_X2_hasRange l g (ea 1) (ea 5) (X 1) a2 a5 hg) (cwV 2 hts gX6_copy_X2_hasRange rfl rfl rfl q_X2_hasRange ⟨Nat.le_of_ble_eq_true rfl, Nat.le_of_ble_eq_true rfl⟩) ⟨hx, hb, hml, hown, hts⟩ hE hP hD hS hA [29, 30] rfl rfl rfl rfl 2 29 rfl rfl rfl rfl hl.1 rfl rfl (Nat.le_of_ble_eq_true rfl) dX6_copy_79 (fun H locs hP hD hS => ?_)
            refine lv_if_eq (tgt := 97) hx hb dX6_copy_82 (by decide) (fun hc => ?_) (fun hc => ?_)
            · have hf := if_t hf hc
              refine lv_aload_n hx hb dX6_copy_97 rfl (lv_at hl 2 rfl) ?_
              refine lv_ldc hx hb hown w1 dX6_copy_98 ?_
              obtain ⟨x115, fd116, hg, hf⟩ := o2_s hf
              refine Ct.callV0 (ws' := wV g v0 u0 u1 u2 u3 k0 k1 k2 k3 h0 h1 h2 h3 s0 s1 s2 s3 c0 c1 c2 p0 r0 t0 t1 t2 t3 z0 f0 ea R N B S C P Q K X fd116 tl ik) (As := [.int (-1000001 : Int32)]) (rest := []) (st1 := [.int x115]) (c_X6_finding l g v0 u0 u1 u2 u3 k0 k1 k2 k3 h0 h1 h2 h3 s0 s1 s2 s3 c0 c1 c2 p0 r0 t0 t1 t2 t3 z0 f0 ea R N B S C P Q K X fd tl ik (-1000001 : Int32) hg) (cwV 1 hts gX6_copy_X6_finding rfl rfl rfl q_X6_finding ⟨Nat.le_of_ble_eq_true rfl, Nat.le_of_ble_eq_true rfl⟩) ⟨hx, hb, hml, hown, hts⟩ hE hP hD hS hA 6 0 rfl rfl rfl rfl hl.1 rfl rfl (Nat.le_of_ble_eq_true rfl) dX6_copy_100 (fun H locs hP hD hS => ?_)
              obtain ⟨rfl, rfl, rfl⟩ := some_p3 hf
              rw [hQ]; exact Ct.iret hx hb hr hlocks hAe hP hD hS dX6_copy_103
            · have hf := if_f hf hc
              refine lv_aload hx hb dX6_copy_85 (lv_at hl 0 rfl) ?_
              refine lv_iload hx hb dX6_copy_87 (lv_at hl 6 rfl) ?_
              refine lv_iload hx hb dX6_copy_89 (lv_at hl 7 rfl) ?_
              obtain ⟨x117, hg, hf⟩ := o1_s hf
              refine Ct.callV (ws' := wV g v0 u0 u1 u2 u3 k0 k1 k2 k3 h0 h1 h2 h3 s0 s1 s2 s3 c0 c1 c2 p0 r0 t0 t1 t2 t3 z0 f0 ea R N B S C P Q K X fd tl ik) (As := [.int a4, .int a5]) (rest := []) (st1 := [.int x117]) (c_X2_hasRange l g (ea 3) (ea 7) (X 3) a4 a5 hg) (cwV 2 hts gX6_copy_X2_hasRange rfl rfl rfl q_X2_hasRange ⟨Nat.le_of_ble_eq_true rfl, Nat.le_of_ble_eq_true rfl⟩) ⟨hx, hb, hml, hown, hts⟩ hE hP hD hS hA [33, 34] rfl rfl rfl rfl 2 33 rfl rfl rfl rfl hl.1 rfl rfl (Nat.le_of_ble_eq_true rfl) dX6_copy_91 (fun H locs hP hD hS => ?_)
              refine lv_if_ne (tgt := 104) hx hb dX6_copy_94 (by decide) (fun hc => ?_) (fun hc => ?_)
              · have hf := if_f hf hc
                refine lv_aload hx hb dX6_copy_104 (lv_at hl 1 rfl) ?_
                refine va_getN (D := g.1) (ci := 2) (v := .ref (ea 5)) (C := RX2) (T := TX2) (N := 3) hx hb hts i_X6_copy_X2 hown hE.1 hP 29 rfl rfl 0 (by decide) (va_Nw.use rfl (hE.2.1 _ (List.mem_of_getElem? (i := 18) rfl))) (fun _ h9 => h9) rfl dX6_copy_106 ?_
                refine lv_iload_n hx hb dX6_copy_109 rfl (lv_at hl 4 rfl) ?_
                refine lv_aload hx hb dX6_copy_110 (lv_at hl 0 rfl) ?_
                refine va_getN (D := g.1) (ci := 2) (v := .ref (ea 7)) (C := RX2) (T := TX2) (N := 3) hx hb hts i_X6_copy_X2 hown hE.1 hP 33 rfl rfl 0 (by decide) (va_Nw.use rfl (hE.2.1 _ (List.mem_of_getElem? (i := 18) rfl))) (fun _ h9 => h9) rfl dX6_copy_112 ?_
                refine lv_iload hx hb dX6_copy_115 (lv_at hl 6 rfl) ?_
                refine lv_iload hx hb dX6_copy_117 (lv_at hl 7 rfl) ?_
                obtain ⟨f118, ef, hcp, hf⟩ := cp_s hf
                refine st_copy (ws' := wV g v0 u0 u1 u2 u3 k0 k1 k2 k3 h0 h1 h2 h3 s0 s1 s2 s3 c0 c1 c2 p0 r0 t0 t1 t2 t3 z0 f0 ea R N B S C P Q K (upS X 3 (f118, (X 3).2.1, (X 3).2.2)) fd tl ik) (f := ((X 1).1)) (g := ((X 3).1)) (f2 := f118) hx hb (hml.trans hl.1.symm) hown w3 w4 w5 w6 hE.1 hP hD hS 30 34 0 rfl rfl rfl ef hcp rfl (Nat.le_of_ble_eq_true rfl) (Nat.le_of_ble_eq_true rfl) dX6_copy_119 (fun H locs hP hD hS => ?_)
                refine lv_iload hx hb dX6_copy_122 (lv_at hl 7 rfl) ?_
                obtain ⟨rfl, rfl, rfl⟩ := some_p3 hf
                rw [hQ]; exact Ct.iret hx hb hr hlocks hAe hP hD hS dX6_copy_124
              · have hf := if_t hf hc
                refine lv_aload_n hx hb dX6_copy_97 rfl (lv_at hl 2 rfl) ?_
                refine lv_ldc hx hb hown w1 dX6_copy_98 ?_
                obtain ⟨x119, fd120, hg, hf⟩ := o2_s hf
                refine Ct.callV0 (ws' := wV g v0 u0 u1 u2 u3 k0 k1 k2 k3 h0 h1 h2 h3 s0 s1 s2 s3 c0 c1 c2 p0 r0 t0 t1 t2 t3 z0 f0 ea R N B S C P Q K X fd120 tl ik) (As := [.int (-1000001 : Int32)]) (rest := []) (st1 := [.int x119]) (c_X6_finding l g v0 u0 u1 u2 u3 k0 k1 k2 k3 h0 h1 h2 h3 s0 s1 s2 s3 c0 c1 c2 p0 r0 t0 t1 t2 t3 z0 f0 ea R N B S C P Q K X fd tl ik (-1000001 : Int32) hg) (cwV 1 hts gX6_copy_X6_finding rfl rfl rfl q_X6_finding ⟨Nat.le_of_ble_eq_true rfl, Nat.le_of_ble_eq_true rfl⟩) ⟨hx, hb, hml, hown, hts⟩ hE hP hD hS hA 6 0 rfl rfl rfl rfl hl.1 rfl rfl (Nat.le_of_ble_eq_true rfl) dX6_copy_100 (fun H locs hP hD hS => ?_)
                obtain ⟨rfl, rfl, rfl⟩ := some_p3 hf
                rw [hQ]; exact Ct.iret hx hb hr hlocks hAe hP hD hS dX6_copy_103
          · have hf := if_f hf hc
            refine lv_aload_n hx hb dX6_copy_67 rfl (lv_at hl 2 rfl) ?_
            refine lv_ldc hx hb hown w7 dX6_copy_68 ?_
            obtain ⟨x121, fd122, hg, hf⟩ := o2_s hf
            refine Ct.callV0 (ws' := wV g v0 u0 u1 u2 u3 k0 k1 k2 k3 h0 h1 h2 h3 s0 s1 s2 s3 c0 c1 c2 p0 r0 t0 t1 t2 t3 z0 f0 ea R N B S C P Q K X fd122 tl ik) (As := [.int (-1000003 : Int32)]) (rest := []) (st1 := [.int x121]) (c_X6_finding l g v0 u0 u1 u2 u3 k0 k1 k2 k3 h0 h1 h2 h3 s0 s1 s2 s3 c0 c1 c2 p0 r0 t0 t1 t2 t3 z0 f0 ea R N B S C P Q K X fd tl ik (-1000003 : Int32) hg) (cwV 1 hts gX6_copy_X6_finding rfl rfl rfl q_X6_finding ⟨Nat.le_of_ble_eq_true rfl, Nat.le_of_ble_eq_true rfl⟩) ⟨hx, hb, hml, hown, hts⟩ hE hP hD hS hA 6 0 rfl rfl rfl rfl hl.1 rfl rfl (Nat.le_of_ble_eq_true rfl) dX6_copy_70 (fun H locs hP hD hS => ?_)
            obtain ⟨rfl, rfl, rfl⟩ := some_p3 hf
            rw [hQ]; exact Ct.iret hx hb hr hlocks hAe hP hD hS dX6_copy_73
        · have hf := if_f hf hc
          refine lv_aload_n hx hb dX6_copy_47 rfl (lv_at hl 2 rfl) ?_
          refine lv_ldc hx hb hown w2 dX6_copy_48 ?_
          obtain ⟨x123, fd124, hg, hf⟩ := o2_s hf
          refine Ct.callV0 (ws' := wV g v0 u0 u1 u2 u3 k0 k1 k2 k3 h0 h1 h2 h3 s0 s1 s2 s3 c0 c1 c2 p0 r0 t0 t1 t2 t3 z0 f0 ea R N B S C P Q K X fd124 tl ik) (As := [.int (-1000006 : Int32)]) (rest := []) (st1 := [.int x123]) (c_X6_finding l g v0 u0 u1 u2 u3 k0 k1 k2 k3 h0 h1 h2 h3 s0 s1 s2 s3 c0 c1 c2 p0 r0 t0 t1 t2 t3 z0 f0 ea R N B S C P Q K X fd tl ik (-1000006 : Int32) hg) (cwV 1 hts gX6_copy_X6_finding rfl rfl rfl q_X6_finding ⟨Nat.le_of_ble_eq_true rfl, Nat.le_of_ble_eq_true rfl⟩) ⟨hx, hb, hml, hown, hts⟩ hE hP hD hS hA 6 0 rfl rfl rfl rfl hl.1 rfl rfl (Nat.le_of_ble_eq_true rfl) dX6_copy_50 (fun H locs hP hD hS => ?_)
          obtain ⟨rfl, rfl, rfl⟩ := some_p3 hf
          rw [hQ]; exact Ct.iret hx hb hr hlocks hAe hP hD hS dX6_copy_53
  · refine Ct.callV0 (ws' := wV g v0 u0 u1 u2 u3 k0 k1 k2 k3 h0 h1 h2 h3 s0 s1 s2 s3 c0 c1 c2 p0 r0 t0 t1 t2 t3 z0 f0 ea R N B S C P Q K X fd tl ik) (As := [.int a1]) (rest := []) (st1 := [.ref (ea 2)]) (c_X6_sheetAt l g v0 u0 u1 u2 u3 k0 k1 k2 k3 h0 h1 h2 h3 s0 s1 s2 s3 c0 c1 c2 p0 r0 t0 t1 t2 t3 z0 f0 ea R N B S C P Q K X fd tl ik 2 (by decide) a1 hs) (cwV 1 hts gX6_copy_X6_sheetAt rfl rfl rfl q_X6_sheetAt ⟨Nat.le_of_ble_eq_true rfl, Nat.le_of_ble_eq_true rfl⟩) ⟨hx, hb, hml, hown, hts⟩ hE hP hD hS hA 6 0 rfl rfl rfl rfl hl.1 rfl rfl (Nat.le_of_ble_eq_true rfl) dX6_copy_2 (fun H locs hP hD hS => ?_)
    refine lv_astore (lv' := [(6, .ref (ea 2)), (0, .ref v0), (1, .int a1), (2, .int a2), (3, .int a3), (4, .int a4), (5, .int a5)]) hx hb dX6_copy_5 hl (by decide) rfl (fun ls hl => ?_)
    refine lv_aload_n hx hb dX6_copy_7 rfl (lv_at hl 1 rfl) ?_
    refine lv_iload_n hx hb dX6_copy_8 rfl (lv_at hl 4 rfl) ?_
    rcases sh_s hf with ⟨hs, hf⟩ | ⟨hs, hf⟩ | ⟨hs, hf⟩ | ⟨hs, hf⟩ | ⟨hs, hf⟩
    · refine Ct.callV0 (ws' := wV g v0 u0 u1 u2 u3 k0 k1 k2 k3 h0 h1 h2 h3 s0 s1 s2 s3 c0 c1 c2 p0 r0 t0 t1 t2 t3 z0 f0 ea R N B S C P Q K X fd tl ik) (As := [.int a3]) (rest := []) (st1 := [.null]) (c_X6_sheetAt_null l g v0 u0 u1 u2 u3 k0 k1 k2 k3 h0 h1 h2 h3 s0 s1 s2 s3 c0 c1 c2 p0 r0 t0 t1 t2 t3 z0 f0 ea R N B S C P Q K X fd tl ik a3 hs) (cwV 1 hts gX6_copy_X6_sheetAt rfl rfl rfl q_X6_sheetAt ⟨Nat.le_of_ble_eq_true rfl, Nat.le_of_ble_eq_true rfl⟩) ⟨hx, hb, hml, hown, hts⟩ hE hP hD hS hA 6 0 rfl rfl rfl rfl hl.1 rfl rfl (Nat.le_of_ble_eq_true rfl) dX6_copy_9 (fun H locs hP hD hS => ?_)
      refine lv_astoreN (lv' := [(7, .null), (6, .ref (ea 2)), (0, .ref v0), (1, .int a1), (2, .int a2), (3, .int a3), (4, .int a4), (5, .int a5)]) hx hb dX6_copy_12 hl (by decide) rfl (fun ls hl => ?_)
      refine lv_aload hx hb dX6_copy_14 (lv_at hl 1 rfl) ?_
      refine lv_ifnull hx hb dX6_copy_16 ?_
      refine lv_aloadN hx hb dX6_copy_19 (lv_at hl 0 rfl) ?_
      refine lv_ifnonnullN hx hb dX6_copy_21 ?_
      refine lv_aload_n hx hb dX6_copy_24 rfl (lv_at hl 2 rfl) ?_
      refine lv_ldc hx hb hown w1 dX6_copy_25 ?_
      obtain ⟨x107, fd108, hg, hf⟩ := o2_s hf
      refine Ct.callV0 (ws' := wV g v0 u0 u1 u2 u3 k0 k1 k2 k3 h0 h1 h2 h3 s0 s1 s2 s3 c0 c1 c2 p0 r0 t0 t1 t2 t3 z0 f0 ea R N B S C P Q K X fd108 tl ik) (As := [.int (-1000001 : Int32)]) (rest := []) (st1 := [.int x107]) (c_X6_finding l g v0 u0 u1 u2 u3 k0 k1 k2 k3 h0 h1 h2 h3 s0 s1 s2 s3 c0 c1 c2 p0 r0 t0 t1 t2 t3 z0 f0 ea R N B S C P Q K X fd tl ik (-1000001 : Int32) hg) (cwV 1 hts gX6_copy_X6_finding rfl rfl rfl q_X6_finding ⟨Nat.le_of_ble_eq_true rfl, Nat.le_of_ble_eq_true rfl⟩) ⟨hx, hb, hml, hown, hts⟩ hE hP hD hS hA 6 0 rfl rfl rfl rfl hl.1 rfl rfl (Nat.le_of_ble_eq_true rfl) dX6_copy_27 (fun H locs hP hD hS => ?_)
      obtain ⟨rfl, rfl, rfl⟩ := some_p3 hf
      rw [hQ]; exact Ct.iret hx hb hr hlocks hAe hP hD hS dX6_copy_30
    · refine Ct.callV0 (ws' := wV g v0 u0 u1 u2 u3 k0 k1 k2 k3 h0 h1 h2 h3 s0 s1 s2 s3 c0 c1 c2 p0 r0 t0 t1 t2 t3 z0 f0 ea R N B S C P Q K X fd tl ik) (As := [.int a3]) (rest := []) (st1 := [.ref (ea 0)]) (c_X6_sheetAt l g v0 u0 u1 u2 u3 k0 k1 k2 k3 h0 h1 h2 h3 s0 s1 s2 s3 c0 c1 c2 p0 r0 t0 t1 t2 t3 z0 f0 ea R N B S C P Q K X fd tl ik 0 (by decide) a3 hs) (cwV 1 hts gX6_copy_X6_sheetAt rfl rfl rfl q_X6_sheetAt ⟨Nat.le_of_ble_eq_true rfl, Nat.le_of_ble_eq_true rfl⟩) ⟨hx, hb, hml, hown, hts⟩ hE hP hD hS hA 6 0 rfl rfl rfl rfl hl.1 rfl rfl (Nat.le_of_ble_eq_true rfl) dX6_copy_9 (fun H locs hP hD hS => ?_)
      refine lv_astore (lv' := [(7, .ref (ea 0)), (6, .ref (ea 2)), (0, .ref v0), (1, .int a1), (2, .int a2), (3, .int a3), (4, .int a4), (5, .int a5)]) hx hb dX6_copy_12 hl (by decide) rfl (fun ls hl => ?_)
      refine lv_aload hx hb dX6_copy_14 (lv_at hl 1 rfl) ?_
      refine lv_ifnull hx hb dX6_copy_16 ?_
      refine lv_aload hx hb dX6_copy_19 (lv_at hl 0 rfl) ?_
      refine lv_ifnonnull (tgt := 31) hx hb dX6_copy_21 (by decide) ?_
      refine lv_aload hx hb dX6_copy_31 (lv_at hl 1 rfl) ?_
      obtain ⟨x110, hg, hf⟩ := o1_s hf
      refine Ct.callV (ws' := wV g v0 u0 u1 u2 u3 k0 k1 k2 k3 h0 h1 h2 h3 s0 s1 s2 s3 c0 c1 c2 p0 r0 t0 t1 t2 t3 z0 f0 ea R N B S C P Q K X fd tl ik) (As := []) (rest := []) (st1 := [.int x110]) (c_X2_isMissing l g (ea 2) (ea 6) (X 2) hg) (cwV 0 hts gX6_copy_X2_isMissing rfl rfl rfl q_X2_isMissing ⟨Nat.le_of_ble_eq_true rfl, Nat.le_of_ble_eq_true rfl⟩) ⟨hx, hb, hml, hown, hts⟩ hE hP hD hS hA [31, 32] rfl rfl rfl rfl 2 31 rfl rfl rfl rfl hl.1 rfl rfl (Nat.le_of_ble_eq_true rfl) dX6_copy_33 (fun H locs hP hD hS => ?_)
      refine lv_if_ne (tgt := 47) hx hb dX6_copy_36 (by decide) (fun hc => ?_) (fun hc => ?_)
      · have hf := if_f hf hc
        refine lv_aload_n hx hb dX6_copy_47 rfl (lv_at hl 2 rfl) ?_
        refine lv_ldc hx hb hown w2 dX6_copy_48 ?_
        obtain ⟨x111, fd112, hg, hf⟩ := o2_s hf
        refine Ct.callV0 (ws' := wV g v0 u0 u1 u2 u3 k0 k1 k2 k3 h0 h1 h2 h3 s0 s1 s2 s3 c0 c1 c2 p0 r0 t0 t1 t2 t3 z0 f0 ea R N B S C P Q K X fd112 tl ik) (As := [.int (-1000006 : Int32)]) (rest := []) (st1 := [.int x111]) (c_X6_finding l g v0 u0 u1 u2 u3 k0 k1 k2 k3 h0 h1 h2 h3 s0 s1 s2 s3 c0 c1 c2 p0 r0 t0 t1 t2 t3 z0 f0 ea R N B S C P Q K X fd tl ik (-1000006 : Int32) hg) (cwV 1 hts gX6_copy_X6_finding rfl rfl rfl q_X6_finding ⟨Nat.le_of_ble_eq_true rfl, Nat.le_of_ble_eq_true rfl⟩) ⟨hx, hb, hml, hown, hts⟩ hE hP hD hS hA 6 0 rfl rfl rfl rfl hl.1 rfl rfl (Nat.le_of_ble_eq_true rfl) dX6_copy_50 (fun H locs hP hD hS => ?_)
        obtain ⟨rfl, rfl, rfl⟩ := some_p3 hf
        rw [hQ]; exact Ct.iret hx hb hr hlocks hAe hP hD hS dX6_copy_53
      · have hf := if_t hf hc
        refine lv_aload hx hb dX6_copy_39 (lv_at hl 0 rfl) ?_
        obtain ⟨x113, hg, hf⟩ := o1_s hf
        refine Ct.callV (ws' := wV g v0 u0 u1 u2 u3 k0 k1 k2 k3 h0 h1 h2 h3 s0 s1 s2 s3 c0 c1 c2 p0 r0 t0 t1 t2 t3 z0 f0 ea R N B S C P Q K X fd tl ik) (As := []) (rest := []) (st1 := [.int x113]) (c_X2_isMissing l g (ea 0) (ea 4) (X 0) hg) (cwV 0 hts gX6_copy_X2_isMissing rfl rfl rfl q_X2_isMissing ⟨Nat.le_of_ble_eq_true rfl, Nat.le_of_ble_eq_true rfl⟩) ⟨hx, hb, hml, hown, hts⟩ hE hP hD hS hA [27, 28] rfl rfl rfl rfl 2 27 rfl rfl rfl rfl hl.1 rfl rfl (Nat.le_of_ble_eq_true rfl) dX6_copy_41 (fun H locs hP hD hS => ?_)
        refine lv_if_eq (tgt := 54) hx hb dX6_copy_44 (by decide) (fun hc => ?_) (fun hc => ?_)
        · have hf := if_t hf hc
          refine lv_aload hx hb dX6_copy_54 (lv_at hl 1 rfl) ?_
          refine va_getN (D := g.1) (ci := 2) (v := .int ((X 2).2.1)) (C := RX2) (T := TX2) (N := 3) hx hb hts i_X6_copy_X2 hown hE.1 hP 31 rfl rfl 1 (by decide) (va_Nw.use rfl (hE.2.1 _ (List.mem_of_getElem? (i := 19) rfl))) (fun _ h9 => h9) rfl dX6_copy_56 ?_
          refine lv_aload hx hb dX6_copy_59 (lv_at hl 0 rfl) ?_
          refine va_getN (D := g.1) (ci := 2) (v := .int ((X 0).2.1)) (C := RX2) (T := TX2) (N := 3) hx hb hts i_X6_copy_X2 hown hE.1 hP 27 rfl rfl 1 (by decide) (va_Nw.use rfl (hE.2.1 _ (List.mem_of_getElem? (i := 19) rfl))) (fun _ h9 => h9) rfl dX6_copy_61 ?_
          refine lv_icmp_eq (tgt := 74) hx hb dX6_copy_64 (by decide) (fun hc => ?_) (fun hc => ?_)
          · have hf := if_t hf hc
            refine lv_aload hx hb dX6_copy_74 (lv_at hl 1 rfl) ?_
            refine lv_iload_n hx hb dX6_copy_76 rfl (lv_at hl 4 rfl) ?_
            refine lv_iload hx hb dX6_copy_77 (lv_at hl 7 rfl) ?_
            obtain ⟨x114, hg, hf⟩ := o1_s hf
            refine Ct.callV (ws' := wV g v0 u0 u1 u2 u3 k0 k1 k2 k3 h0 h1 h2 h3 s0 s1 s2 s3 c0 c1 c2 p0 r0 t0 t1 t2 t3 z0 f0 ea R N B S C P Q K X fd tl ik) (As := [.int a2, .int a5]) (rest := []) (st1 := [.int x114]) (c_X2_hasRange l g (ea 2) (ea 6) (X 2) a2 a5 hg) (cwV 2 hts gX6_copy_X2_hasRange rfl rfl rfl q_X2_hasRange ⟨Nat.le_of_ble_eq_true rfl, Nat.le_of_ble_eq_true rfl⟩) ⟨hx, hb, hml, hown, hts⟩ hE hP hD hS hA [31, 32] rfl rfl rfl rfl 2 31 rfl rfl rfl rfl hl.1 rfl rfl (Nat.le_of_ble_eq_true rfl) dX6_copy_79 (fun H locs hP hD hS => ?_)
            refine lv_if_eq (tgt := 97) hx hb dX6_copy_82 (by decide) (fun hc => ?_) (fun hc => ?_)
            · have hf := if_t hf hc
              refine lv_aload_n hx hb dX6_copy_97 rfl (lv_at hl 2 rfl) ?_
              refine lv_ldc hx hb hown w1 dX6_copy_98 ?_
              obtain ⟨x115, fd116, hg, hf⟩ := o2_s hf
              refine Ct.callV0 (ws' := wV g v0 u0 u1 u2 u3 k0 k1 k2 k3 h0 h1 h2 h3 s0 s1 s2 s3 c0 c1 c2 p0 r0 t0 t1 t2 t3 z0 f0 ea R N B S C P Q K X fd116 tl ik) (As := [.int (-1000001 : Int32)]) (rest := []) (st1 := [.int x115]) (c_X6_finding l g v0 u0 u1 u2 u3 k0 k1 k2 k3 h0 h1 h2 h3 s0 s1 s2 s3 c0 c1 c2 p0 r0 t0 t1 t2 t3 z0 f0 ea R N B S C P Q K X fd tl ik (-1000001 : Int32) hg) (cwV 1 hts gX6_copy_X6_finding rfl rfl rfl q_X6_finding ⟨Nat.le_of_ble_eq_true rfl, Nat.le_of_ble_eq_true rfl⟩) ⟨hx, hb, hml, hown, hts⟩ hE hP hD hS hA 6 0 rfl rfl rfl rfl hl.1 rfl rfl (Nat.le_of_ble_eq_true rfl) dX6_copy_100 (fun H locs hP hD hS => ?_)
              obtain ⟨rfl, rfl, rfl⟩ := some_p3 hf
              rw [hQ]; exact Ct.iret hx hb hr hlocks hAe hP hD hS dX6_copy_103
            · have hf := if_f hf hc
              refine lv_aload hx hb dX6_copy_85 (lv_at hl 0 rfl) ?_
              refine lv_iload hx hb dX6_copy_87 (lv_at hl 6 rfl) ?_
              refine lv_iload hx hb dX6_copy_89 (lv_at hl 7 rfl) ?_
              obtain ⟨x117, hg, hf⟩ := o1_s hf
              refine Ct.callV (ws' := wV g v0 u0 u1 u2 u3 k0 k1 k2 k3 h0 h1 h2 h3 s0 s1 s2 s3 c0 c1 c2 p0 r0 t0 t1 t2 t3 z0 f0 ea R N B S C P Q K X fd tl ik) (As := [.int a4, .int a5]) (rest := []) (st1 := [.int x117]) (c_X2_hasRange l g (ea 0) (ea 4) (X 0) a4 a5 hg) (cwV 2 hts gX6_copy_X2_hasRange rfl rfl rfl q_X2_hasRange ⟨Nat.le_of_ble_eq_true rfl, Nat.le_of_ble_eq_true rfl⟩) ⟨hx, hb, hml, hown, hts⟩ hE hP hD hS hA [27, 28] rfl rfl rfl rfl 2 27 rfl rfl rfl rfl hl.1 rfl rfl (Nat.le_of_ble_eq_true rfl) dX6_copy_91 (fun H locs hP hD hS => ?_)
              refine lv_if_ne (tgt := 104) hx hb dX6_copy_94 (by decide) (fun hc => ?_) (fun hc => ?_)
              · have hf := if_f hf hc
                refine lv_aload hx hb dX6_copy_104 (lv_at hl 1 rfl) ?_
                refine va_getN (D := g.1) (ci := 2) (v := .ref (ea 6)) (C := RX2) (T := TX2) (N := 3) hx hb hts i_X6_copy_X2 hown hE.1 hP 31 rfl rfl 0 (by decide) (va_Nw.use rfl (hE.2.1 _ (List.mem_of_getElem? (i := 18) rfl))) (fun _ h9 => h9) rfl dX6_copy_106 ?_
                refine lv_iload_n hx hb dX6_copy_109 rfl (lv_at hl 4 rfl) ?_
                refine lv_aload hx hb dX6_copy_110 (lv_at hl 0 rfl) ?_
                refine va_getN (D := g.1) (ci := 2) (v := .ref (ea 4)) (C := RX2) (T := TX2) (N := 3) hx hb hts i_X6_copy_X2 hown hE.1 hP 27 rfl rfl 0 (by decide) (va_Nw.use rfl (hE.2.1 _ (List.mem_of_getElem? (i := 18) rfl))) (fun _ h9 => h9) rfl dX6_copy_112 ?_
                refine lv_iload hx hb dX6_copy_115 (lv_at hl 6 rfl) ?_
                refine lv_iload hx hb dX6_copy_117 (lv_at hl 7 rfl) ?_
                obtain ⟨f118, ef, hcp, hf⟩ := cp_s hf
                refine st_copy (ws' := wV g v0 u0 u1 u2 u3 k0 k1 k2 k3 h0 h1 h2 h3 s0 s1 s2 s3 c0 c1 c2 p0 r0 t0 t1 t2 t3 z0 f0 ea R N B S C P Q K (upS X 0 (f118, (X 0).2.1, (X 0).2.2)) fd tl ik) (f := ((X 2).1)) (g := ((X 0).1)) (f2 := f118) hx hb (hml.trans hl.1.symm) hown w3 w4 w5 w6 hE.1 hP hD hS 32 28 0 rfl rfl rfl ef hcp rfl (Nat.le_of_ble_eq_true rfl) (Nat.le_of_ble_eq_true rfl) dX6_copy_119 (fun H locs hP hD hS => ?_)
                refine lv_iload hx hb dX6_copy_122 (lv_at hl 7 rfl) ?_
                obtain ⟨rfl, rfl, rfl⟩ := some_p3 hf
                rw [hQ]; exact Ct.iret hx hb hr hlocks hAe hP hD hS dX6_copy_124
              · have hf := if_t hf hc
                refine lv_aload_n hx hb dX6_copy_97 rfl (lv_at hl 2 rfl) ?_
                refine lv_ldc hx hb hown w1 dX6_copy_98 ?_
                obtain ⟨x119, fd120, hg, hf⟩ := o2_s hf
                refine Ct.callV0 (ws' := wV g v0 u0 u1 u2 u3 k0 k1 k2 k3 h0 h1 h2 h3 s0 s1 s2 s3 c0 c1 c2 p0 r0 t0 t1 t2 t3 z0 f0 ea R N B S C P Q K X fd120 tl ik) (As := [.int (-1000001 : Int32)]) (rest := []) (st1 := [.int x119]) (c_X6_finding l g v0 u0 u1 u2 u3 k0 k1 k2 k3 h0 h1 h2 h3 s0 s1 s2 s3 c0 c1 c2 p0 r0 t0 t1 t2 t3 z0 f0 ea R N B S C P Q K X fd tl ik (-1000001 : Int32) hg) (cwV 1 hts gX6_copy_X6_finding rfl rfl rfl q_X6_finding ⟨Nat.le_of_ble_eq_true rfl, Nat.le_of_ble_eq_true rfl⟩) ⟨hx, hb, hml, hown, hts⟩ hE hP hD hS hA 6 0 rfl rfl rfl rfl hl.1 rfl rfl (Nat.le_of_ble_eq_true rfl) dX6_copy_100 (fun H locs hP hD hS => ?_)
                obtain ⟨rfl, rfl, rfl⟩ := some_p3 hf
                rw [hQ]; exact Ct.iret hx hb hr hlocks hAe hP hD hS dX6_copy_103
          · have hf := if_f hf hc
            refine lv_aload_n hx hb dX6_copy_67 rfl (lv_at hl 2 rfl) ?_
            refine lv_ldc hx hb hown w7 dX6_copy_68 ?_
            obtain ⟨x121, fd122, hg, hf⟩ := o2_s hf
            refine Ct.callV0 (ws' := wV g v0 u0 u1 u2 u3 k0 k1 k2 k3 h0 h1 h2 h3 s0 s1 s2 s3 c0 c1 c2 p0 r0 t0 t1 t2 t3 z0 f0 ea R N B S C P Q K X fd122 tl ik) (As := [.int (-1000003 : Int32)]) (rest := []) (st1 := [.int x121]) (c_X6_finding l g v0 u0 u1 u2 u3 k0 k1 k2 k3 h0 h1 h2 h3 s0 s1 s2 s3 c0 c1 c2 p0 r0 t0 t1 t2 t3 z0 f0 ea R N B S C P Q K X fd tl ik (-1000003 : Int32) hg) (cwV 1 hts gX6_copy_X6_finding rfl rfl rfl q_X6_finding ⟨Nat.le_of_ble_eq_true rfl, Nat.le_of_ble_eq_true rfl⟩) ⟨hx, hb, hml, hown, hts⟩ hE hP hD hS hA 6 0 rfl rfl rfl rfl hl.1 rfl rfl (Nat.le_of_ble_eq_true rfl) dX6_copy_70 (fun H locs hP hD hS => ?_)
            obtain ⟨rfl, rfl, rfl⟩ := some_p3 hf
            rw [hQ]; exact Ct.iret hx hb hr hlocks hAe hP hD hS dX6_copy_73
        · have hf := if_f hf hc
          refine lv_aload_n hx hb dX6_copy_47 rfl (lv_at hl 2 rfl) ?_
          refine lv_ldc hx hb hown w2 dX6_copy_48 ?_
          obtain ⟨x123, fd124, hg, hf⟩ := o2_s hf
          refine Ct.callV0 (ws' := wV g v0 u0 u1 u2 u3 k0 k1 k2 k3 h0 h1 h2 h3 s0 s1 s2 s3 c0 c1 c2 p0 r0 t0 t1 t2 t3 z0 f0 ea R N B S C P Q K X fd124 tl ik) (As := [.int (-1000006 : Int32)]) (rest := []) (st1 := [.int x123]) (c_X6_finding l g v0 u0 u1 u2 u3 k0 k1 k2 k3 h0 h1 h2 h3 s0 s1 s2 s3 c0 c1 c2 p0 r0 t0 t1 t2 t3 z0 f0 ea R N B S C P Q K X fd tl ik (-1000006 : Int32) hg) (cwV 1 hts gX6_copy_X6_finding rfl rfl rfl q_X6_finding ⟨Nat.le_of_ble_eq_true rfl, Nat.le_of_ble_eq_true rfl⟩) ⟨hx, hb, hml, hown, hts⟩ hE hP hD hS hA 6 0 rfl rfl rfl rfl hl.1 rfl rfl (Nat.le_of_ble_eq_true rfl) dX6_copy_50 (fun H locs hP hD hS => ?_)
          obtain ⟨rfl, rfl, rfl⟩ := some_p3 hf
          rw [hQ]; exact Ct.iret hx hb hr hlocks hAe hP hD hS dX6_copy_53
    · refine Ct.callV0 (ws' := wV g v0 u0 u1 u2 u3 k0 k1 k2 k3 h0 h1 h2 h3 s0 s1 s2 s3 c0 c1 c2 p0 r0 t0 t1 t2 t3 z0 f0 ea R N B S C P Q K X fd tl ik) (As := [.int a3]) (rest := []) (st1 := [.ref (ea 1)]) (c_X6_sheetAt l g v0 u0 u1 u2 u3 k0 k1 k2 k3 h0 h1 h2 h3 s0 s1 s2 s3 c0 c1 c2 p0 r0 t0 t1 t2 t3 z0 f0 ea R N B S C P Q K X fd tl ik 1 (by decide) a3 hs) (cwV 1 hts gX6_copy_X6_sheetAt rfl rfl rfl q_X6_sheetAt ⟨Nat.le_of_ble_eq_true rfl, Nat.le_of_ble_eq_true rfl⟩) ⟨hx, hb, hml, hown, hts⟩ hE hP hD hS hA 6 0 rfl rfl rfl rfl hl.1 rfl rfl (Nat.le_of_ble_eq_true rfl) dX6_copy_9 (fun H locs hP hD hS => ?_)
      refine lv_astore (lv' := [(7, .ref (ea 1)), (6, .ref (ea 2)), (0, .ref v0), (1, .int a1), (2, .int a2), (3, .int a3), (4, .int a4), (5, .int a5)]) hx hb dX6_copy_12 hl (by decide) rfl (fun ls hl => ?_)
      refine lv_aload hx hb dX6_copy_14 (lv_at hl 1 rfl) ?_
      refine lv_ifnull hx hb dX6_copy_16 ?_
      refine lv_aload hx hb dX6_copy_19 (lv_at hl 0 rfl) ?_
      refine lv_ifnonnull (tgt := 31) hx hb dX6_copy_21 (by decide) ?_
      refine lv_aload hx hb dX6_copy_31 (lv_at hl 1 rfl) ?_
      obtain ⟨x110, hg, hf⟩ := o1_s hf
      refine Ct.callV (ws' := wV g v0 u0 u1 u2 u3 k0 k1 k2 k3 h0 h1 h2 h3 s0 s1 s2 s3 c0 c1 c2 p0 r0 t0 t1 t2 t3 z0 f0 ea R N B S C P Q K X fd tl ik) (As := []) (rest := []) (st1 := [.int x110]) (c_X2_isMissing l g (ea 2) (ea 6) (X 2) hg) (cwV 0 hts gX6_copy_X2_isMissing rfl rfl rfl q_X2_isMissing ⟨Nat.le_of_ble_eq_true rfl, Nat.le_of_ble_eq_true rfl⟩) ⟨hx, hb, hml, hown, hts⟩ hE hP hD hS hA [31, 32] rfl rfl rfl rfl 2 31 rfl rfl rfl rfl hl.1 rfl rfl (Nat.le_of_ble_eq_true rfl) dX6_copy_33 (fun H locs hP hD hS => ?_)
      refine lv_if_ne (tgt := 47) hx hb dX6_copy_36 (by decide) (fun hc => ?_) (fun hc => ?_)
      · have hf := if_f hf hc
        refine lv_aload_n hx hb dX6_copy_47 rfl (lv_at hl 2 rfl) ?_
        refine lv_ldc hx hb hown w2 dX6_copy_48 ?_
        obtain ⟨x111, fd112, hg, hf⟩ := o2_s hf
        refine Ct.callV0 (ws' := wV g v0 u0 u1 u2 u3 k0 k1 k2 k3 h0 h1 h2 h3 s0 s1 s2 s3 c0 c1 c2 p0 r0 t0 t1 t2 t3 z0 f0 ea R N B S C P Q K X fd112 tl ik) (As := [.int (-1000006 : Int32)]) (rest := []) (st1 := [.int x111]) (c_X6_finding l g v0 u0 u1 u2 u3 k0 k1 k2 k3 h0 h1 h2 h3 s0 s1 s2 s3 c0 c1 c2 p0 r0 t0 t1 t2 t3 z0 f0 ea R N B S C P Q K X fd tl ik (-1000006 : Int32) hg) (cwV 1 hts gX6_copy_X6_finding rfl rfl rfl q_X6_finding ⟨Nat.le_of_ble_eq_true rfl, Nat.le_of_ble_eq_true rfl⟩) ⟨hx, hb, hml, hown, hts⟩ hE hP hD hS hA 6 0 rfl rfl rfl rfl hl.1 rfl rfl (Nat.le_of_ble_eq_true rfl) dX6_copy_50 (fun H locs hP hD hS => ?_)
        obtain ⟨rfl, rfl, rfl⟩ := some_p3 hf
        rw [hQ]; exact Ct.iret hx hb hr hlocks hAe hP hD hS dX6_copy_53
      · have hf := if_t hf hc
        refine lv_aload hx hb dX6_copy_39 (lv_at hl 0 rfl) ?_
        obtain ⟨x113, hg, hf⟩ := o1_s hf
        refine Ct.callV (ws' := wV g v0 u0 u1 u2 u3 k0 k1 k2 k3 h0 h1 h2 h3 s0 s1 s2 s3 c0 c1 c2 p0 r0 t0 t1 t2 t3 z0 f0 ea R N B S C P Q K X fd tl ik) (As := []) (rest := []) (st1 := [.int x113]) (c_X2_isMissing l g (ea 1) (ea 5) (X 1) hg) (cwV 0 hts gX6_copy_X2_isMissing rfl rfl rfl q_X2_isMissing ⟨Nat.le_of_ble_eq_true rfl, Nat.le_of_ble_eq_true rfl⟩) ⟨hx, hb, hml, hown, hts⟩ hE hP hD hS hA [29, 30] rfl rfl rfl rfl 2 29 rfl rfl rfl rfl hl.1 rfl rfl (Nat.le_of_ble_eq_true rfl) dX6_copy_41 (fun H locs hP hD hS => ?_)
        refine lv_if_eq (tgt := 54) hx hb dX6_copy_44 (by decide) (fun hc => ?_) (fun hc => ?_)
        · have hf := if_t hf hc
          refine lv_aload hx hb dX6_copy_54 (lv_at hl 1 rfl) ?_
          refine va_getN (D := g.1) (ci := 2) (v := .int ((X 2).2.1)) (C := RX2) (T := TX2) (N := 3) hx hb hts i_X6_copy_X2 hown hE.1 hP 31 rfl rfl 1 (by decide) (va_Nw.use rfl (hE.2.1 _ (List.mem_of_getElem? (i := 19) rfl))) (fun _ h9 => h9) rfl dX6_copy_56 ?_
          refine lv_aload hx hb dX6_copy_59 (lv_at hl 0 rfl) ?_
          refine va_getN (D := g.1) (ci := 2) (v := .int ((X 1).2.1)) (C := RX2) (T := TX2) (N := 3) hx hb hts i_X6_copy_X2 hown hE.1 hP 29 rfl rfl 1 (by decide) (va_Nw.use rfl (hE.2.1 _ (List.mem_of_getElem? (i := 19) rfl))) (fun _ h9 => h9) rfl dX6_copy_61 ?_
          refine lv_icmp_eq (tgt := 74) hx hb dX6_copy_64 (by decide) (fun hc => ?_) (fun hc => ?_)
          · have hf := if_t hf hc
            refine lv_aload hx hb dX6_copy_74 (lv_at hl 1 rfl) ?_
            refine lv_iload_n hx hb dX6_copy_76 rfl (lv_at hl 4 rfl) ?_
            refine lv_iload hx hb dX6_copy_77 (lv_at hl 7 rfl) ?_
            obtain ⟨x114, hg, hf⟩ := o1_s hf
            refine Ct.callV (ws' := wV g v0 u0 u1 u2 u3 k0 k1 k2 k3 h0 h1 h2 h3 s0 s1 s2 s3 c0 c1 c2 p0 r0 t0 t1 t2 t3 z0 f0 ea R N B S C P Q K X fd tl ik) (As := [.int a2, .int a5]) (rest := []) (st1 := [.int x114]) (c_X2_hasRange l g (ea 2) (ea 6) (X 2) a2 a5 hg) (cwV 2 hts gX6_copy_X2_hasRange rfl rfl rfl q_X2_hasRange ⟨Nat.le_of_ble_eq_true rfl, Nat.le_of_ble_eq_true rfl⟩) ⟨hx, hb, hml, hown, hts⟩ hE hP hD hS hA [31, 32] rfl rfl rfl rfl 2 31 rfl rfl rfl rfl hl.1 rfl rfl (Nat.le_of_ble_eq_true rfl) dX6_copy_79 (fun H locs hP hD hS => ?_)
            refine lv_if_eq (tgt := 97) hx hb dX6_copy_82 (by decide) (fun hc => ?_) (fun hc => ?_)
            · have hf := if_t hf hc
              refine lv_aload_n hx hb dX6_copy_97 rfl (lv_at hl 2 rfl) ?_
              refine lv_ldc hx hb hown w1 dX6_copy_98 ?_
              obtain ⟨x115, fd116, hg, hf⟩ := o2_s hf
              refine Ct.callV0 (ws' := wV g v0 u0 u1 u2 u3 k0 k1 k2 k3 h0 h1 h2 h3 s0 s1 s2 s3 c0 c1 c2 p0 r0 t0 t1 t2 t3 z0 f0 ea R N B S C P Q K X fd116 tl ik) (As := [.int (-1000001 : Int32)]) (rest := []) (st1 := [.int x115]) (c_X6_finding l g v0 u0 u1 u2 u3 k0 k1 k2 k3 h0 h1 h2 h3 s0 s1 s2 s3 c0 c1 c2 p0 r0 t0 t1 t2 t3 z0 f0 ea R N B S C P Q K X fd tl ik (-1000001 : Int32) hg) (cwV 1 hts gX6_copy_X6_finding rfl rfl rfl q_X6_finding ⟨Nat.le_of_ble_eq_true rfl, Nat.le_of_ble_eq_true rfl⟩) ⟨hx, hb, hml, hown, hts⟩ hE hP hD hS hA 6 0 rfl rfl rfl rfl hl.1 rfl rfl (Nat.le_of_ble_eq_true rfl) dX6_copy_100 (fun H locs hP hD hS => ?_)
              obtain ⟨rfl, rfl, rfl⟩ := some_p3 hf
              rw [hQ]; exact Ct.iret hx hb hr hlocks hAe hP hD hS dX6_copy_103
            · have hf := if_f hf hc
              refine lv_aload hx hb dX6_copy_85 (lv_at hl 0 rfl) ?_
              refine lv_iload hx hb dX6_copy_87 (lv_at hl 6 rfl) ?_
              refine lv_iload hx hb dX6_copy_89 (lv_at hl 7 rfl) ?_
              obtain ⟨x117, hg, hf⟩ := o1_s hf
              refine Ct.callV (ws' := wV g v0 u0 u1 u2 u3 k0 k1 k2 k3 h0 h1 h2 h3 s0 s1 s2 s3 c0 c1 c2 p0 r0 t0 t1 t2 t3 z0 f0 ea R N B S C P Q K X fd tl ik) (As := [.int a4, .int a5]) (rest := []) (st1 := [.int x117]) (c_X2_hasRange l g (ea 1) (ea 5) (X 1) a4 a5 hg) (cwV 2 hts gX6_copy_X2_hasRange rfl rfl rfl q_X2_hasRange ⟨Nat.le_of_ble_eq_true rfl, Nat.le_of_ble_eq_true rfl⟩) ⟨hx, hb, hml, hown, hts⟩ hE hP hD hS hA [29, 30] rfl rfl rfl rfl 2 29 rfl rfl rfl rfl hl.1 rfl rfl (Nat.le_of_ble_eq_true rfl) dX6_copy_91 (fun H locs hP hD hS => ?_)
              refine lv_if_ne (tgt := 104) hx hb dX6_copy_94 (by decide) (fun hc => ?_) (fun hc => ?_)
              · have hf := if_f hf hc
                refine lv_aload hx hb dX6_copy_104 (lv_at hl 1 rfl) ?_
                refine va_getN (D := g.1) (ci := 2) (v := .ref (ea 6)) (C := RX2) (T := TX2) (N := 3) hx hb hts i_X6_copy_X2 hown hE.1 hP 31 rfl rfl 0 (by decide) (va_Nw.use rfl (hE.2.1 _ (List.mem_of_getElem? (i := 18) rfl))) (fun _ h9 => h9) rfl dX6_copy_106 ?_
                refine lv_iload_n hx hb dX6_copy_109 rfl (lv_at hl 4 rfl) ?_
                refine lv_aload hx hb dX6_copy_110 (lv_at hl 0 rfl) ?_
                refine va_getN (D := g.1) (ci := 2) (v := .ref (ea 5)) (C := RX2) (T := TX2) (N := 3) hx hb hts i_X6_copy_X2 hown hE.1 hP 29 rfl rfl 0 (by decide) (va_Nw.use rfl (hE.2.1 _ (List.mem_of_getElem? (i := 18) rfl))) (fun _ h9 => h9) rfl dX6_copy_112 ?_
                refine lv_iload hx hb dX6_copy_115 (lv_at hl 6 rfl) ?_
                refine lv_iload hx hb dX6_copy_117 (lv_at hl 7 rfl) ?_
                obtain ⟨f118, ef, hcp, hf⟩ := cp_s hf
                refine st_copy (ws' := wV g v0 u0 u1 u2 u3 k0 k1 k2 k3 h0 h1 h2 h3 s0 s1 s2 s3 c0 c1 c2 p0 r0 t0 t1 t2 t3 z0 f0 ea R N B S C P Q K (upS X 1 (f118, (X 1).2.1, (X 1).2.2)) fd tl ik) (f := ((X 2).1)) (g := ((X 1).1)) (f2 := f118) hx hb (hml.trans hl.1.symm) hown w3 w4 w5 w6 hE.1 hP hD hS 32 30 0 rfl rfl rfl ef hcp rfl (Nat.le_of_ble_eq_true rfl) (Nat.le_of_ble_eq_true rfl) dX6_copy_119 (fun H locs hP hD hS => ?_)
                refine lv_iload hx hb dX6_copy_122 (lv_at hl 7 rfl) ?_
                obtain ⟨rfl, rfl, rfl⟩ := some_p3 hf
                rw [hQ]; exact Ct.iret hx hb hr hlocks hAe hP hD hS dX6_copy_124
              · have hf := if_t hf hc
                refine lv_aload_n hx hb dX6_copy_97 rfl (lv_at hl 2 rfl) ?_
                refine lv_ldc hx hb hown w1 dX6_copy_98 ?_
                obtain ⟨x119, fd120, hg, hf⟩ := o2_s hf
                refine Ct.callV0 (ws' := wV g v0 u0 u1 u2 u3 k0 k1 k2 k3 h0 h1 h2 h3 s0 s1 s2 s3 c0 c1 c2 p0 r0 t0 t1 t2 t3 z0 f0 ea R N B S C P Q K X fd120 tl ik) (As := [.int (-1000001 : Int32)]) (rest := []) (st1 := [.int x119]) (c_X6_finding l g v0 u0 u1 u2 u3 k0 k1 k2 k3 h0 h1 h2 h3 s0 s1 s2 s3 c0 c1 c2 p0 r0 t0 t1 t2 t3 z0 f0 ea R N B S C P Q K X fd tl ik (-1000001 : Int32) hg) (cwV 1 hts gX6_copy_X6_finding rfl rfl rfl q_X6_finding ⟨Nat.le_of_ble_eq_true rfl, Nat.le_of_ble_eq_true rfl⟩) ⟨hx, hb, hml, hown, hts⟩ hE hP hD hS hA 6 0 rfl rfl rfl rfl hl.1 rfl rfl (Nat.le_of_ble_eq_true rfl) dX6_copy_100 (fun H locs hP hD hS => ?_)
                obtain ⟨rfl, rfl, rfl⟩ := some_p3 hf
                rw [hQ]; exact Ct.iret hx hb hr hlocks hAe hP hD hS dX6_copy_103
          · have hf := if_f hf hc
            refine lv_aload_n hx hb dX6_copy_67 rfl (lv_at hl 2 rfl) ?_
            refine lv_ldc hx hb hown w7 dX6_copy_68 ?_
            obtain ⟨x121, fd122, hg, hf⟩ := o2_s hf
            refine Ct.callV0 (ws' := wV g v0 u0 u1 u2 u3 k0 k1 k2 k3 h0 h1 h2 h3 s0 s1 s2 s3 c0 c1 c2 p0 r0 t0 t1 t2 t3 z0 f0 ea R N B S C P Q K X fd122 tl ik) (As := [.int (-1000003 : Int32)]) (rest := []) (st1 := [.int x121]) (c_X6_finding l g v0 u0 u1 u2 u3 k0 k1 k2 k3 h0 h1 h2 h3 s0 s1 s2 s3 c0 c1 c2 p0 r0 t0 t1 t2 t3 z0 f0 ea R N B S C P Q K X fd tl ik (-1000003 : Int32) hg) (cwV 1 hts gX6_copy_X6_finding rfl rfl rfl q_X6_finding ⟨Nat.le_of_ble_eq_true rfl, Nat.le_of_ble_eq_true rfl⟩) ⟨hx, hb, hml, hown, hts⟩ hE hP hD hS hA 6 0 rfl rfl rfl rfl hl.1 rfl rfl (Nat.le_of_ble_eq_true rfl) dX6_copy_70 (fun H locs hP hD hS => ?_)
            obtain ⟨rfl, rfl, rfl⟩ := some_p3 hf
            rw [hQ]; exact Ct.iret hx hb hr hlocks hAe hP hD hS dX6_copy_73
        · have hf := if_f hf hc
          refine lv_aload_n hx hb dX6_copy_47 rfl (lv_at hl 2 rfl) ?_
          refine lv_ldc hx hb hown w2 dX6_copy_48 ?_
          obtain ⟨x123, fd124, hg, hf⟩ := o2_s hf
          refine Ct.callV0 (ws' := wV g v0 u0 u1 u2 u3 k0 k1 k2 k3 h0 h1 h2 h3 s0 s1 s2 s3 c0 c1 c2 p0 r0 t0 t1 t2 t3 z0 f0 ea R N B S C P Q K X fd124 tl ik) (As := [.int (-1000006 : Int32)]) (rest := []) (st1 := [.int x123]) (c_X6_finding l g v0 u0 u1 u2 u3 k0 k1 k2 k3 h0 h1 h2 h3 s0 s1 s2 s3 c0 c1 c2 p0 r0 t0 t1 t2 t3 z0 f0 ea R N B S C P Q K X fd tl ik (-1000006 : Int32) hg) (cwV 1 hts gX6_copy_X6_finding rfl rfl rfl q_X6_finding ⟨Nat.le_of_ble_eq_true rfl, Nat.le_of_ble_eq_true rfl⟩) ⟨hx, hb, hml, hown, hts⟩ hE hP hD hS hA 6 0 rfl rfl rfl rfl hl.1 rfl rfl (Nat.le_of_ble_eq_true rfl) dX6_copy_50 (fun H locs hP hD hS => ?_)
          obtain ⟨rfl, rfl, rfl⟩ := some_p3 hf
          rw [hQ]; exact Ct.iret hx hb hr hlocks hAe hP hD hS dX6_copy_53
    · refine Ct.callV0 (ws' := wV g v0 u0 u1 u2 u3 k0 k1 k2 k3 h0 h1 h2 h3 s0 s1 s2 s3 c0 c1 c2 p0 r0 t0 t1 t2 t3 z0 f0 ea R N B S C P Q K X fd tl ik) (As := [.int a3]) (rest := []) (st1 := [.ref (ea 2)]) (c_X6_sheetAt l g v0 u0 u1 u2 u3 k0 k1 k2 k3 h0 h1 h2 h3 s0 s1 s2 s3 c0 c1 c2 p0 r0 t0 t1 t2 t3 z0 f0 ea R N B S C P Q K X fd tl ik 2 (by decide) a3 hs) (cwV 1 hts gX6_copy_X6_sheetAt rfl rfl rfl q_X6_sheetAt ⟨Nat.le_of_ble_eq_true rfl, Nat.le_of_ble_eq_true rfl⟩) ⟨hx, hb, hml, hown, hts⟩ hE hP hD hS hA 6 0 rfl rfl rfl rfl hl.1 rfl rfl (Nat.le_of_ble_eq_true rfl) dX6_copy_9 (fun H locs hP hD hS => ?_)
      refine lv_astore (lv' := [(7, .ref (ea 2)), (6, .ref (ea 2)), (0, .ref v0), (1, .int a1), (2, .int a2), (3, .int a3), (4, .int a4), (5, .int a5)]) hx hb dX6_copy_12 hl (by decide) rfl (fun ls hl => ?_)
      refine lv_aload hx hb dX6_copy_14 (lv_at hl 1 rfl) ?_
      refine lv_ifnull hx hb dX6_copy_16 ?_
      refine lv_aload hx hb dX6_copy_19 (lv_at hl 0 rfl) ?_
      refine lv_ifnonnull (tgt := 31) hx hb dX6_copy_21 (by decide) ?_
      refine lv_aload hx hb dX6_copy_31 (lv_at hl 1 rfl) ?_
      obtain ⟨x110, hg, hf⟩ := o1_s hf
      refine Ct.callV (ws' := wV g v0 u0 u1 u2 u3 k0 k1 k2 k3 h0 h1 h2 h3 s0 s1 s2 s3 c0 c1 c2 p0 r0 t0 t1 t2 t3 z0 f0 ea R N B S C P Q K X fd tl ik) (As := []) (rest := []) (st1 := [.int x110]) (c_X2_isMissing l g (ea 2) (ea 6) (X 2) hg) (cwV 0 hts gX6_copy_X2_isMissing rfl rfl rfl q_X2_isMissing ⟨Nat.le_of_ble_eq_true rfl, Nat.le_of_ble_eq_true rfl⟩) ⟨hx, hb, hml, hown, hts⟩ hE hP hD hS hA [31, 32] rfl rfl rfl rfl 2 31 rfl rfl rfl rfl hl.1 rfl rfl (Nat.le_of_ble_eq_true rfl) dX6_copy_33 (fun H locs hP hD hS => ?_)
      refine lv_if_ne (tgt := 47) hx hb dX6_copy_36 (by decide) (fun hc => ?_) (fun hc => ?_)
      · have hf := if_f hf hc
        refine lv_aload_n hx hb dX6_copy_47 rfl (lv_at hl 2 rfl) ?_
        refine lv_ldc hx hb hown w2 dX6_copy_48 ?_
        obtain ⟨x111, fd112, hg, hf⟩ := o2_s hf
        refine Ct.callV0 (ws' := wV g v0 u0 u1 u2 u3 k0 k1 k2 k3 h0 h1 h2 h3 s0 s1 s2 s3 c0 c1 c2 p0 r0 t0 t1 t2 t3 z0 f0 ea R N B S C P Q K X fd112 tl ik) (As := [.int (-1000006 : Int32)]) (rest := []) (st1 := [.int x111]) (c_X6_finding l g v0 u0 u1 u2 u3 k0 k1 k2 k3 h0 h1 h2 h3 s0 s1 s2 s3 c0 c1 c2 p0 r0 t0 t1 t2 t3 z0 f0 ea R N B S C P Q K X fd tl ik (-1000006 : Int32) hg) (cwV 1 hts gX6_copy_X6_finding rfl rfl rfl q_X6_finding ⟨Nat.le_of_ble_eq_true rfl, Nat.le_of_ble_eq_true rfl⟩) ⟨hx, hb, hml, hown, hts⟩ hE hP hD hS hA 6 0 rfl rfl rfl rfl hl.1 rfl rfl (Nat.le_of_ble_eq_true rfl) dX6_copy_50 (fun H locs hP hD hS => ?_)
        obtain ⟨rfl, rfl, rfl⟩ := some_p3 hf
        rw [hQ]; exact Ct.iret hx hb hr hlocks hAe hP hD hS dX6_copy_53
      · have hf := if_t hf hc
        refine lv_aload hx hb dX6_copy_39 (lv_at hl 0 rfl) ?_
        obtain ⟨x113, hg, hf⟩ := o1_s hf
        refine Ct.callV (ws' := wV g v0 u0 u1 u2 u3 k0 k1 k2 k3 h0 h1 h2 h3 s0 s1 s2 s3 c0 c1 c2 p0 r0 t0 t1 t2 t3 z0 f0 ea R N B S C P Q K X fd tl ik) (As := []) (rest := []) (st1 := [.int x113]) (c_X2_isMissing l g (ea 2) (ea 6) (X 2) hg) (cwV 0 hts gX6_copy_X2_isMissing rfl rfl rfl q_X2_isMissing ⟨Nat.le_of_ble_eq_true rfl, Nat.le_of_ble_eq_true rfl⟩) ⟨hx, hb, hml, hown, hts⟩ hE hP hD hS hA [31, 32] rfl rfl rfl rfl 2 31 rfl rfl rfl rfl hl.1 rfl rfl (Nat.le_of_ble_eq_true rfl) dX6_copy_41 (fun H locs hP hD hS => ?_)
        refine lv_if_eq (tgt := 54) hx hb dX6_copy_44 (by decide) (fun hc => ?_) (fun hc => ?_)
        · have hf := if_t hf hc
          refine lv_aload hx hb dX6_copy_54 (lv_at hl 1 rfl) ?_
          refine va_getN (D := g.1) (ci := 2) (v := .int ((X 2).2.1)) (C := RX2) (T := TX2) (N := 3) hx hb hts i_X6_copy_X2 hown hE.1 hP 31 rfl rfl 1 (by decide) (va_Nw.use rfl (hE.2.1 _ (List.mem_of_getElem? (i := 19) rfl))) (fun _ h9 => h9) rfl dX6_copy_56 ?_
          refine lv_aload hx hb dX6_copy_59 (lv_at hl 0 rfl) ?_
          refine va_getN (D := g.1) (ci := 2) (v := .int ((X 2).2.1)) (C := RX2) (T := TX2) (N := 3) hx hb hts i_X6_copy_X2 hown hE.1 hP 31 rfl rfl 1 (by decide) (va_Nw.use rfl (hE.2.1 _ (List.mem_of_getElem? (i := 19) rfl))) (fun _ h9 => h9) rfl dX6_copy_61 ?_
          refine lv_icmp_eq (tgt := 74) hx hb dX6_copy_64 (by decide) (fun hc => ?_) (fun hc => ?_)
          · have hf := if_t hf hc
            refine lv_aload hx hb dX6_copy_74 (lv_at hl 1 rfl) ?_
            refine lv_iload_n hx hb dX6_copy_76 rfl (lv_at hl 4 rfl) ?_
            refine lv_iload hx hb dX6_copy_77 (lv_at hl 7 rfl) ?_
            obtain ⟨x114, hg, hf⟩ := o1_s hf
            refine Ct.callV (ws' := wV g v0 u0 u1 u2 u3 k0 k1 k2 k3 h0 h1 h2 h3 s0 s1 s2 s3 c0 c1 c2 p0 r0 t0 t1 t2 t3 z0 f0 ea R N B S C P Q K X fd tl ik) (As := [.int a2, .int a5]) (rest := []) (st1 := [.int x114]) (c_X2_hasRange l g (ea 2) (ea 6) (X 2) a2 a5 hg) (cwV 2 hts gX6_copy_X2_hasRange rfl rfl rfl q_X2_hasRange ⟨Nat.le_of_ble_eq_true rfl, Nat.le_of_ble_eq_true rfl⟩) ⟨hx, hb, hml, hown, hts⟩ hE hP hD hS hA [31, 32] rfl rfl rfl rfl 2 31 rfl rfl rfl rfl hl.1 rfl rfl (Nat.le_of_ble_eq_true rfl) dX6_copy_79 (fun H locs hP hD hS => ?_)
            refine lv_if_eq (tgt := 97) hx hb dX6_copy_82 (by decide) (fun hc => ?_) (fun hc => ?_)
            · have hf := if_t hf hc
              refine lv_aload_n hx hb dX6_copy_97 rfl (lv_at hl 2 rfl) ?_
              refine lv_ldc hx hb hown w1 dX6_copy_98 ?_
              obtain ⟨x115, fd116, hg, hf⟩ := o2_s hf
              refine Ct.callV0 (ws' := wV g v0 u0 u1 u2 u3 k0 k1 k2 k3 h0 h1 h2 h3 s0 s1 s2 s3 c0 c1 c2 p0 r0 t0 t1 t2 t3 z0 f0 ea R N B S C P Q K X fd116 tl ik) (As := [.int (-1000001 : Int32)]) (rest := []) (st1 := [.int x115]) (c_X6_finding l g v0 u0 u1 u2 u3 k0 k1 k2 k3 h0 h1 h2 h3 s0 s1 s2 s3 c0 c1 c2 p0 r0 t0 t1 t2 t3 z0 f0 ea R N B S C P Q K X fd tl ik (-1000001 : Int32) hg) (cwV 1 hts gX6_copy_X6_finding rfl rfl rfl q_X6_finding ⟨Nat.le_of_ble_eq_true rfl, Nat.le_of_ble_eq_true rfl⟩) ⟨hx, hb, hml, hown, hts⟩ hE hP hD hS hA 6 0 rfl rfl rfl rfl hl.1 rfl rfl (Nat.le_of_ble_eq_true rfl) dX6_copy_100 (fun H locs hP hD hS => ?_)
              obtain ⟨rfl, rfl, rfl⟩ := some_p3 hf
              rw [hQ]; exact Ct.iret hx hb hr hlocks hAe hP hD hS dX6_copy_103
            · have hf := if_f hf hc
              refine lv_aload hx hb dX6_copy_85 (lv_at hl 0 rfl) ?_
              refine lv_iload hx hb dX6_copy_87 (lv_at hl 6 rfl) ?_
              refine lv_iload hx hb dX6_copy_89 (lv_at hl 7 rfl) ?_
              obtain ⟨x117, hg, hf⟩ := o1_s hf
              refine Ct.callV (ws' := wV g v0 u0 u1 u2 u3 k0 k1 k2 k3 h0 h1 h2 h3 s0 s1 s2 s3 c0 c1 c2 p0 r0 t0 t1 t2 t3 z0 f0 ea R N B S C P Q K X fd tl ik) (As := [.int a4, .int a5]) (rest := []) (st1 := [.int x117]) (c_X2_hasRange l g (ea 2) (ea 6) (X 2) a4 a5 hg) (cwV 2 hts gX6_copy_X2_hasRange rfl rfl rfl q_X2_hasRange ⟨Nat.le_of_ble_eq_true rfl, Nat.le_of_ble_eq_true rfl⟩) ⟨hx, hb, hml, hown, hts⟩ hE hP hD hS hA [31, 32] rfl rfl rfl rfl 2 31 rfl rfl rfl rfl hl.1 rfl rfl (Nat.le_of_ble_eq_true rfl) dX6_copy_91 (fun H locs hP hD hS => ?_)
              refine lv_if_ne (tgt := 104) hx hb dX6_copy_94 (by decide) (fun hc => ?_) (fun hc => ?_)
              · have hf := if_f hf hc
                refine lv_aload hx hb dX6_copy_104 (lv_at hl 1 rfl) ?_
                refine va_getN (D := g.1) (ci := 2) (v := .ref (ea 6)) (C := RX2) (T := TX2) (N := 3) hx hb hts i_X6_copy_X2 hown hE.1 hP 31 rfl rfl 0 (by decide) (va_Nw.use rfl (hE.2.1 _ (List.mem_of_getElem? (i := 18) rfl))) (fun _ h9 => h9) rfl dX6_copy_106 ?_
                refine lv_iload_n hx hb dX6_copy_109 rfl (lv_at hl 4 rfl) ?_
                refine lv_aload hx hb dX6_copy_110 (lv_at hl 0 rfl) ?_
                refine va_getN (D := g.1) (ci := 2) (v := .ref (ea 6)) (C := RX2) (T := TX2) (N := 3) hx hb hts i_X6_copy_X2 hown hE.1 hP 31 rfl rfl 0 (by decide) (va_Nw.use rfl (hE.2.1 _ (List.mem_of_getElem? (i := 18) rfl))) (fun _ h9 => h9) rfl dX6_copy_112 ?_
                refine lv_iload hx hb dX6_copy_115 (lv_at hl 6 rfl) ?_
                refine lv_iload hx hb dX6_copy_117 (lv_at hl 7 rfl) ?_
                obtain ⟨f118, ef, hcp, hf⟩ := cp_s hf
                refine st_copy (ws' := wV g v0 u0 u1 u2 u3 k0 k1 k2 k3 h0 h1 h2 h3 s0 s1 s2 s3 c0 c1 c2 p0 r0 t0 t1 t2 t3 z0 f0 ea R N B S C P Q K (upS X 2 (f118, (X 2).2.1, (X 2).2.2)) fd tl ik) (f := ((X 2).1)) (g := ((X 2).1)) (f2 := f118) hx hb (hml.trans hl.1.symm) hown w3 w4 w5 w6 hE.1 hP hD hS 32 32 0 rfl rfl rfl ef hcp rfl (Nat.le_of_ble_eq_true rfl) (Nat.le_of_ble_eq_true rfl) dX6_copy_119 (fun H locs hP hD hS => ?_)
                refine lv_iload hx hb dX6_copy_122 (lv_at hl 7 rfl) ?_
                obtain ⟨rfl, rfl, rfl⟩ := some_p3 hf
                rw [hQ]; exact Ct.iret hx hb hr hlocks hAe hP hD hS dX6_copy_124
              · have hf := if_t hf hc
                refine lv_aload_n hx hb dX6_copy_97 rfl (lv_at hl 2 rfl) ?_
                refine lv_ldc hx hb hown w1 dX6_copy_98 ?_
                obtain ⟨x119, fd120, hg, hf⟩ := o2_s hf
                refine Ct.callV0 (ws' := wV g v0 u0 u1 u2 u3 k0 k1 k2 k3 h0 h1 h2 h3 s0 s1 s2 s3 c0 c1 c2 p0 r0 t0 t1 t2 t3 z0 f0 ea R N B S C P Q K X fd120 tl ik) (As := [.int (-1000001 : Int32)]) (rest := []) (st1 := [.int x119]) (c_X6_finding l g v0 u0 u1 u2 u3 k0 k1 k2 k3 h0 h1 h2 h3 s0 s1 s2 s3 c0 c1 c2 p0 r0 t0 t1 t2 t3 z0 f0 ea R N B S C P Q K X fd tl ik (-1000001 : Int32) hg) (cwV 1 hts gX6_copy_X6_finding rfl rfl rfl q_X6_finding ⟨Nat.le_of_ble_eq_true rfl, Nat.le_of_ble_eq_true rfl⟩) ⟨hx, hb, hml, hown, hts⟩ hE hP hD hS hA 6 0 rfl rfl rfl rfl hl.1 rfl rfl (Nat.le_of_ble_eq_true rfl) dX6_copy_100 (fun H locs hP hD hS => ?_)
                obtain ⟨rfl, rfl, rfl⟩ := some_p3 hf
                rw [hQ]; exact Ct.iret hx hb hr hlocks hAe hP hD hS dX6_copy_103
          · have hf := if_f hf hc
            refine lv_aload_n hx hb dX6_copy_67 rfl (lv_at hl 2 rfl) ?_
            refine lv_ldc hx hb hown w7 dX6_copy_68 ?_
            obtain ⟨x121, fd122, hg, hf⟩ := o2_s hf
            refine Ct.callV0 (ws' := wV g v0 u0 u1 u2 u3 k0 k1 k2 k3 h0 h1 h2 h3 s0 s1 s2 s3 c0 c1 c2 p0 r0 t0 t1 t2 t3 z0 f0 ea R N B S C P Q K X fd122 tl ik) (As := [.int (-1000003 : Int32)]) (rest := []) (st1 := [.int x121]) (c_X6_finding l g v0 u0 u1 u2 u3 k0 k1 k2 k3 h0 h1 h2 h3 s0 s1 s2 s3 c0 c1 c2 p0 r0 t0 t1 t2 t3 z0 f0 ea R N B S C P Q K X fd tl ik (-1000003 : Int32) hg) (cwV 1 hts gX6_copy_X6_finding rfl rfl rfl q_X6_finding ⟨Nat.le_of_ble_eq_true rfl, Nat.le_of_ble_eq_true rfl⟩) ⟨hx, hb, hml, hown, hts⟩ hE hP hD hS hA 6 0 rfl rfl rfl rfl hl.1 rfl rfl (Nat.le_of_ble_eq_true rfl) dX6_copy_70 (fun H locs hP hD hS => ?_)
            obtain ⟨rfl, rfl, rfl⟩ := some_p3 hf
            rw [hQ]; exact Ct.iret hx hb hr hlocks hAe hP hD hS dX6_copy_73
        · have hf := if_f hf hc
          refine lv_aload_n hx hb dX6_copy_47 rfl (lv_at hl 2 rfl) ?_
          refine lv_ldc hx hb hown w2 dX6_copy_48 ?_
          obtain ⟨x123, fd124, hg, hf⟩ := o2_s hf
          refine Ct.callV0 (ws' := wV g v0 u0 u1 u2 u3 k0 k1 k2 k3 h0 h1 h2 h3 s0 s1 s2 s3 c0 c1 c2 p0 r0 t0 t1 t2 t3 z0 f0 ea R N B S C P Q K X fd124 tl ik) (As := [.int (-1000006 : Int32)]) (rest := []) (st1 := [.int x123]) (c_X6_finding l g v0 u0 u1 u2 u3 k0 k1 k2 k3 h0 h1 h2 h3 s0 s1 s2 s3 c0 c1 c2 p0 r0 t0 t1 t2 t3 z0 f0 ea R N B S C P Q K X fd tl ik (-1000006 : Int32) hg) (cwV 1 hts gX6_copy_X6_finding rfl rfl rfl q_X6_finding ⟨Nat.le_of_ble_eq_true rfl, Nat.le_of_ble_eq_true rfl⟩) ⟨hx, hb, hml, hown, hts⟩ hE hP hD hS hA 6 0 rfl rfl rfl rfl hl.1 rfl rfl (Nat.le_of_ble_eq_true rfl) dX6_copy_50 (fun H locs hP hD hS => ?_)
          obtain ⟨rfl, rfl, rfl⟩ := some_p3 hf
          rw [hQ]; exact Ct.iret hx hb hr hlocks hAe hP hD hS dX6_copy_53
    · refine Ct.callV0 (ws' := wV g v0 u0 u1 u2 u3 k0 k1 k2 k3 h0 h1 h2 h3 s0 s1 s2 s3 c0 c1 c2 p0 r0 t0 t1 t2 t3 z0 f0 ea R N B S C P Q K X fd tl ik) (As := [.int a3]) (rest := []) (st1 := [.ref (ea 3)]) (c_X6_sheetAt l g v0 u0 u1 u2 u3 k0 k1 k2 k3 h0 h1 h2 h3 s0 s1 s2 s3 c0 c1 c2 p0 r0 t0 t1 t2 t3 z0 f0 ea R N B S C P Q K X fd tl ik 3 (by decide) a3 hs) (cwV 1 hts gX6_copy_X6_sheetAt rfl rfl rfl q_X6_sheetAt ⟨Nat.le_of_ble_eq_true rfl, Nat.le_of_ble_eq_true rfl⟩) ⟨hx, hb, hml, hown, hts⟩ hE hP hD hS hA 6 0 rfl rfl rfl rfl hl.1 rfl rfl (Nat.le_of_ble_eq_true rfl) dX6_copy_9 (fun H locs hP hD hS => ?_)
      refine lv_astore (lv' := [(7, .ref (ea 3)), (6, .ref (ea 2)), (0, .ref v0), (1, .int a1), (2, .int a2), (3, .int a3), (4, .int a4), (5, .int a5)]) hx hb dX6_copy_12 hl (by decide) rfl (fun ls hl => ?_)
      refine lv_aload hx hb dX6_copy_14 (lv_at hl 1 rfl) ?_
      refine lv_ifnull hx hb dX6_copy_16 ?_
      refine lv_aload hx hb dX6_copy_19 (lv_at hl 0 rfl) ?_
      refine lv_ifnonnull (tgt := 31) hx hb dX6_copy_21 (by decide) ?_
      refine lv_aload hx hb dX6_copy_31 (lv_at hl 1 rfl) ?_
      obtain ⟨x110, hg, hf⟩ := o1_s hf
      refine Ct.callV (ws' := wV g v0 u0 u1 u2 u3 k0 k1 k2 k3 h0 h1 h2 h3 s0 s1 s2 s3 c0 c1 c2 p0 r0 t0 t1 t2 t3 z0 f0 ea R N B S C P Q K X fd tl ik) (As := []) (rest := []) (st1 := [.int x110]) (c_X2_isMissing l g (ea 2) (ea 6) (X 2) hg) (cwV 0 hts gX6_copy_X2_isMissing rfl rfl rfl q_X2_isMissing ⟨Nat.le_of_ble_eq_true rfl, Nat.le_of_ble_eq_true rfl⟩) ⟨hx, hb, hml, hown, hts⟩ hE hP hD hS hA [31, 32] rfl rfl rfl rfl 2 31 rfl rfl rfl rfl hl.1 rfl rfl (Nat.le_of_ble_eq_true rfl) dX6_copy_33 (fun H locs hP hD hS => ?_)
      refine lv_if_ne (tgt := 47) hx hb dX6_copy_36 (by decide) (fun hc => ?_) (fun hc => ?_)
      · have hf := if_f hf hc
        refine lv_aload_n hx hb dX6_copy_47 rfl (lv_at hl 2 rfl) ?_
        refine lv_ldc hx hb hown w2 dX6_copy_48 ?_
        obtain ⟨x111, fd112, hg, hf⟩ := o2_s hf
        refine Ct.callV0 (ws' := wV g v0 u0 u1 u2 u3 k0 k1 k2 k3 h0 h1 h2 h3 s0 s1 s2 s3 c0 c1 c2 p0 r0 t0 t1 t2 t3 z0 f0 ea R N B S C P Q K X fd112 tl ik) (As := [.int (-1000006 : Int32)]) (rest := []) (st1 := [.int x111]) (c_X6_finding l g v0 u0 u1 u2 u3 k0 k1 k2 k3 h0 h1 h2 h3 s0 s1 s2 s3 c0 c1 c2 p0 r0 t0 t1 t2 t3 z0 f0 ea R N B S C P Q K X fd tl ik (-1000006 : Int32) hg) (cwV 1 hts gX6_copy_X6_finding rfl rfl rfl q_X6_finding ⟨Nat.le_of_ble_eq_true rfl, Nat.le_of_ble_eq_true rfl⟩) ⟨hx, hb, hml, hown, hts⟩ hE hP hD hS hA 6 0 rfl rfl rfl rfl hl.1 rfl rfl (Nat.le_of_ble_eq_true rfl) dX6_copy_50 (fun H locs hP hD hS => ?_)
        obtain ⟨rfl, rfl, rfl⟩ := some_p3 hf
        rw [hQ]; exact Ct.iret hx hb hr hlocks hAe hP hD hS dX6_copy_53
      · have hf := if_t hf hc
        refine lv_aload hx hb dX6_copy_39 (lv_at hl 0 rfl) ?_
        obtain ⟨x113, hg, hf⟩ := o1_s hf
        refine Ct.callV (ws' := wV g v0 u0 u1 u2 u3 k0 k1 k2 k3 h0 h1 h2 h3 s0 s1 s2 s3 c0 c1 c2 p0 r0 t0 t1 t2 t3 z0 f0 ea R N B S C P Q K X fd tl ik) (As := []) (rest := []) (st1 := [.int x113]) (c_X2_isMissing l g (ea 3) (ea 7) (X 3) hg) (cwV 0 hts gX6_copy_X2_isMissing rfl rfl rfl q_X2_isMissing ⟨Nat.le_of_ble_eq_true rfl, Nat.le_of_ble_eq_true rfl⟩) ⟨hx, hb, hml, hown, hts⟩ hE hP hD hS hA [33, 34] rfl rfl rfl rfl 2 33 rfl rfl rfl rfl hl.1 rfl rfl (Nat.le_of_ble_eq_true rfl) dX6_copy_41 (fun H locs hP hD hS => ?_)
        refine lv_if_eq (tgt := 54) hx hb dX6_copy_44 (by decide) (fun hc => ?_) (fun hc => ?_)
        · have hf := if_t hf hc
          refine lv_aload hx hb dX6_copy_54 (lv_at hl 1 rfl) ?_
          refine va_getN (D := g.1) (ci := 2) (v := .int ((X 2).2.1)) (C := RX2) (T := TX2) (N := 3) hx hb hts i_X6_copy_X2 hown hE.1 hP 31 rfl rfl 1 (by decide) (va_Nw.use rfl (hE.2.1 _ (List.mem_of_getElem? (i := 19) rfl))) (fun _ h9 => h9) rfl dX6_copy_56 ?_
          refine lv_aload hx hb dX6_copy_59 (lv_at hl 0 rfl) ?_
          refine va_getN (D := g.1) (ci := 2) (v := .int ((X 3).2.1)) (C := RX2) (T := TX2) (N := 3) hx hb hts i_X6_copy_X2 hown hE.1 hP 33 rfl rfl 1 (by decide) (va_Nw.use rfl (hE.2.1 _ (List.mem_of_getElem? (i := 19) rfl))) (fun _ h9 => h9) rfl dX6_copy_61 ?_
          refine lv_icmp_eq (tgt := 74) hx hb dX6_copy_64 (by decide) (fun hc => ?_) (fun hc => ?_)
          · have hf := if_t hf hc
            refine lv_aload hx hb dX6_copy_74 (lv_at hl 1 rfl) ?_
            refine lv_iload_n hx hb dX6_copy_76 rfl (lv_at hl 4 rfl) ?_
            refine lv_iload hx hb dX6_copy_77 (lv_at hl 7 rfl) ?_
            obtain ⟨x114, hg, hf⟩ := o1_s hf
            refine Ct.callV (ws' := wV g v0 u0 u1 u2 u3 k0 k1 k2 k3 h0 h1 h2 h3 s0 s1 s2 s3 c0 c1 c2 p0 r0 t0 t1 t2 t3 z0 f0 ea R N B S C P Q K X fd tl ik) (As := [.int a2, .int a5]) (rest := []) (st1 := [.int x114]) (c_X2_hasRange l g (ea 2) (ea 6) (X 2) a2 a5 hg) (cwV 2 hts gX6_copy_X2_hasRange rfl rfl rfl q_X2_hasRange ⟨Nat.le_of_ble_eq_true rfl, Nat.le_of_ble_eq_true rfl⟩) ⟨hx, hb, hml, hown, hts⟩ hE hP hD hS hA [31, 32] rfl rfl rfl rfl 2 31 rfl rfl rfl rfl hl.1 rfl rfl (Nat.le_of_ble_eq_true rfl) dX6_copy_79 (fun H locs hP hD hS => ?_)
            refine lv_if_eq (tgt := 97) hx hb dX6_copy_82 (by decide) (fun hc => ?_) (fun hc => ?_)
            · have hf := if_t hf hc
              refine lv_aload_n hx hb dX6_copy_97 rfl (lv_at hl 2 rfl) ?_
              refine lv_ldc hx hb hown w1 dX6_copy_98 ?_
              obtain ⟨x115, fd116, hg, hf⟩ := o2_s hf
              refine Ct.callV0 (ws' := wV g v0 u0 u1 u2 u3 k0 k1 k2 k3 h0 h1 h2 h3 s0 s1 s2 s3 c0 c1 c2 p0 r0 t0 t1 t2 t3 z0 f0 ea R N B S C P Q K X fd116 tl ik) (As := [.int (-1000001 : Int32)]) (rest := []) (st1 := [.int x115]) (c_X6_finding l g v0 u0 u1 u2 u3 k0 k1 k2 k3 h0 h1 h2 h3 s0 s1 s2 s3 c0 c1 c2 p0 r0 t0 t1 t2 t3 z0 f0 ea R N B S C P Q K X fd tl ik (-1000001 : Int32) hg) (cwV 1 hts gX6_copy_X6_finding rfl rfl rfl q_X6_finding ⟨Nat.le_of_ble_eq_true rfl, Nat.le_of_ble_eq_true rfl⟩) ⟨hx, hb, hml, hown, hts⟩ hE hP hD hS hA 6 0 rfl rfl rfl rfl hl.1 rfl rfl (Nat.le_of_ble_eq_true rfl) dX6_copy_100 (fun H locs hP hD hS => ?_)
              obtain ⟨rfl, rfl, rfl⟩ := some_p3 hf
              rw [hQ]; exact Ct.iret hx hb hr hlocks hAe hP hD hS dX6_copy_103
            · have hf := if_f hf hc
              refine lv_aload hx hb dX6_copy_85 (lv_at hl 0 rfl) ?_
              refine lv_iload hx hb dX6_copy_87 (lv_at hl 6 rfl) ?_
              refine lv_iload hx hb dX6_copy_89 (lv_at hl 7 rfl) ?_
              obtain ⟨x117, hg, hf⟩ := o1_s hf
              refine Ct.callV (ws' := wV g v0 u0 u1 u2 u3 k0 k1 k2 k3 h0 h1 h2 h3 s0 s1 s2 s3 c0 c1 c2 p0 r0 t0 t1 t2 t3 z0 f0 ea R N B S C P Q K X fd tl ik) (As := [.int a4, .int a5]) (rest := []) (st1 := [.int x117]) (c_X2_hasRange l g (ea 3) (ea 7) (X 3) a4 a5 hg) (cwV 2 hts gX6_copy_X2_hasRange rfl rfl rfl q_X2_hasRange ⟨Nat.le_of_ble_eq_true rfl, Nat.le_of_ble_eq_true rfl⟩) ⟨hx, hb, hml, hown, hts⟩ hE hP hD hS hA [33, 34] rfl rfl rfl rfl 2 33 rfl rfl rfl rfl hl.1 rfl rfl (Nat.le_of_ble_eq_true rfl) dX6_copy_91 (fun H locs hP hD hS => ?_)
              refine lv_if_ne (tgt := 104) hx hb dX6_copy_94 (by decide) (fun hc => ?_) (fun hc => ?_)
              · have hf := if_f hf hc
                refine lv_aload hx hb dX6_copy_104 (lv_at hl 1 rfl) ?_
                refine va_getN (D := g.1) (ci := 2) (v := .ref (ea 6)) (C := RX2) (T := TX2) (N := 3) hx hb hts i_X6_copy_X2 hown hE.1 hP 31 rfl rfl 0 (by decide) (va_Nw.use rfl (hE.2.1 _ (List.mem_of_getElem? (i := 18) rfl))) (fun _ h9 => h9) rfl dX6_copy_106 ?_
                refine lv_iload_n hx hb dX6_copy_109 rfl (lv_at hl 4 rfl) ?_
                refine lv_aload hx hb dX6_copy_110 (lv_at hl 0 rfl) ?_
                refine va_getN (D := g.1) (ci := 2) (v := .ref (ea 7)) (C := RX2) (T := TX2) (N := 3) hx hb hts i_X6_copy_X2 hown hE.1 hP 33 rfl rfl 0 (by decide) (va_Nw.use rfl (hE.2.1 _ (List.mem_of_getElem? (i := 18) rfl))) (fun _ h9 => h9) rfl dX6_copy_112 ?_
                refine lv_iload hx hb dX6_copy_115 (lv_at hl 6 rfl) ?_
                refine lv_iload hx hb dX6_copy_117 (lv_at hl 7 rfl) ?_
                obtain ⟨f118, ef, hcp, hf⟩ := cp_s hf
                refine st_copy (ws' := wV g v0 u0 u1 u2 u3 k0 k1 k2 k3 h0 h1 h2 h3 s0 s1 s2 s3 c0 c1 c2 p0 r0 t0 t1 t2 t3 z0 f0 ea R N B S C P Q K (upS X 3 (f118, (X 3).2.1, (X 3).2.2)) fd tl ik) (f := ((X 2).1)) (g := ((X 3).1)) (f2 := f118) hx hb (hml.trans hl.1.symm) hown w3 w4 w5 w6 hE.1 hP hD hS 32 34 0 rfl rfl rfl ef hcp rfl (Nat.le_of_ble_eq_true rfl) (Nat.le_of_ble_eq_true rfl) dX6_copy_119 (fun H locs hP hD hS => ?_)
                refine lv_iload hx hb dX6_copy_122 (lv_at hl 7 rfl) ?_
                obtain ⟨rfl, rfl, rfl⟩ := some_p3 hf
                rw [hQ]; exact Ct.iret hx hb hr hlocks hAe hP hD hS dX6_copy_124
              · have hf := if_t hf hc
                refine lv_aload_n hx hb dX6_copy_97 rfl (lv_at hl 2 rfl) ?_
                refine lv_ldc hx hb hown w1 dX6_copy_98 ?_
                obtain ⟨x119, fd120, hg, hf⟩ := o2_s hf
                refine Ct.callV0 (ws' := wV g v0 u0 u1 u2 u3 k0 k1 k2 k3 h0 h1 h2 h3 s0 s1 s2 s3 c0 c1 c2 p0 r0 t0 t1 t2 t3 z0 f0 ea R N B S C P Q K X fd120 tl ik) (As := [.int (-1000001 : Int32)]) (rest := []) (st1 := [.int x119]) (c_X6_finding l g v0 u0 u1 u2 u3 k0 k1 k2 k3 h0 h1 h2 h3 s0 s1 s2 s3 c0 c1 c2 p0 r0 t0 t1 t2 t3 z0 f0 ea R N B S C P Q K X fd tl ik (-1000001 : Int32) hg) (cwV 1 hts gX6_copy_X6_finding rfl rfl rfl q_X6_finding ⟨Nat.le_of_ble_eq_true rfl, Nat.le_of_ble_eq_true rfl⟩) ⟨hx, hb, hml, hown, hts⟩ hE hP hD hS hA 6 0 rfl rfl rfl rfl hl.1 rfl rfl (Nat.le_of_ble_eq_true rfl) dX6_copy_100 (fun H locs hP hD hS => ?_)
                obtain ⟨rfl, rfl, rfl⟩ := some_p3 hf
                rw [hQ]; exact Ct.iret hx hb hr hlocks hAe hP hD hS dX6_copy_103
          · have hf := if_f hf hc
            refine lv_aload_n hx hb dX6_copy_67 rfl (lv_at hl 2 rfl) ?_
            refine lv_ldc hx hb hown w7 dX6_copy_68 ?_
            obtain ⟨x121, fd122, hg, hf⟩ := o2_s hf
            refine Ct.callV0 (ws' := wV g v0 u0 u1 u2 u3 k0 k1 k2 k3 h0 h1 h2 h3 s0 s1 s2 s3 c0 c1 c2 p0 r0 t0 t1 t2 t3 z0 f0 ea R N B S C P Q K X fd122 tl ik) (As := [.int (-1000003 : Int32)]) (rest := []) (st1 := [.int x121]) (c_X6_finding l g v0 u0 u1 u2 u3 k0 k1 k2 k3 h0 h1 h2 h3 s0 s1 s2 s3 c0 c1 c2 p0 r0 t0 t1 t2 t3 z0 f0 ea R N B S C P Q K X fd tl ik (-1000003 : Int32) hg) (cwV 1 hts gX6_copy_X6_finding rfl rfl rfl q_X6_finding ⟨Nat.le_of_ble_eq_true rfl, Nat.le_of_ble_eq_true rfl⟩) ⟨hx, hb, hml, hown, hts⟩ hE hP hD hS hA 6 0 rfl rfl rfl rfl hl.1 rfl rfl (Nat.le_of_ble_eq_true rfl) dX6_copy_70 (fun H locs hP hD hS => ?_)
            obtain ⟨rfl, rfl, rfl⟩ := some_p3 hf
            rw [hQ]; exact Ct.iret hx hb hr hlocks hAe hP hD hS dX6_copy_73
        · have hf := if_f hf hc
          refine lv_aload_n hx hb dX6_copy_47 rfl (lv_at hl 2 rfl) ?_
          refine lv_ldc hx hb hown w2 dX6_copy_48 ?_
          obtain ⟨x123, fd124, hg, hf⟩ := o2_s hf
          refine Ct.callV0 (ws' := wV g v0 u0 u1 u2 u3 k0 k1 k2 k3 h0 h1 h2 h3 s0 s1 s2 s3 c0 c1 c2 p0 r0 t0 t1 t2 t3 z0 f0 ea R N B S C P Q K X fd124 tl ik) (As := [.int (-1000006 : Int32)]) (rest := []) (st1 := [.int x123]) (c_X6_finding l g v0 u0 u1 u2 u3 k0 k1 k2 k3 h0 h1 h2 h3 s0 s1 s2 s3 c0 c1 c2 p0 r0 t0 t1 t2 t3 z0 f0 ea R N B S C P Q K X fd tl ik (-1000006 : Int32) hg) (cwV 1 hts gX6_copy_X6_finding rfl rfl rfl q_X6_finding ⟨Nat.le_of_ble_eq_true rfl, Nat.le_of_ble_eq_true rfl⟩) ⟨hx, hb, hml, hown, hts⟩ hE hP hD hS hA 6 0 rfl rfl rfl rfl hl.1 rfl rfl (Nat.le_of_ble_eq_true rfl) dX6_copy_50 (fun H locs hP hD hS => ?_)
          obtain ⟨rfl, rfl, rfl⟩ := some_p3 hf
          rw [hQ]; exact Ct.iret hx hb hr hlocks hAe hP hD hS dX6_copy_53
  · refine Ct.callV0 (ws' := wV g v0 u0 u1 u2 u3 k0 k1 k2 k3 h0 h1 h2 h3 s0 s1 s2 s3 c0 c1 c2 p0 r0 t0 t1 t2 t3 z0 f0 ea R N B S C P Q K X fd tl ik) (As := [.int a1]) (rest := []) (st1 := [.ref (ea 3)]) (c_X6_sheetAt l g v0 u0 u1 u2 u3 k0 k1 k2 k3 h0 h1 h2 h3 s0 s1 s2 s3 c0 c1 c2 p0 r0 t0 t1 t2 t3 z0 f0 ea R N B S C P Q K X fd tl ik 3 (by decide) a1 hs) (cwV 1 hts gX6_copy_X6_sheetAt rfl rfl rfl q_X6_sheetAt ⟨Nat.le_of_ble_eq_true rfl, Nat.le_of_ble_eq_true rfl⟩) ⟨hx, hb, hml, hown, hts⟩ hE hP hD hS hA 6 0 rfl rfl rfl rfl hl.1 rfl rfl (Nat.le_of_ble_eq_true rfl) dX6_copy_2 (fun H locs hP hD hS => ?_)
    refine lv_astore (lv' := [(6, .ref (ea 3)), (0, .ref v0), (1, .int a1), (2, .int a2), (3, .int a3), (4, .int a4), (5, .int a5)]) hx hb dX6_copy_5 hl (by decide) rfl (fun ls hl => ?_)
    refine lv_aload_n hx hb dX6_copy_7 rfl (lv_at hl 1 rfl) ?_
    refine lv_iload_n hx hb dX6_copy_8 rfl (lv_at hl 4 rfl) ?_
    rcases sh_s hf with ⟨hs, hf⟩ | ⟨hs, hf⟩ | ⟨hs, hf⟩ | ⟨hs, hf⟩ | ⟨hs, hf⟩
    · refine Ct.callV0 (ws' := wV g v0 u0 u1 u2 u3 k0 k1 k2 k3 h0 h1 h2 h3 s0 s1 s2 s3 c0 c1 c2 p0 r0 t0 t1 t2 t3 z0 f0 ea R N B S C P Q K X fd tl ik) (As := [.int a3]) (rest := []) (st1 := [.null]) (c_X6_sheetAt_null l g v0 u0 u1 u2 u3 k0 k1 k2 k3 h0 h1 h2 h3 s0 s1 s2 s3 c0 c1 c2 p0 r0 t0 t1 t2 t3 z0 f0 ea R N B S C P Q K X fd tl ik a3 hs) (cwV 1 hts gX6_copy_X6_sheetAt rfl rfl rfl q_X6_sheetAt ⟨Nat.le_of_ble_eq_true rfl, Nat.le_of_ble_eq_true rfl⟩) ⟨hx, hb, hml, hown, hts⟩ hE hP hD hS hA 6 0 rfl rfl rfl rfl hl.1 rfl rfl (Nat.le_of_ble_eq_true rfl) dX6_copy_9 (fun H locs hP hD hS => ?_)
      refine lv_astoreN (lv' := [(7, .null), (6, .ref (ea 3)), (0, .ref v0), (1, .int a1), (2, .int a2), (3, .int a3), (4, .int a4), (5, .int a5)]) hx hb dX6_copy_12 hl (by decide) rfl (fun ls hl => ?_)
      refine lv_aload hx hb dX6_copy_14 (lv_at hl 1 rfl) ?_
      refine lv_ifnull hx hb dX6_copy_16 ?_
      refine lv_aloadN hx hb dX6_copy_19 (lv_at hl 0 rfl) ?_
      refine lv_ifnonnullN hx hb dX6_copy_21 ?_
      refine lv_aload_n hx hb dX6_copy_24 rfl (lv_at hl 2 rfl) ?_
      refine lv_ldc hx hb hown w1 dX6_copy_25 ?_
      obtain ⟨x107, fd108, hg, hf⟩ := o2_s hf
      refine Ct.callV0 (ws' := wV g v0 u0 u1 u2 u3 k0 k1 k2 k3 h0 h1 h2 h3 s0 s1 s2 s3 c0 c1 c2 p0 r0 t0 t1 t2 t3 z0 f0 ea R N B S C P Q K X fd108 tl ik) (As := [.int (-1000001 : Int32)]) (rest := []) (st1 := [.int x107]) (c_X6_finding l g v0 u0 u1 u2 u3 k0 k1 k2 k3 h0 h1 h2 h3 s0 s1 s2 s3 c0 c1 c2 p0 r0 t0 t1 t2 t3 z0 f0 ea R N B S C P Q K X fd tl ik (-1000001 : Int32) hg) (cwV 1 hts gX6_copy_X6_finding rfl rfl rfl q_X6_finding ⟨Nat.le_of_ble_eq_true rfl, Nat.le_of_ble_eq_true rfl⟩) ⟨hx, hb, hml, hown, hts⟩ hE hP hD hS hA 6 0 rfl rfl rfl rfl hl.1 rfl rfl (Nat.le_of_ble_eq_true rfl) dX6_copy_27 (fun H locs hP hD hS => ?_)
      obtain ⟨rfl, rfl, rfl⟩ := some_p3 hf
      rw [hQ]; exact Ct.iret hx hb hr hlocks hAe hP hD hS dX6_copy_30
    · refine Ct.callV0 (ws' := wV g v0 u0 u1 u2 u3 k0 k1 k2 k3 h0 h1 h2 h3 s0 s1 s2 s3 c0 c1 c2 p0 r0 t0 t1 t2 t3 z0 f0 ea R N B S C P Q K X fd tl ik) (As := [.int a3]) (rest := []) (st1 := [.ref (ea 0)]) (c_X6_sheetAt l g v0 u0 u1 u2 u3 k0 k1 k2 k3 h0 h1 h2 h3 s0 s1 s2 s3 c0 c1 c2 p0 r0 t0 t1 t2 t3 z0 f0 ea R N B S C P Q K X fd tl ik 0 (by decide) a3 hs) (cwV 1 hts gX6_copy_X6_sheetAt rfl rfl rfl q_X6_sheetAt ⟨Nat.le_of_ble_eq_true rfl, Nat.le_of_ble_eq_true rfl⟩) ⟨hx, hb, hml, hown, hts⟩ hE hP hD hS hA 6 0 rfl rfl rfl rfl hl.1 rfl rfl (Nat.le_of_ble_eq_true rfl) dX6_copy_9 (fun H locs hP hD hS => ?_)
      refine lv_astore (lv' := [(7, .ref (ea 0)), (6, .ref (ea 3)), (0, .ref v0), (1, .int a1), (2, .int a2), (3, .int a3), (4, .int a4), (5, .int a5)]) hx hb dX6_copy_12 hl (by decide) rfl (fun ls hl => ?_)
      refine lv_aload hx hb dX6_copy_14 (lv_at hl 1 rfl) ?_
      refine lv_ifnull hx hb dX6_copy_16 ?_
      refine lv_aload hx hb dX6_copy_19 (lv_at hl 0 rfl) ?_
      refine lv_ifnonnull (tgt := 31) hx hb dX6_copy_21 (by decide) ?_
      refine lv_aload hx hb dX6_copy_31 (lv_at hl 1 rfl) ?_
      obtain ⟨x110, hg, hf⟩ := o1_s hf
      refine Ct.callV (ws' := wV g v0 u0 u1 u2 u3 k0 k1 k2 k3 h0 h1 h2 h3 s0 s1 s2 s3 c0 c1 c2 p0 r0 t0 t1 t2 t3 z0 f0 ea R N B S C P Q K X fd tl ik) (As := []) (rest := []) (st1 := [.int x110]) (c_X2_isMissing l g (ea 3) (ea 7) (X 3) hg) (cwV 0 hts gX6_copy_X2_isMissing rfl rfl rfl q_X2_isMissing ⟨Nat.le_of_ble_eq_true rfl, Nat.le_of_ble_eq_true rfl⟩) ⟨hx, hb, hml, hown, hts⟩ hE hP hD hS hA [33, 34] rfl rfl rfl rfl 2 33 rfl rfl rfl rfl hl.1 rfl rfl (Nat.le_of_ble_eq_true rfl) dX6_copy_33 (fun H locs hP hD hS => ?_)
      refine lv_if_ne (tgt := 47) hx hb dX6_copy_36 (by decide) (fun hc => ?_) (fun hc => ?_)
      · have hf := if_f hf hc
        refine lv_aload_n hx hb dX6_copy_47 rfl (lv_at hl 2 rfl) ?_
        refine lv_ldc hx hb hown w2 dX6_copy_48 ?_
        obtain ⟨x111, fd112, hg, hf⟩ := o2_s hf
        refine Ct.callV0 (ws' := wV g v0 u0 u1 u2 u3 k0 k1 k2 k3 h0 h1 h2 h3 s0 s1 s2 s3 c0 c1 c2 p0 r0 t0 t1 t2 t3 z0 f0 ea R N B S C P Q K X fd112 tl ik) (As := [.int (-1000006 : Int32)]) (rest := []) (st1 := [.int x111]) (c_X6_finding l g v0 u0 u1 u2 u3 k0 k1 k2 k3 h0 h1 h2 h3 s0 s1 s2 s3 c0 c1 c2 p0 r0 t0 t1 t2 t3 z0 f0 ea R N B S C P Q K X fd tl ik (-1000006 : Int32) hg) (cwV 1 hts gX6_copy_X6_finding rfl rfl rfl q_X6_finding ⟨Nat.le_of_ble_eq_true rfl, Nat.le_of_ble_eq_true rfl⟩) ⟨hx, hb, hml, hown, hts⟩ hE hP hD hS hA 6 0 rfl rfl rfl rfl hl.1 rfl rfl (Nat.le_of_ble_eq_true rfl) dX6_copy_50 (fun H locs hP hD hS => ?_)
        obtain ⟨rfl, rfl, rfl⟩ := some_p3 hf
        rw [hQ]; exact Ct.iret hx hb hr hlocks hAe hP hD hS dX6_copy_53
      · have hf := if_t hf hc
        refine lv_aload hx hb dX6_copy_39 (lv_at hl 0 rfl) ?_
        obtain ⟨x113, hg, hf⟩ := o1_s hf
        refine Ct.callV (ws' := wV g v0 u0 u1 u2 u3 k0 k1 k2 k3 h0 h1 h2 h3 s0 s1 s2 s3 c0 c1 c2 p0 r0 t0 t1 t2 t3 z0 f0 ea R N B S C P Q K X fd tl ik) (As := []) (rest := []) (st1 := [.int x113]) (c_X2_isMissing l g (ea 0) (ea 4) (X 0) hg) (cwV 0 hts gX6_copy_X2_isMissing rfl rfl rfl q_X2_isMissing ⟨Nat.le_of_ble_eq_true rfl, Nat.le_of_ble_eq_true rfl⟩) ⟨hx, hb, hml, hown, hts⟩ hE hP hD hS hA [27, 28] rfl rfl rfl rfl 2 27 rfl rfl rfl rfl hl.1 rfl rfl (Nat.le_of_ble_eq_true rfl) dX6_copy_41 (fun H locs hP hD hS => ?_)
        refine lv_if_eq (tgt := 54) hx hb dX6_copy_44 (by decide) (fun hc => ?_) (fun hc => ?_)
        · have hf := if_t hf hc
          refine lv_aload hx hb dX6_copy_54 (lv_at hl 1 rfl) ?_
          refine va_getN (D := g.1) (ci := 2) (v := .int ((X 3).2.1)) (C := RX2) (T := TX2) (N := 3) hx hb hts i_X6_copy_X2 hown hE.1 hP 33 rfl rfl 1 (by decide) (va_Nw.use rfl (hE.2.1 _ (List.mem_of_getElem? (i := 19) rfl))) (fun _ h9 => h9) rfl dX6_copy_56 ?_
          refine lv_aload hx hb dX6_copy_59 (lv_at hl 0 rfl) ?_
          refine va_getN (D := g.1) (ci := 2) (v := .int ((X 0).2.1)) (C := RX2) (T := TX2) (N := 3) hx hb hts i_X6_copy_X2 hown hE.1 hP 27 rfl rfl 1 (by decide) (va_Nw.use rfl (hE.2.1 _ (List.mem_of_getElem? (i := 19) rfl))) (fun _ h9 => h9) rfl dX6_copy_61 ?_
          refine lv_icmp_eq (tgt := 74) hx hb dX6_copy_64 (by decide) (fun hc => ?_) (fun hc => ?_)
          · have hf := if_t hf hc
            refine lv_aload hx hb dX6_copy_74 (lv_at hl 1 rfl) ?_
            refine lv_iload_n hx hb dX6_copy_76 rfl (lv_at hl 4 rfl) ?_
            refine lv_iload hx hb dX6_copy_77 (lv_at hl 7 rfl) ?_
            obtain ⟨x114, hg, hf⟩ := o1_s hf
            refine Ct.callV (ws' := wV g v0 u0 u1 u2 u3 k0 k1 k2 k3 h0 h1 h2 h3 s0 s1 s2 s3 c0 c1 c2 p0 r0 t0 t1 t2 t3 z0 f0 ea R N B S C P Q K X fd tl ik) (As := [.int a2, .int a5]) (rest := []) (st1 := [.int x114]) (c_X2_hasRange l g (ea 3) (ea 7) (X 3) a2 a5 hg) (cwV 2 hts gX6_copy_X2_hasRange rfl rfl rfl q_X2_hasRange ⟨Nat.le_of_ble_eq_true rfl, Nat.le_of_ble_eq_true rfl⟩) ⟨hx, hb, hml, hown, hts⟩ hE hP hD hS hA [33, 34] rfl rfl rfl rfl 2 33 rfl rfl rfl rfl hl.1 rfl rfl (Nat.le_of_ble_eq_true rfl) dX6_copy_79 (fun H locs hP hD hS => ?_)
            refine lv_if_eq (tgt := 97) hx hb dX6_copy_82 (by decide) (fun hc => ?_) (fun hc => ?_)
            · have hf := if_t hf hc
              refine lv_aload_n hx hb dX6_copy_97 rfl (lv_at hl 2 rfl) ?_
              refine lv_ldc hx hb hown w1 dX6_copy_98 ?_
              obtain ⟨x115, fd116, hg, hf⟩ := o2_s hf
              refine Ct.callV0 (ws' := wV g v0 u0 u1 u2 u3 k0 k1 k2 k3 h0 h1 h2 h3 s0 s1 s2 s3 c0 c1 c2 p0 r0 t0 t1 t2 t3 z0 f0 ea R N B S C P Q K X fd116 tl ik) (As := [.int (-1000001 : Int32)]) (rest := []) (st1 := [.int x115]) (c_X6_finding l g v0 u0 u1 u2 u3 k0 k1 k2 k3 h0 h1 h2 h3 s0 s1 s2 s3 c0 c1 c2 p0 r0 t0 t1 t2 t3 z0 f0 ea R N B S C P Q K X fd tl ik (-1000001 : Int32) hg) (cwV 1 hts gX6_copy_X6_finding rfl rfl rfl q_X6_finding ⟨Nat.le_of_ble_eq_true rfl, Nat.le_of_ble_eq_true rfl⟩) ⟨hx, hb, hml, hown, hts⟩ hE hP hD hS hA 6 0 rfl rfl rfl rfl hl.1 rfl rfl (Nat.le_of_ble_eq_true rfl) dX6_copy_100 (fun H locs hP hD hS => ?_)
              obtain ⟨rfl, rfl, rfl⟩ := some_p3 hf
              rw [hQ]; exact Ct.iret hx hb hr hlocks hAe hP hD hS dX6_copy_103
            · have hf := if_f hf hc
              refine lv_aload hx hb dX6_copy_85 (lv_at hl 0 rfl) ?_
              refine lv_iload hx hb dX6_copy_87 (lv_at hl 6 rfl) ?_
              refine lv_iload hx hb dX6_copy_89 (lv_at hl 7 rfl) ?_
              obtain ⟨x117, hg, hf⟩ := o1_s hf
              refine Ct.callV (ws' := wV g v0 u0 u1 u2 u3 k0 k1 k2 k3 h0 h1 h2 h3 s0 s1 s2 s3 c0 c1 c2 p0 r0 t0 t1 t2 t3 z0 f0 ea R N B S C P Q K X fd tl ik) (As := [.int a4, .int a5]) (rest := []) (st1 := [.int x117]) (c_X2_hasRange l g (ea 0) (ea 4) (X 0) a4 a5 hg) (cwV 2 hts gX6_copy_X2_hasRange rfl rfl rfl q_X2_hasRange ⟨Nat.le_of_ble_eq_true rfl, Nat.le_of_ble_eq_true rfl⟩) ⟨hx, hb, hml, hown, hts⟩ hE hP hD hS hA [27, 28] rfl rfl rfl rfl 2 27 rfl rfl rfl rfl hl.1 rfl rfl (Nat.le_of_ble_eq_true rfl) dX6_copy_91 (fun H locs hP hD hS => ?_)
              refine lv_if_ne (tgt := 104) hx hb dX6_copy_94 (by decide) (fun hc => ?_) (fun hc => ?_)
              · have hf := if_f hf hc
                refine lv_aload hx hb dX6_copy_104 (lv_at hl 1 rfl) ?_
                refine va_getN (D := g.1) (ci := 2) (v := .ref (ea 7)) (C := RX2) (T := TX2) (N := 3) hx hb hts i_X6_copy_X2 hown hE.1 hP 33 rfl rfl 0 (by decide) (va_Nw.use rfl (hE.2.1 _ (List.mem_of_getElem? (i := 18) rfl))) (fun _ h9 => h9) rfl dX6_copy_106 ?_
                refine lv_iload_n hx hb dX6_copy_109 rfl (lv_at hl 4 rfl) ?_
                refine lv_aload hx hb dX6_copy_110 (lv_at hl 0 rfl) ?_
                refine va_getN (D := g.1) (ci := 2) (v := .ref (ea 4)) (C := RX2) (T := TX2) (N := 3) hx hb hts i_X6_copy_X2 hown hE.1 hP 27 rfl rfl 0 (by decide) (va_Nw.use rfl (hE.2.1 _ (List.mem_of_getElem? (i := 18) rfl))) (fun _ h9 => h9) rfl dX6_copy_112 ?_
                refine lv_iload hx hb dX6_copy_115 (lv_at hl 6 rfl) ?_
                refine lv_iload hx hb dX6_copy_117 (lv_at hl 7 rfl) ?_
                obtain ⟨f118, ef, hcp, hf⟩ := cp_s hf
                refine st_copy (ws' := wV g v0 u0 u1 u2 u3 k0 k1 k2 k3 h0 h1 h2 h3 s0 s1 s2 s3 c0 c1 c2 p0 r0 t0 t1 t2 t3 z0 f0 ea R N B S C P Q K (upS X 0 (f118, (X 0).2.1, (X 0).2.2)) fd tl ik) (f := ((X 3).1)) (g := ((X 0).1)) (f2 := f118) hx hb (hml.trans hl.1.symm) hown w3 w4 w5 w6 hE.1 hP hD hS 34 28 0 rfl rfl rfl ef hcp rfl (Nat.le_of_ble_eq_true rfl) (Nat.le_of_ble_eq_true rfl) dX6_copy_119 (fun H locs hP hD hS => ?_)
                refine lv_iload hx hb dX6_copy_122 (lv_at hl 7 rfl) ?_
                obtain ⟨rfl, rfl, rfl⟩ := some_p3 hf
                rw [hQ]; exact Ct.iret hx hb hr hlocks hAe hP hD hS dX6_copy_124
              · have hf := if_t hf hc
                refine lv_aload_n hx hb dX6_copy_97 rfl (lv_at hl 2 rfl) ?_
                refine lv_ldc hx hb hown w1 dX6_copy_98 ?_
                obtain ⟨x119, fd120, hg, hf⟩ := o2_s hf
                refine Ct.callV0 (ws' := wV g v0 u0 u1 u2 u3 k0 k1 k2 k3 h0 h1 h2 h3 s0 s1 s2 s3 c0 c1 c2 p0 r0 t0 t1 t2 t3 z0 f0 ea R N B S C P Q K X fd120 tl ik) (As := [.int (-1000001 : Int32)]) (rest := []) (st1 := [.int x119]) (c_X6_finding l g v0 u0 u1 u2 u3 k0 k1 k2 k3 h0 h1 h2 h3 s0 s1 s2 s3 c0 c1 c2 p0 r0 t0 t1 t2 t3 z0 f0 ea R N B S C P Q K X fd tl ik (-1000001 : Int32) hg) (cwV 1 hts gX6_copy_X6_finding rfl rfl rfl q_X6_finding ⟨Nat.le_of_ble_eq_true rfl, Nat.le_of_ble_eq_true rfl⟩) ⟨hx, hb, hml, hown, hts⟩ hE hP hD hS hA 6 0 rfl rfl rfl rfl hl.1 rfl rfl (Nat.le_of_ble_eq_true rfl) dX6_copy_100 (fun H locs hP hD hS => ?_)
                obtain ⟨rfl, rfl, rfl⟩ := some_p3 hf
                rw [hQ]; exact Ct.iret hx hb hr hlocks hAe hP hD hS dX6_copy_103
          · have hf := if_f hf hc
            refine lv_aload_n hx hb dX6_copy_67 rfl (lv_at hl 2 rfl) ?_
            refine lv_ldc hx hb hown w7 dX6_copy_68 ?_
            obtain ⟨x121, fd122, hg, hf⟩ := o2_s hf
            refine Ct.callV0 (ws' := wV g v0 u0 u1 u2 u3 k0 k1 k2 k3 h0 h1 h2 h3 s0 s1 s2 s3 c0 c1 c2 p0 r0 t0 t1 t2 t3 z0 f0 ea R N B S C P Q K X fd122 tl ik) (As := [.int (-1000003 : Int32)]) (rest := []) (st1 := [.int x121]) (c_X6_finding l g v0 u0 u1 u2 u3 k0 k1 k2 k3 h0 h1 h2 h3 s0 s1 s2 s3 c0 c1 c2 p0 r0 t0 t1 t2 t3 z0 f0 ea R N B S C P Q K X fd tl ik (-1000003 : Int32) hg) (cwV 1 hts gX6_copy_X6_finding rfl rfl rfl q_X6_finding ⟨Nat.le_of_ble_eq_true rfl, Nat.le_of_ble_eq_true rfl⟩) ⟨hx, hb, hml, hown, hts⟩ hE hP hD hS hA 6 0 rfl rfl rfl rfl hl.1 rfl rfl (Nat.le_of_ble_eq_true rfl) dX6_copy_70 (fun H locs hP hD hS => ?_)
            obtain ⟨rfl, rfl, rfl⟩ := some_p3 hf
            rw [hQ]; exact Ct.iret hx hb hr hlocks hAe hP hD hS dX6_copy_73
        · have hf := if_f hf hc
          refine lv_aload_n hx hb dX6_copy_47 rfl (lv_at hl 2 rfl) ?_
          refine lv_ldc hx hb hown w2 dX6_copy_48 ?_
          obtain ⟨x123, fd124, hg, hf⟩ := o2_s hf
          refine Ct.callV0 (ws' := wV g v0 u0 u1 u2 u3 k0 k1 k2 k3 h0 h1 h2 h3 s0 s1 s2 s3 c0 c1 c2 p0 r0 t0 t1 t2 t3 z0 f0 ea R N B S C P Q K X fd124 tl ik) (As := [.int (-1000006 : Int32)]) (rest := []) (st1 := [.int x123]) (c_X6_finding l g v0 u0 u1 u2 u3 k0 k1 k2 k3 h0 h1 h2 h3 s0 s1 s2 s3 c0 c1 c2 p0 r0 t0 t1 t2 t3 z0 f0 ea R N B S C P Q K X fd tl ik (-1000006 : Int32) hg) (cwV 1 hts gX6_copy_X6_finding rfl rfl rfl q_X6_finding ⟨Nat.le_of_ble_eq_true rfl, Nat.le_of_ble_eq_true rfl⟩) ⟨hx, hb, hml, hown, hts⟩ hE hP hD hS hA 6 0 rfl rfl rfl rfl hl.1 rfl rfl (Nat.le_of_ble_eq_true rfl) dX6_copy_50 (fun H locs hP hD hS => ?_)
          obtain ⟨rfl, rfl, rfl⟩ := some_p3 hf
          rw [hQ]; exact Ct.iret hx hb hr hlocks hAe hP hD hS dX6_copy_53
    · refine Ct.callV0 (ws' := wV g v0 u0 u1 u2 u3 k0 k1 k2 k3 h0 h1 h2 h3 s0 s1 s2 s3 c0 c1 c2 p0 r0 t0 t1 t2 t3 z0 f0 ea R N B S C P Q K X fd tl ik) (As := [.int a3]) (rest := []) (st1 := [.ref (ea 1)]) (c_X6_sheetAt l g v0 u0 u1 u2 u3 k0 k1 k2 k3 h0 h1 h2 h3 s0 s1 s2 s3 c0 c1 c2 p0 r0 t0 t1 t2 t3 z0 f0 ea R N B S C P Q K X fd tl ik 1 (by decide) a3 hs) (cwV 1 hts gX6_copy_X6_sheetAt rfl rfl rfl q_X6_sheetAt ⟨Nat.le_of_ble_eq_true rfl, Nat.le_of_ble_eq_true rfl⟩) ⟨hx, hb, hml, hown, hts⟩ hE hP hD hS hA 6 0 rfl rfl rfl rfl hl.1 rfl rfl (Nat.le_of_ble_eq_true rfl) dX6_copy_9 (fun H locs hP hD hS => ?_)
      refine lv_astore (lv' := [(7, .ref (ea 1)), (6, .ref (ea 3)), (0, .ref v0), (1, .int a1), (2, .int a2), (3, .int a3), (4, .int a4), (5, .int a5)]) hx hb dX6_copy_12 hl (by decide) rfl (fun ls hl => ?_)
      refine lv_aload hx hb dX6_copy_14 (lv_at hl 1 rfl) ?_
      refine lv_ifnull hx hb dX6_copy_16 ?_
      refine lv_aload hx hb dX6_copy_19 (lv_at hl 0 rfl) ?_
      refine lv_ifnonnull (tgt := 31) hx hb dX6_copy_21 (by decide) ?_
      refine lv_aload hx hb dX6_copy_31 (lv_at hl 1 rfl) ?_
      obtain ⟨x110, hg, hf⟩ := o1_s hf
      refine Ct.callV (ws' := wV g v0 u0 u1 u2 u3 k0 k1 k2 k3 h0 h1 h2 h3 s0 s1 s2 s3 c0 c1 c2 p0 r0 t0 t1 t2 t3 z0 f0 ea R N B S C P Q K X fd tl ik) (As := []) (rest := []) (st1 := [.int x110]) (c_X2_isMissing l g (ea 3) (ea 7) (X 3) hg) (cwV 0 hts gX6_copy_X2_isMissing rfl rfl rfl q_X2_isMissing ⟨Nat.le_of_ble_eq_true rfl, Nat.le_of_ble_eq_true rfl⟩) ⟨hx, hb, hml, hown, hts⟩ hE hP hD hS hA [33, 34] rfl rfl rfl rfl 2 33 rfl rfl rfl rfl hl.1 rfl rfl (Nat.le_of_ble_eq_true rfl) dX6_copy_33 (fun H locs hP hD hS => ?_)
      refine lv_if_ne (tgt := 47) hx hb dX6_copy_36 (by decide) (fun hc => ?_) (fun hc => ?_)
      · have hf := if_f hf hc
        refine lv_aload_n hx hb dX6_copy_47 rfl (lv_at hl 2 rfl) ?_
        refine lv_ldc hx hb hown w2 dX6_copy_48 ?_
        obtain ⟨x111, fd112, hg, hf⟩ := o2_s hf
        refine Ct.callV0 (ws' := wV g v0 u0 u1 u2 u3 k0 k1 k2 k3 h0 h1 h2 h3 s0 s1 s2 s3 c0 c1 c2 p0 r0 t0 t1 t2 t3 z0 f0 ea R N B S C P Q K X fd112 tl ik) (As := [.int (-1000006 : Int32)]) (rest := []) (st1 := [.int x111]) (c_X6_finding l g v0 u0 u1 u2 u3 k0 k1 k2 k3 h0 h1 h2 h3 s0 s1 s2 s3 c0 c1 c2 p0 r0 t0 t1 t2 t3 z0 f0 ea R N B S C P Q K X fd tl ik (-1000006 : Int32) hg) (cwV 1 hts gX6_copy_X6_finding rfl rfl rfl q_X6_finding ⟨Nat.le_of_ble_eq_true rfl, Nat.le_of_ble_eq_true rfl⟩) ⟨hx, hb, hml, hown, hts⟩ hE hP hD hS hA 6 0 rfl rfl rfl rfl hl.1 rfl rfl (Nat.le_of_ble_eq_true rfl) dX6_copy_50 (fun H locs hP hD hS => ?_)
        obtain ⟨rfl, rfl, rfl⟩ := some_p3 hf
        rw [hQ]; exact Ct.iret hx hb hr hlocks hAe hP hD hS dX6_copy_53
      · have hf := if_t hf hc
        refine lv_aload hx hb dX6_copy_39 (lv_at hl 0 rfl) ?_
        obtain ⟨x113, hg, hf⟩ := o1_s hf
        refine Ct.callV (ws' := wV g v0 u0 u1 u2 u3 k0 k1 k2 k3 h0 h1 h2 h3 s0 s1 s2 s3 c0 c1 c2 p0 r0 t0 t1 t2 t3 z0 f0 ea R N B S C P Q K X fd tl ik) (As := []) (rest := []) (st1 := [.int x113]) (c_X2_isMissing l g (ea 1) (ea 5) (X 1) hg) (cwV 0 hts gX6_copy_X2_isMissing rfl rfl rfl q_X2_isMissing ⟨Nat.le_of_ble_eq_true rfl, Nat.le_of_ble_eq_true rfl⟩) ⟨hx, hb, hml, hown, hts⟩ hE hP hD hS hA [29, 30] rfl rfl rfl rfl 2 29 rfl rfl rfl rfl hl.1 rfl rfl (Nat.le_of_ble_eq_true rfl) dX6_copy_41 (fun H locs hP hD hS => ?_)
        refine lv_if_eq (tgt := 54) hx hb dX6_copy_44 (by decide) (fun hc => ?_) (fun hc => ?_)
        · have hf := if_t hf hc
          refine lv_aload hx hb dX6_copy_54 (lv_at hl 1 rfl) ?_
          refine va_getN (D := g.1) (ci := 2) (v := .int ((X 3).2.1)) (C := RX2) (T := TX2) (N := 3) hx hb hts i_X6_copy_X2 hown hE.1 hP 33 rfl rfl 1 (by decide) (va_Nw.use rfl (hE.2.1 _ (List.mem_of_getElem? (i := 19) rfl))) (fun _ h9 => h9) rfl dX6_copy_56 ?_
          refine lv_aload hx hb dX6_copy_59 (lv_at hl 0 rfl) ?_
          refine va_getN (D := g.1) (ci := 2) (v := .int ((X 1).2.1)) (C := RX2) (T := TX2) (N := 3) hx hb hts i_X6_copy_X2 hown hE.1 hP 29 rfl rfl 1 (by decide) (va_Nw.use rfl (hE.2.1 _ (List.mem_of_getElem? (i := 19) rfl))) (fun _ h9 => h9) rfl dX6_copy_61 ?_
          refine lv_icmp_eq (tgt := 74) hx hb dX6_copy_64 (by decide) (fun hc => ?_) (fun hc => ?_)
          · have hf := if_t hf hc
            refine lv_aload hx hb dX6_copy_74 (lv_at hl 1 rfl) ?_
            refine lv_iload_n hx hb dX6_copy_76 rfl (lv_at hl 4 rfl) ?_
            refine lv_iload hx hb dX6_copy_77 (lv_at hl 7 rfl) ?_
            obtain ⟨x114, hg, hf⟩ := o1_s hf
            refine Ct.callV (ws' := wV g v0 u0 u1 u2 u3 k0 k1 k2 k3 h0 h1 h2 h3 s0 s1 s2 s3 c0 c1 c2 p0 r0 t0 t1 t2 t3 z0 f0 ea R N B S C P Q K X fd tl ik) (As := [.int a2, .int a5]) (rest := []) (st1 := [.int x114]) (c_X2_hasRange l g (ea 3) (ea 7) (X 3) a2 a5 hg) (cwV 2 hts gX6_copy_X2_hasRange rfl rfl rfl q_X2_hasRange ⟨Nat.le_of_ble_eq_true rfl, Nat.le_of_ble_eq_true rfl⟩) ⟨hx, hb, hml, hown, hts⟩ hE hP hD hS hA [33, 34] rfl rfl rfl rfl 2 33 rfl rfl rfl rfl hl.1 rfl rfl (Nat.le_of_ble_eq_true rfl) dX6_copy_79 (fun H locs hP hD hS => ?_)
            refine lv_if_eq (tgt := 97) hx hb dX6_copy_82 (by decide) (fun hc => ?_) (fun hc => ?_)
            · have hf := if_t hf hc
              refine lv_aload_n hx hb dX6_copy_97 rfl (lv_at hl 2 rfl) ?_
              refine lv_ldc hx hb hown w1 dX6_copy_98 ?_
              obtain ⟨x115, fd116, hg, hf⟩ := o2_s hf
              refine Ct.callV0 (ws' := wV g v0 u0 u1 u2 u3 k0 k1 k2 k3 h0 h1 h2 h3 s0 s1 s2 s3 c0 c1 c2 p0 r0 t0 t1 t2 t3 z0 f0 ea R N B S C P Q K X fd116 tl ik) (As := [.int (-1000001 : Int32)]) (rest := []) (st1 := [.int x115]) (c_X6_finding l g v0 u0 u1 u2 u3 k0 k1 k2 k3 h0 h1 h2 h3 s0 s1 s2 s3 c0 c1 c2 p0 r0 t0 t1 t2 t3 z0 f0 ea R N B S C P Q K X fd tl ik (-1000001 : Int32) hg) (cwV 1 hts gX6_copy_X6_finding rfl rfl rfl q_X6_finding ⟨Nat.le_of_ble_eq_true rfl, Nat.le_of_ble_eq_true rfl⟩) ⟨hx, hb, hml, hown, hts⟩ hE hP hD hS hA 6 0 rfl rfl rfl rfl hl.1 rfl rfl (Nat.le_of_ble_eq_true rfl) dX6_copy_100 (fun H locs hP hD hS => ?_)
              obtain ⟨rfl, rfl, rfl⟩ := some_p3 hf
              rw [hQ]; exact Ct.iret hx hb hr hlocks hAe hP hD hS dX6_copy_103
            · have hf := if_f hf hc
              refine lv_aload hx hb dX6_copy_85 (lv_at hl 0 rfl) ?_
              refine lv_iload hx hb dX6_copy_87 (lv_at hl 6 rfl) ?_
              refine lv_iload hx hb dX6_copy_89 (lv_at hl 7 rfl) ?_
              obtain ⟨x117, hg, hf⟩ := o1_s hf
              refine Ct.callV (ws' := wV g v0 u0 u1 u2 u3 k0 k1 k2 k3 h0 h1 h2 h3 s0 s1 s2 s3 c0 c1 c2 p0 r0 t0 t1 t2 t3 z0 f0 ea R N B S C P Q K X fd tl ik) (As := [.int a4, .int a5]) (rest := []) (st1 := [.int x117]) (c_X2_hasRange l g (ea 1) (ea 5) (X 1) a4 a5 hg) (cwV 2 hts gX6_copy_X2_hasRange rfl rfl rfl q_X2_hasRange ⟨Nat.le_of_ble_eq_true rfl, Nat.le_of_ble_eq_true rfl⟩) ⟨hx, hb, hml, hown, hts⟩ hE hP hD hS hA [29, 30] rfl rfl rfl rfl 2 29 rfl rfl rfl rfl hl.1 rfl rfl (Nat.le_of_ble_eq_true rfl) dX6_copy_91 (fun H locs hP hD hS => ?_)
              refine lv_if_ne (tgt := 104) hx hb dX6_copy_94 (by decide) (fun hc => ?_) (fun hc => ?_)
              · have hf := if_f hf hc
                refine lv_aload hx hb dX6_copy_104 (lv_at hl 1 rfl) ?_
                refine va_getN (D := g.1) (ci := 2) (v := .ref (ea 7)) (C := RX2) (T := TX2) (N := 3) hx hb hts i_X6_copy_X2 hown hE.1 hP 33 rfl rfl 0 (by decide) (va_Nw.use rfl (hE.2.1 _ (List.mem_of_getElem? (i := 18) rfl))) (fun _ h9 => h9) rfl dX6_copy_106 ?_
                refine lv_iload_n hx hb dX6_copy_109 rfl (lv_at hl 4 rfl) ?_
                refine lv_aload hx hb dX6_copy_110 (lv_at hl 0 rfl) ?_
                refine va_getN (D := g.1) (ci := 2) (v := .ref (ea 5)) (C := RX2) (T := TX2) (N := 3) hx hb hts i_X6_copy_X2 hown hE.1 hP 29 rfl rfl 0 (by decide) (va_Nw.use rfl (hE.2.1 _ (List.mem_of_getElem? (i := 18) rfl))) (fun _ h9 => h9) rfl dX6_copy_112 ?_
                refine lv_iload hx hb dX6_copy_115 (lv_at hl 6 rfl) ?_
                refine lv_iload hx hb dX6_copy_117 (lv_at hl 7 rfl) ?_
                obtain ⟨f118, ef, hcp, hf⟩ := cp_s hf
                refine st_copy (ws' := wV g v0 u0 u1 u2 u3 k0 k1 k2 k3 h0 h1 h2 h3 s0 s1 s2 s3 c0 c1 c2 p0 r0 t0 t1 t2 t3 z0 f0 ea R N B S C P Q K (upS X 1 (f118, (X 1).2.1, (X 1).2.2)) fd tl ik) (f := ((X 3).1)) (g := ((X 1).1)) (f2 := f118) hx hb (hml.trans hl.1.symm) hown w3 w4 w5 w6 hE.1 hP hD hS 34 30 0 rfl rfl rfl ef hcp rfl (Nat.le_of_ble_eq_true rfl) (Nat.le_of_ble_eq_true rfl) dX6_copy_119 (fun H locs hP hD hS => ?_)
                refine lv_iload hx hb dX6_copy_122 (lv_at hl 7 rfl) ?_
                obtain ⟨rfl, rfl, rfl⟩ := some_p3 hf
                rw [hQ]; exact Ct.iret hx hb hr hlocks hAe hP hD hS dX6_copy_124
              · have hf := if_t hf hc
                refine lv_aload_n hx hb dX6_copy_97 rfl (lv_at hl 2 rfl) ?_
                refine lv_ldc hx hb hown w1 dX6_copy_98 ?_
                obtain ⟨x119, fd120, hg, hf⟩ := o2_s hf
                refine Ct.callV0 (ws' := wV g v0 u0 u1 u2 u3 k0 k1 k2 k3 h0 h1 h2 h3 s0 s1 s2 s3 c0 c1 c2 p0 r0 t0 t1 t2 t3 z0 f0 ea R N B S C P Q K X fd120 tl ik) (As := [.int (-1000001 : Int32)]) (rest := []) (st1 := [.int x119]) (c_X6_finding l g v0 u0 u1 u2 u3 k0 k1 k2 k3 h0 h1 h2 h3 s0 s1 s2 s3 c0 c1 c2 p0 r0 t0 t1 t2 t3 z0 f0 ea R N B S C P Q K X fd tl ik (-1000001 : Int32) hg) (cwV 1 hts gX6_copy_X6_finding rfl rfl rfl q_X6_finding ⟨Nat.le_of_ble_eq_true rfl, Nat.le_of_ble_eq_true rfl⟩) ⟨hx, hb, hml, hown, hts⟩ hE hP hD hS hA 6 0 rfl rfl rfl rfl hl.1 rfl rfl (Nat.le_of_ble_eq_true rfl) dX6_copy_100 (fun H locs hP hD hS => ?_)
                obtain ⟨rfl, rfl, rfl⟩ := some_p3 hf
                rw [hQ]; exact Ct.iret hx hb hr hlocks hAe hP hD hS dX6_copy_103
          · have hf := if_f hf hc
            refine lv_aload_n hx hb dX6_copy_67 rfl (lv_at hl 2 rfl) ?_
            refine lv_ldc hx hb hown w7 dX6_copy_68 ?_
            obtain ⟨x121, fd122, hg, hf⟩ := o2_s hf
            refine Ct.callV0 (ws' := wV g v0 u0 u1 u2 u3 k0 k1 k2 k3 h0 h1 h2 h3 s0 s1 s2 s3 c0 c1 c2 p0 r0 t0 t1 t2 t3 z0 f0 ea R N B S C P Q K X fd122 tl ik) (As := [.int (-1000003 : Int32)]) (rest := []) (st1 := [.int x121]) (c_X6_finding l g v0 u0 u1 u2 u3 k0 k1 k2 k3 h0 h1 h2 h3 s0 s1 s2 s3 c0 c1 c2 p0 r0 t0 t1 t2 t3 z0 f0 ea R N B S C P Q K X fd tl ik (-1000003 : Int32) hg) (cwV 1 hts gX6_copy_X6_finding rfl rfl rfl q_X6_finding ⟨Nat.le_of_ble_eq_true rfl, Nat.le_of_ble_eq_true rfl⟩) ⟨hx, hb, hml, hown, hts⟩ hE hP hD hS hA 6 0 rfl rfl rfl rfl hl.1 rfl rfl (Nat.le_of_ble_eq_true rfl) dX6_copy_70 (fun H locs hP hD hS => ?_)
            obtain ⟨rfl, rfl, rfl⟩ := some_p3 hf
            rw [hQ]; exact Ct.iret hx hb hr hlocks hAe hP hD hS dX6_copy_73
        · have hf := if_f hf hc
          refine lv_aload_n hx hb dX6_copy_47 rfl (lv_at hl 2 rfl) ?_
          refine lv_ldc hx hb hown w2 dX6_copy_48 ?_
          obtain ⟨x123, fd124, hg, hf⟩ := o2_s hf
          refine Ct.callV0 (ws' := wV g v0 u0 u1 u2 u3 k0 k1 k2 k3 h0 h1 h2 h3 s0 s1 s2 s3 c0 c1 c2 p0 r0 t0 t1 t2 t3 z0 f0 ea R N B S C P Q K X fd124 tl ik) (As := [.int (-1000006 : Int32)]) (rest := []) (st1 := [.int x123]) (c_X6_finding l g v0 u0 u1 u2 u3 k0 k1 k2 k3 h0 h1 h2 h3 s0 s1 s2 s3 c0 c1 c2 p0 r0 t0 t1 t2 t3 z0 f0 ea R N B S C P Q K X fd tl ik (-1000006 : Int32) hg) (cwV 1 hts gX6_copy_X6_finding rfl rfl rfl q_X6_finding ⟨Nat.le_of_ble_eq_true rfl, Nat.le_of_ble_eq_true rfl⟩) ⟨hx, hb, hml, hown, hts⟩ hE hP hD hS hA 6 0 rfl rfl rfl rfl hl.1 rfl rfl (Nat.le_of_ble_eq_true rfl) dX6_copy_50 (fun H locs hP hD hS => ?_)
          obtain ⟨rfl, rfl, rfl⟩ := some_p3 hf
          rw [hQ]; exact Ct.iret hx hb hr hlocks hAe hP hD hS dX6_copy_53
    · refine Ct.callV0 (ws' := wV g v0 u0 u1 u2 u3 k0 k1 k2 k3 h0 h1 h2 h3 s0 s1 s2 s3 c0 c1 c2 p0 r0 t0 t1 t2 t3 z0 f0 ea R N B S C P Q K X fd tl ik) (As := [.int a3]) (rest := []) (st1 := [.ref (ea 2)]) (c_X6_sheetAt l g v0 u0 u1 u2 u3 k0 k1 k2 k3 h0 h1 h2 h3 s0 s1 s2 s3 c0 c1 c2 p0 r0 t0 t1 t2 t3 z0 f0 ea R N B S C P Q K X fd tl ik 2 (by decide) a3 hs) (cwV 1 hts gX6_copy_X6_sheetAt rfl rfl rfl q_X6_sheetAt ⟨Nat.le_of_ble_eq_true rfl, Nat.le_of_ble_eq_true rfl⟩) ⟨hx, hb, hml, hown, hts⟩ hE hP hD hS hA 6 0 rfl rfl rfl rfl hl.1 rfl rfl (Nat.le_of_ble_eq_true rfl) dX6_copy_9 (fun H locs hP hD hS => ?_)
      refine lv_astore (lv' := [(7, .ref (ea 2)), (6, .ref (ea 3)), (0, .ref v0), (1, .int a1), (2, .int a2), (3, .int a3), (4, .int a4), (5, .int a5)]) hx hb dX6_copy_12 hl (by decide) rfl (fun ls hl => ?_)
      refine lv_aload hx hb dX6_copy_14 (lv_at hl 1 rfl) ?_
      refine lv_ifnull hx hb dX6_copy_16 ?_
      refine lv_aload hx hb dX6_copy_19 (lv_at hl 0 rfl) ?_
      refine lv_ifnonnull (tgt := 31) hx hb dX6_copy_21 (by decide) ?_
      refine lv_aload hx hb dX6_copy_31 (lv_at hl 1 rfl) ?_
      obtain ⟨x110, hg, hf⟩ := o1_s hf
      refine Ct.callV (ws' := wV g v0 u0 u1 u2 u3 k0 k1 k2 k3 h0 h1 h2 h3 s0 s1 s2 s3 c0 c1 c2 p0 r0 t0 t1 t2 t3 z0 f0 ea R N B S C P Q K X fd tl ik) (As := []) (rest := []) (st1 := [.int x110]) (c_X2_isMissing l g (ea 3) (ea 7) (X 3) hg) (cwV 0 hts gX6_copy_X2_isMissing rfl rfl rfl q_X2_isMissing ⟨Nat.le_of_ble_eq_true rfl, Nat.le_of_ble_eq_true rfl⟩) ⟨hx, hb, hml, hown, hts⟩ hE hP hD hS hA [33, 34] rfl rfl rfl rfl 2 33 rfl rfl rfl rfl hl.1 rfl rfl (Nat.le_of_ble_eq_true rfl) dX6_copy_33 (fun H locs hP hD hS => ?_)
      refine lv_if_ne (tgt := 47) hx hb dX6_copy_36 (by decide) (fun hc => ?_) (fun hc => ?_)
      · have hf := if_f hf hc
        refine lv_aload_n hx hb dX6_copy_47 rfl (lv_at hl 2 rfl) ?_
        refine lv_ldc hx hb hown w2 dX6_copy_48 ?_
        obtain ⟨x111, fd112, hg, hf⟩ := o2_s hf
        refine Ct.callV0 (ws' := wV g v0 u0 u1 u2 u3 k0 k1 k2 k3 h0 h1 h2 h3 s0 s1 s2 s3 c0 c1 c2 p0 r0 t0 t1 t2 t3 z0 f0 ea R N B S C P Q K X fd112 tl ik) (As := [.int (-1000006 : Int32)]) (rest := []) (st1 := [.int x111]) (c_X6_finding l g v0 u0 u1 u2 u3 k0 k1 k2 k3 h0 h1 h2 h3 s0 s1 s2 s3 c0 c1 c2 p0 r0 t0 t1 t2 t3 z0 f0 ea R N B S C P Q K X fd tl ik (-1000006 : Int32) hg) (cwV 1 hts gX6_copy_X6_finding rfl rfl rfl q_X6_finding ⟨Nat.le_of_ble_eq_true rfl, Nat.le_of_ble_eq_true rfl⟩) ⟨hx, hb, hml, hown, hts⟩ hE hP hD hS hA 6 0 rfl rfl rfl rfl hl.1 rfl rfl (Nat.le_of_ble_eq_true rfl) dX6_copy_50 (fun H locs hP hD hS => ?_)
        obtain ⟨rfl, rfl, rfl⟩ := some_p3 hf
        rw [hQ]; exact Ct.iret hx hb hr hlocks hAe hP hD hS dX6_copy_53
      · have hf := if_t hf hc
        refine lv_aload hx hb dX6_copy_39 (lv_at hl 0 rfl) ?_
        obtain ⟨x113, hg, hf⟩ := o1_s hf
        refine Ct.callV (ws' := wV g v0 u0 u1 u2 u3 k0 k1 k2 k3 h0 h1 h2 h3 s0 s1 s2 s3 c0 c1 c2 p0 r0 t0 t1 t2 t3 z0 f0 ea R N B S C P Q K X fd tl ik) (As := []) (rest := []) (st1 := [.int x113]) (c_X2_isMissing l g (ea 2) (ea 6) (X 2) hg) (cwV 0 hts gX6_copy_X2_isMissing rfl rfl rfl q_X2_isMissing ⟨Nat.le_of_ble_eq_true rfl, Nat.le_of_ble_eq_true rfl⟩) ⟨hx, hb, hml, hown, hts⟩ hE hP hD hS hA [31, 32] rfl rfl rfl rfl 2 31 rfl rfl rfl rfl hl.1 rfl rfl (Nat.le_of_ble_eq_true rfl) dX6_copy_41 (fun H locs hP hD hS => ?_)
        refine lv_if_eq (tgt := 54) hx hb dX6_copy_44 (by decide) (fun hc => ?_) (fun hc => ?_)
        · have hf := if_t hf hc
          refine lv_aload hx hb dX6_copy_54 (lv_at hl 1 rfl) ?_
          refine va_getN (D := g.1) (ci := 2) (v := .int ((X 3).2.1)) (C := RX2) (T := TX2) (N := 3) hx hb hts i_X6_copy_X2 hown hE.1 hP 33 rfl rfl 1 (by decide) (va_Nw.use rfl (hE.2.1 _ (List.mem_of_getElem? (i := 19) rfl))) (fun _ h9 => h9) rfl dX6_copy_56 ?_
          refine lv_aload hx hb dX6_copy_59 (lv_at hl 0 rfl) ?_
          refine va_getN (D := g.1) (ci := 2) (v := .int ((X 2).2.1)) (C := RX2) (T := TX2) (N := 3) hx hb hts i_X6_copy_X2 hown hE.1 hP 31 rfl rfl 1 (by decide) (va_Nw.use rfl (hE.2.1 _ (List.mem_of_getElem? (i := 19) rfl))) (fun _ h9 => h9) rfl dX6_copy_61 ?_
          refine lv_icmp_eq (tgt := 74) hx hb dX6_copy_64 (by decide) (fun hc => ?_) (fun hc => ?_)
          · have hf := if_t hf hc
            refine lv_aload hx hb dX6_copy_74 (lv_at hl 1 rfl) ?_
            refine lv_iload_n hx hb dX6_copy_76 rfl (lv_at hl 4 rfl) ?_
            refine lv_iload hx hb dX6_copy_77 (lv_at hl 7 rfl) ?_
            obtain ⟨x114, hg, hf⟩ := o1_s hf
            refine Ct.callV (ws' := wV g v0 u0 u1 u2 u3 k0 k1 k2 k3 h0 h1 h2 h3 s0 s1 s2 s3 c0 c1 c2 p0 r0 t0 t1 t2 t3 z0 f0 ea R N B S C P Q K X fd tl ik) (As := [.int a2, .int a5]) (rest := []) (st1 := [.int x114]) (c_X2_hasRange l g (ea 3) (ea 7) (X 3) a2 a5 hg) (cwV 2 hts gX6_copy_X2_hasRange rfl rfl rfl q_X2_hasRange ⟨Nat.le_of_ble_eq_true rfl, Nat.le_of_ble_eq_true rfl⟩) ⟨hx, hb, hml, hown, hts⟩ hE hP hD hS hA [33, 34] rfl rfl rfl rfl 2 33 rfl rfl rfl rfl hl.1 rfl rfl (Nat.le_of_ble_eq_true rfl) dX6_copy_79 (fun H locs hP hD hS => ?_)
            refine lv_if_eq (tgt := 97) hx hb dX6_copy_82 (by decide) (fun hc => ?_) (fun hc => ?_)
            · have hf := if_t hf hc
              refine lv_aload_n hx hb dX6_copy_97 rfl (lv_at hl 2 rfl) ?_
              refine lv_ldc hx hb hown w1 dX6_copy_98 ?_
              obtain ⟨x115, fd116, hg, hf⟩ := o2_s hf
              refine Ct.callV0 (ws' := wV g v0 u0 u1 u2 u3 k0 k1 k2 k3 h0 h1 h2 h3 s0 s1 s2 s3 c0 c1 c2 p0 r0 t0 t1 t2 t3 z0 f0 ea R N B S C P Q K X fd116 tl ik) (As := [.int (-1000001 : Int32)]) (rest := []) (st1 := [.int x115]) (c_X6_finding l g v0 u0 u1 u2 u3 k0 k1 k2 k3 h0 h1 h2 h3 s0 s1 s2 s3 c0 c1 c2 p0 r0 t0 t1 t2 t3 z0 f0 ea R N B S C P Q K X fd tl ik (-1000001 : Int32) hg) (cwV 1 hts gX6_copy_X6_finding rfl rfl rfl q_X6_finding ⟨Nat.le_of_ble_eq_true rfl, Nat.le_of_ble_eq_true rfl⟩) ⟨hx, hb, hml, hown, hts⟩ hE hP hD hS hA 6 0 rfl rfl rfl rfl hl.1 rfl rfl (Nat.le_of_ble_eq_true rfl) dX6_copy_100 (fun H locs hP hD hS => ?_)
              obtain ⟨rfl, rfl, rfl⟩ := some_p3 hf
              rw [hQ]; exact Ct.iret hx hb hr hlocks hAe hP hD hS dX6_copy_103
            · have hf := if_f hf hc
              refine lv_aload hx hb dX6_copy_85 (lv_at hl 0 rfl) ?_
              refine lv_iload hx hb dX6_copy_87 (lv_at hl 6 rfl) ?_
              refine lv_iload hx hb dX6_copy_89 (lv_at hl 7 rfl) ?_
              obtain ⟨x117, hg, hf⟩ := o1_s hf
              refine Ct.callV (ws' := wV g v0 u0 u1 u2 u3 k0 k1 k2 k3 h0 h1 h2 h3 s0 s1 s2 s3 c0 c1 c2 p0 r0 t0 t1 t2 t3 z0 f0 ea R N B S C P Q K X fd tl ik) (As := [.int a4, .int a5]) (rest := []) (st1 := [.int x117]) (c_X2_hasRange l g (ea 2) (ea 6) (X 2) a4 a5 hg) (cwV 2 hts gX6_copy_X2_hasRange rfl rfl rfl q_X2_hasRange ⟨Nat.le_of_ble_eq_true rfl, Nat.le_of_ble_eq_true rfl⟩) ⟨hx, hb, hml, hown, hts⟩ hE hP hD hS hA [31, 32] rfl rfl rfl rfl 2 31 rfl rfl rfl rfl hl.1 rfl rfl (Nat.le_of_ble_eq_true rfl) dX6_copy_91 (fun H locs hP hD hS => ?_)
              refine lv_if_ne (tgt := 104) hx hb dX6_copy_94 (by decide) (fun hc => ?_) (fun hc => ?_)
              · have hf := if_f hf hc
                refine lv_aload hx hb dX6_copy_104 (lv_at hl 1 rfl) ?_
                refine va_getN (D := g.1) (ci := 2) (v := .ref (ea 7)) (C := RX2) (T := TX2) (N := 3) hx hb hts i_X6_copy_X2 hown hE.1 hP 33 rfl rfl 0 (by decide) (va_Nw.use rfl (hE.2.1 _ (List.mem_of_getElem? (i := 18) rfl))) (fun _ h9 => h9) rfl dX6_copy_106 ?_
                refine lv_iload_n hx hb dX6_copy_109 rfl (lv_at hl 4 rfl) ?_
                refine lv_aload hx hb dX6_copy_110 (lv_at hl 0 rfl) ?_
                refine va_getN (D := g.1) (ci := 2) (v := .ref (ea 6)) (C := RX2) (T := TX2) (N := 3) hx hb hts i_X6_copy_X2 hown hE.1 hP 31 rfl rfl 0 (by decide) (va_Nw.use rfl (hE.2.1 _ (List.mem_of_getElem? (i := 18) rfl))) (fun _ h9 => h9) rfl dX6_copy_112 ?_
                refine lv_iload hx hb dX6_copy_115 (lv_at hl 6 rfl) ?_
                refine lv_iload hx hb dX6_copy_117 (lv_at hl 7 rfl) ?_
                obtain ⟨f118, ef, hcp, hf⟩ := cp_s hf
                refine st_copy (ws' := wV g v0 u0 u1 u2 u3 k0 k1 k2 k3 h0 h1 h2 h3 s0 s1 s2 s3 c0 c1 c2 p0 r0 t0 t1 t2 t3 z0 f0 ea R N B S C P Q K (upS X 2 (f118, (X 2).2.1, (X 2).2.2)) fd tl ik) (f := ((X 3).1)) (g := ((X 2).1)) (f2 := f118) hx hb (hml.trans hl.1.symm) hown w3 w4 w5 w6 hE.1 hP hD hS 34 32 0 rfl rfl rfl ef hcp rfl (Nat.le_of_ble_eq_true rfl) (Nat.le_of_ble_eq_true rfl) dX6_copy_119 (fun H locs hP hD hS => ?_)
                refine lv_iload hx hb dX6_copy_122 (lv_at hl 7 rfl) ?_
                obtain ⟨rfl, rfl, rfl⟩ := some_p3 hf
                rw [hQ]; exact Ct.iret hx hb hr hlocks hAe hP hD hS dX6_copy_124
              · have hf := if_t hf hc
                refine lv_aload_n hx hb dX6_copy_97 rfl (lv_at hl 2 rfl) ?_
                refine lv_ldc hx hb hown w1 dX6_copy_98 ?_
                obtain ⟨x119, fd120, hg, hf⟩ := o2_s hf
                refine Ct.callV0 (ws' := wV g v0 u0 u1 u2 u3 k0 k1 k2 k3 h0 h1 h2 h3 s0 s1 s2 s3 c0 c1 c2 p0 r0 t0 t1 t2 t3 z0 f0 ea R N B S C P Q K X fd120 tl ik) (As := [.int (-1000001 : Int32)]) (rest := []) (st1 := [.int x119]) (c_X6_finding l g v0 u0 u1 u2 u3 k0 k1 k2 k3 h0 h1 h2 h3 s0 s1 s2 s3 c0 c1 c2 p0 r0 t0 t1 t2 t3 z0 f0 ea R N B S C P Q K X fd tl ik (-1000001 : Int32) hg) (cwV 1 hts gX6_copy_X6_finding rfl rfl rfl q_X6_finding ⟨Nat.le_of_ble_eq_true rfl, Nat.le_of_ble_eq_true rfl⟩) ⟨hx, hb, hml, hown, hts⟩ hE hP hD hS hA 6 0 rfl rfl rfl rfl hl.1 rfl rfl (Nat.le_of_ble_eq_true rfl) dX6_copy_100 (fun H locs hP hD hS => ?_)
                obtain ⟨rfl, rfl, rfl⟩ := some_p3 hf
                rw [hQ]; exact Ct.iret hx hb hr hlocks hAe hP hD hS dX6_copy_103
          · have hf := if_f hf hc
            refine lv_aload_n hx hb dX6_copy_67 rfl (lv_at hl 2 rfl) ?_
            refine lv_ldc hx hb hown w7 dX6_copy_68 ?_
            obtain ⟨x121, fd122, hg, hf⟩ := o2_s hf
            refine Ct.callV0 (ws' := wV g v0 u0 u1 u2 u3 k0 k1 k2 k3 h0 h1 h2 h3 s0 s1 s2 s3 c0 c1 c2 p0 r0 t0 t1 t2 t3 z0 f0 ea R N B S C P Q K X fd122 tl ik) (As := [.int (-1000003 : Int32)]) (rest := []) (st1 := [.int x121]) (c_X6_finding l g v0 u0 u1 u2 u3 k0 k1 k2 k3 h0 h1 h2 h3 s0 s1 s2 s3 c0 c1 c2 p0 r0 t0 t1 t2 t3 z0 f0 ea R N B S C P Q K X fd tl ik (-1000003 : Int32) hg) (cwV 1 hts gX6_copy_X6_finding rfl rfl rfl q_X6_finding ⟨Nat.le_of_ble_eq_true rfl, Nat.le_of_ble_eq_true rfl⟩) ⟨hx, hb, hml, hown, hts⟩ hE hP hD hS hA 6 0 rfl rfl rfl rfl hl.1 rfl rfl (Nat.le_of_ble_eq_true rfl) dX6_copy_70 (fun H locs hP hD hS => ?_)
            obtain ⟨rfl, rfl, rfl⟩ := some_p3 hf
            rw [hQ]; exact Ct.iret hx hb hr hlocks hAe hP hD hS dX6_copy_73
        · have hf := if_f hf hc
          refine lv_aload_n hx hb dX6_copy_47 rfl (lv_at hl 2 rfl) ?_
          refine lv_ldc hx hb hown w2 dX6_copy_48 ?_
          obtain ⟨x123, fd124, hg, hf⟩ := o2_s hf
          refine Ct.callV0 (ws' := wV g v0 u0 u1 u2 u3 k0 k1 k2 k3 h0 h1 h2 h3 s0 s1 s2 s3 c0 c1 c2 p0 r0 t0 t1 t2 t3 z0 f0 ea R N B S C P Q K X fd124 tl ik) (As := [.int (-1000006 : Int32)]) (rest := []) (st1 := [.int x123]) (c_X6_finding l g v0 u0 u1 u2 u3 k0 k1 k2 k3 h0 h1 h2 h3 s0 s1 s2 s3 c0 c1 c2 p0 r0 t0 t1 t2 t3 z0 f0 ea R N B S C P Q K X fd tl ik (-1000006 : Int32) hg) (cwV 1 hts gX6_copy_X6_finding rfl rfl rfl q_X6_finding ⟨Nat.le_of_ble_eq_true rfl, Nat.le_of_ble_eq_true rfl⟩) ⟨hx, hb, hml, hown, hts⟩ hE hP hD hS hA 6 0 rfl rfl rfl rfl hl.1 rfl rfl (Nat.le_of_ble_eq_true rfl) dX6_copy_50 (fun H locs hP hD hS => ?_)
          obtain ⟨rfl, rfl, rfl⟩ := some_p3 hf
          rw [hQ]; exact Ct.iret hx hb hr hlocks hAe hP hD hS dX6_copy_53
    · refine Ct.callV0 (ws' := wV g v0 u0 u1 u2 u3 k0 k1 k2 k3 h0 h1 h2 h3 s0 s1 s2 s3 c0 c1 c2 p0 r0 t0 t1 t2 t3 z0 f0 ea R N B S C P Q K X fd tl ik) (As := [.int a3]) (rest := []) (st1 := [.ref (ea 3)]) (c_X6_sheetAt l g v0 u0 u1 u2 u3 k0 k1 k2 k3 h0 h1 h2 h3 s0 s1 s2 s3 c0 c1 c2 p0 r0 t0 t1 t2 t3 z0 f0 ea R N B S C P Q K X fd tl ik 3 (by decide) a3 hs) (cwV 1 hts gX6_copy_X6_sheetAt rfl rfl rfl q_X6_sheetAt ⟨Nat.le_of_ble_eq_true rfl, Nat.le_of_ble_eq_true rfl⟩) ⟨hx, hb, hml, hown, hts⟩ hE hP hD hS hA 6 0 rfl rfl rfl rfl hl.1 rfl rfl (Nat.le_of_ble_eq_true rfl) dX6_copy_9 (fun H locs hP hD hS => ?_)
      refine lv_astore (lv' := [(7, .ref (ea 3)), (6, .ref (ea 3)), (0, .ref v0), (1, .int a1), (2, .int a2), (3, .int a3), (4, .int a4), (5, .int a5)]) hx hb dX6_copy_12 hl (by decide) rfl (fun ls hl => ?_)
      refine lv_aload hx hb dX6_copy_14 (lv_at hl 1 rfl) ?_
      refine lv_ifnull hx hb dX6_copy_16 ?_
      refine lv_aload hx hb dX6_copy_19 (lv_at hl 0 rfl) ?_
      refine lv_ifnonnull (tgt := 31) hx hb dX6_copy_21 (by decide) ?_
      refine lv_aload hx hb dX6_copy_31 (lv_at hl 1 rfl) ?_
      obtain ⟨x110, hg, hf⟩ := o1_s hf
      refine Ct.callV (ws' := wV g v0 u0 u1 u2 u3 k0 k1 k2 k3 h0 h1 h2 h3 s0 s1 s2 s3 c0 c1 c2 p0 r0 t0 t1 t2 t3 z0 f0 ea R N B S C P Q K X fd tl ik) (As := []) (rest := []) (st1 := [.int x110]) (c_X2_isMissing l g (ea 3) (ea 7) (X 3) hg) (cwV 0 hts gX6_copy_X2_isMissing rfl rfl rfl q_X2_isMissing ⟨Nat.le_of_ble_eq_true rfl, Nat.le_of_ble_eq_true rfl⟩) ⟨hx, hb, hml, hown, hts⟩ hE hP hD hS hA [33, 34] rfl rfl rfl rfl 2 33 rfl rfl rfl rfl hl.1 rfl rfl (Nat.le_of_ble_eq_true rfl) dX6_copy_33 (fun H locs hP hD hS => ?_)
      refine lv_if_ne (tgt := 47) hx hb dX6_copy_36 (by decide) (fun hc => ?_) (fun hc => ?_)
      · have hf := if_f hf hc
        refine lv_aload_n hx hb dX6_copy_47 rfl (lv_at hl 2 rfl) ?_
        refine lv_ldc hx hb hown w2 dX6_copy_48 ?_
        obtain ⟨x111, fd112, hg, hf⟩ := o2_s hf
        refine Ct.callV0 (ws' := wV g v0 u0 u1 u2 u3 k0 k1 k2 k3 h0 h1 h2 h3 s0 s1 s2 s3 c0 c1 c2 p0 r0 t0 t1 t2 t3 z0 f0 ea R N B S C P Q K X fd112 tl ik) (As := [.int (-1000006 : Int32)]) (rest := []) (st1 := [.int x111]) (c_X6_finding l g v0 u0 u1 u2 u3 k0 k1 k2 k3 h0 h1 h2 h3 s0 s1 s2 s3 c0 c1 c2 p0 r0 t0 t1 t2 t3 z0 f0 ea R N B S C P Q K X fd tl ik (-1000006 : Int32) hg) (cwV 1 hts gX6_copy_X6_finding rfl rfl rfl q_X6_finding ⟨Nat.le_of_ble_eq_true rfl, Nat.le_of_ble_eq_true rfl⟩) ⟨hx, hb, hml, hown, hts⟩ hE hP hD hS hA 6 0 rfl rfl rfl rfl hl.1 rfl rfl (Nat.le_of_ble_eq_true rfl) dX6_copy_50 (fun H locs hP hD hS => ?_)
        obtain ⟨rfl, rfl, rfl⟩ := some_p3 hf
        rw [hQ]; exact Ct.iret hx hb hr hlocks hAe hP hD hS dX6_copy_53
      · have hf := if_t hf hc
        refine lv_aload hx hb dX6_copy_39 (lv_at hl 0 rfl) ?_
        obtain ⟨x113, hg, hf⟩ := o1_s hf
        refine Ct.callV (ws' := wV g v0 u0 u1 u2 u3 k0 k1 k2 k3 h0 h1 h2 h3 s0 s1 s2 s3 c0 c1 c2 p0 r0 t0 t1 t2 t3 z0 f0 ea R N B S C P Q K X fd tl ik) (As := []) (rest := []) (st1 := [.int x113]) (c_X2_isMissing l g (ea 3) (ea 7) (X 3) hg) (cwV 0 hts gX6_copy_X2_isMissing rfl rfl rfl q_X2_isMissing ⟨Nat.le_of_ble_eq_true rfl, Nat.le_of_ble_eq_true rfl⟩) ⟨hx, hb, hml, hown, hts⟩ hE hP hD hS hA [33, 34] rfl rfl rfl rfl 2 33 rfl rfl rfl rfl hl.1 rfl rfl (Nat.le_of_ble_eq_true rfl) dX6_copy_41 (fun H locs hP hD hS => ?_)
        refine lv_if_eq (tgt := 54) hx hb dX6_copy_44 (by decide) (fun hc => ?_) (fun hc => ?_)
        · have hf := if_t hf hc
          refine lv_aload hx hb dX6_copy_54 (lv_at hl 1 rfl) ?_
          refine va_getN (D := g.1) (ci := 2) (v := .int ((X 3).2.1)) (C := RX2) (T := TX2) (N := 3) hx hb hts i_X6_copy_X2 hown hE.1 hP 33 rfl rfl 1 (by decide) (va_Nw.use rfl (hE.2.1 _ (List.mem_of_getElem? (i := 19) rfl))) (fun _ h9 => h9) rfl dX6_copy_56 ?_
          refine lv_aload hx hb dX6_copy_59 (lv_at hl 0 rfl) ?_
          refine va_getN (D := g.1) (ci := 2) (v := .int ((X 3).2.1)) (C := RX2) (T := TX2) (N := 3) hx hb hts i_X6_copy_X2 hown hE.1 hP 33 rfl rfl 1 (by decide) (va_Nw.use rfl (hE.2.1 _ (List.mem_of_getElem? (i := 19) rfl))) (fun _ h9 => h9) rfl dX6_copy_61 ?_
          refine lv_icmp_eq (tgt := 74) hx hb dX6_copy_64 (by decide) (fun hc => ?_) (fun hc => ?_)
          · have hf := if_t hf hc
            refine lv_aload hx hb dX6_copy_74 (lv_at hl 1 rfl) ?_
            refine lv_iload_n hx hb dX6_copy_76 rfl (lv_at hl 4 rfl) ?_
            refine lv_iload hx hb dX6_copy_77 (lv_at hl 7 rfl) ?_
            obtain ⟨x114, hg, hf⟩ := o1_s hf
            refine Ct.callV (ws' := wV g v0 u0 u1 u2 u3 k0 k1 k2 k3 h0 h1 h2 h3 s0 s1 s2 s3 c0 c1 c2 p0 r0 t0 t1 t2 t3 z0 f0 ea R N B S C P Q K X fd tl ik) (As := [.int a2, .int a5]) (rest := []) (st1 := [.int x114]) (c_X2_hasRange l g (ea 3) (ea 7) (X 3) a2 a5 hg) (cwV 2 hts gX6_copy_X2_hasRange rfl rfl rfl q_X2_hasRange ⟨Nat.le_of_ble_eq_true rfl, Nat.le_of_ble_eq_true rfl⟩) ⟨hx, hb, hml, hown, hts⟩ hE hP hD hS hA [33, 34] rfl rfl rfl rfl 2 33 rfl rfl rfl rfl hl.1 rfl rfl (Nat.le_of_ble_eq_true rfl) dX6_copy_79 (fun H locs hP hD hS => ?_)
            refine lv_if_eq (tgt := 97) hx hb dX6_copy_82 (by decide) (fun hc => ?_) (fun hc => ?_)
            · have hf := if_t hf hc
              refine lv_aload_n hx hb dX6_copy_97 rfl (lv_at hl 2 rfl) ?_
              refine lv_ldc hx hb hown w1 dX6_copy_98 ?_
              obtain ⟨x115, fd116, hg, hf⟩ := o2_s hf
              refine Ct.callV0 (ws' := wV g v0 u0 u1 u2 u3 k0 k1 k2 k3 h0 h1 h2 h3 s0 s1 s2 s3 c0 c1 c2 p0 r0 t0 t1 t2 t3 z0 f0 ea R N B S C P Q K X fd116 tl ik) (As := [.int (-1000001 : Int32)]) (rest := []) (st1 := [.int x115]) (c_X6_finding l g v0 u0 u1 u2 u3 k0 k1 k2 k3 h0 h1 h2 h3 s0 s1 s2 s3 c0 c1 c2 p0 r0 t0 t1 t2 t3 z0 f0 ea R N B S C P Q K X fd tl ik (-1000001 : Int32) hg) (cwV 1 hts gX6_copy_X6_finding rfl rfl rfl q_X6_finding ⟨Nat.le_of_ble_eq_true rfl, Nat.le_of_ble_eq_true rfl⟩) ⟨hx, hb, hml, hown, hts⟩ hE hP hD hS hA 6 0 rfl rfl rfl rfl hl.1 rfl rfl (Nat.le_of_ble_eq_true rfl) dX6_copy_100 (fun H locs hP hD hS => ?_)
              obtain ⟨rfl, rfl, rfl⟩ := some_p3 hf
              rw [hQ]; exact Ct.iret hx hb hr hlocks hAe hP hD hS dX6_copy_103
            · have hf := if_f hf hc
              refine lv_aload hx hb dX6_copy_85 (lv_at hl 0 rfl) ?_
              refine lv_iload hx hb dX6_copy_87 (lv_at hl 6 rfl) ?_
              refine lv_iload hx hb dX6_copy_89 (lv_at hl 7 rfl) ?_
              obtain ⟨x117, hg, hf⟩ := o1_s hf
              refine Ct.callV (ws' := wV g v0 u0 u1 u2 u3 k0 k1 k2 k3 h0 h1 h2 h3 s0 s1 s2 s3 c0 c1 c2 p0 r0 t0 t1 t2 t3 z0 f0 ea R N B S C P Q K X fd tl ik) (As := [.int a4, .int a5]) (rest := []) (st1 := [.int x117]) (c_X2_hasRange l g (ea 3) (ea 7) (X 3) a4 a5 hg) (cwV 2 hts gX6_copy_X2_hasRange rfl rfl rfl q_X2_hasRange ⟨Nat.le_of_ble_eq_true rfl, Nat.le_of_ble_eq_true rfl⟩) ⟨hx, hb, hml, hown, hts⟩ hE hP hD hS hA [33, 34] rfl rfl rfl rfl 2 33 rfl rfl rfl rfl hl.1 rfl rfl (Nat.le_of_ble_eq_true rfl) dX6_copy_91 (fun H locs hP hD hS => ?_)
              refine lv_if_ne (tgt := 104) hx hb dX6_copy_94 (by decide) (fun hc => ?_) (fun hc => ?_)
              · have hf := if_f hf hc
                refine lv_aload hx hb dX6_copy_104 (lv_at hl 1 rfl) ?_
                refine va_getN (D := g.1) (ci := 2) (v := .ref (ea 7)) (C := RX2) (T := TX2) (N := 3) hx hb hts i_X6_copy_X2 hown hE.1 hP 33 rfl rfl 0 (by decide) (va_Nw.use rfl (hE.2.1 _ (List.mem_of_getElem? (i := 18) rfl))) (fun _ h9 => h9) rfl dX6_copy_106 ?_
                refine lv_iload_n hx hb dX6_copy_109 rfl (lv_at hl 4 rfl) ?_
                refine lv_aload hx hb dX6_copy_110 (lv_at hl 0 rfl) ?_
                refine va_getN (D := g.1) (ci := 2) (v := .ref (ea 7)) (C := RX2) (T := TX2) (N := 3) hx hb hts i_X6_copy_X2 hown hE.1 hP 33 rfl rfl 0 (by decide) (va_Nw.use rfl (hE.2.1 _ (List.mem_of_getElem? (i := 18) rfl))) (fun _ h9 => h9) rfl dX6_copy_112 ?_
                refine lv_iload hx hb dX6_copy_115 (lv_at hl 6 rfl) ?_
                refine lv_iload hx hb dX6_copy_117 (lv_at hl 7 rfl) ?_
                obtain ⟨f118, ef, hcp, hf⟩ := cp_s hf
                refine st_copy (ws' := wV g v0 u0 u1 u2 u3 k0 k1 k2 k3 h0 h1 h2 h3 s0 s1 s2 s3 c0 c1 c2 p0 r0 t0 t1 t2 t3 z0 f0 ea R N B S C P Q K (upS X 3 (f118, (X 3).2.1, (X 3).2.2)) fd tl ik) (f := ((X 3).1)) (g := ((X 3).1)) (f2 := f118) hx hb (hml.trans hl.1.symm) hown w3 w4 w5 w6 hE.1 hP hD hS 34 34 0 rfl rfl rfl ef hcp rfl (Nat.le_of_ble_eq_true rfl) (Nat.le_of_ble_eq_true rfl) dX6_copy_119 (fun H locs hP hD hS => ?_)
                refine lv_iload hx hb dX6_copy_122 (lv_at hl 7 rfl) ?_
                obtain ⟨rfl, rfl, rfl⟩ := some_p3 hf
                rw [hQ]; exact Ct.iret hx hb hr hlocks hAe hP hD hS dX6_copy_124
              · have hf := if_t hf hc
                refine lv_aload_n hx hb dX6_copy_97 rfl (lv_at hl 2 rfl) ?_
                refine lv_ldc hx hb hown w1 dX6_copy_98 ?_
                obtain ⟨x119, fd120, hg, hf⟩ := o2_s hf
                refine Ct.callV0 (ws' := wV g v0 u0 u1 u2 u3 k0 k1 k2 k3 h0 h1 h2 h3 s0 s1 s2 s3 c0 c1 c2 p0 r0 t0 t1 t2 t3 z0 f0 ea R N B S C P Q K X fd120 tl ik) (As := [.int (-1000001 : Int32)]) (rest := []) (st1 := [.int x119]) (c_X6_finding l g v0 u0 u1 u2 u3 k0 k1 k2 k3 h0 h1 h2 h3 s0 s1 s2 s3 c0 c1 c2 p0 r0 t0 t1 t2 t3 z0 f0 ea R N B S C P Q K X fd tl ik (-1000001 : Int32) hg) (cwV 1 hts gX6_copy_X6_finding rfl rfl rfl q_X6_finding ⟨Nat.le_of_ble_eq_true rfl, Nat.le_of_ble_eq_true rfl⟩) ⟨hx, hb, hml, hown, hts⟩ hE hP hD hS hA 6 0 rfl rfl rfl rfl hl.1 rfl rfl (Nat.le_of_ble_eq_true rfl) dX6_copy_100 (fun H locs hP hD hS => ?_)
                obtain ⟨rfl, rfl, rfl⟩ := some_p3 hf
                rw [hQ]; exact Ct.iret hx hb hr hlocks hAe hP hD hS dX6_copy_103
          · have hf := if_f hf hc
            refine lv_aload_n hx hb dX6_copy_67 rfl (lv_at hl 2 rfl) ?_
            refine lv_ldc hx hb hown w7 dX6_copy_68 ?_
            obtain ⟨x121, fd122, hg, hf⟩ := o2_s hf
            refine Ct.callV0 (ws' := wV g v0 u0 u1 u2 u3 k0 k1 k2 k3 h0 h1 h2 h3 s0 s1 s2 s3 c0 c1 c2 p0 r0 t0 t1 t2 t3 z0 f0 ea R N B S C P Q K X fd122 tl ik) (As := [.int (-1000003 : Int32)]) (rest := []) (st1 := [.int x121]) (c_X6_finding l g v0 u0 u1 u2 u3 k0 k1 k2 k3 h0 h1 h2 h3 s0 s1 s2 s3 c0 c1 c2 p0 r0 t0 t1 t2 t3 z0 f0 ea R N B S C P Q K X fd tl ik (-1000003 : Int32) hg) (cwV 1 hts gX6_copy_X6_finding rfl rfl rfl q_X6_finding ⟨Nat.le_of_ble_eq_true rfl, Nat.le_of_ble_eq_true rfl⟩) ⟨hx, hb, hml, hown, hts⟩ hE hP hD hS hA 6 0 rfl rfl rfl rfl hl.1 rfl rfl (Nat.le_of_ble_eq_true rfl) dX6_copy_70 (fun H locs hP hD hS => ?_)
            obtain ⟨rfl, rfl, rfl⟩ := some_p3 hf
            rw [hQ]; exact Ct.iret hx hb hr hlocks hAe hP hD hS dX6_copy_73
        · have hf := if_f hf hc
          refine lv_aload_n hx hb dX6_copy_47 rfl (lv_at hl 2 rfl) ?_
          refine lv_ldc hx hb hown w2 dX6_copy_48 ?_
          obtain ⟨x123, fd124, hg, hf⟩ := o2_s hf
          refine Ct.callV0 (ws' := wV g v0 u0 u1 u2 u3 k0 k1 k2 k3 h0 h1 h2 h3 s0 s1 s2 s3 c0 c1 c2 p0 r0 t0 t1 t2 t3 z0 f0 ea R N B S C P Q K X fd124 tl ik) (As := [.int (-1000006 : Int32)]) (rest := []) (st1 := [.int x123]) (c_X6_finding l g v0 u0 u1 u2 u3 k0 k1 k2 k3 h0 h1 h2 h3 s0 s1 s2 s3 c0 c1 c2 p0 r0 t0 t1 t2 t3 z0 f0 ea R N B S C P Q K X fd tl ik (-1000006 : Int32) hg) (cwV 1 hts gX6_copy_X6_finding rfl rfl rfl q_X6_finding ⟨Nat.le_of_ble_eq_true rfl, Nat.le_of_ble_eq_true rfl⟩) ⟨hx, hb, hml, hown, hts⟩ hE hP hD hS hA 6 0 rfl rfl rfl rfl hl.1 rfl rfl (Nat.le_of_ble_eq_true rfl) dX6_copy_50 (fun H locs hP hD hS => ?_)
          obtain ⟨rfl, rfl, rfl⟩ := some_p3 hf
          rw [hQ]; exact Ct.iret hx hb hr hlocks hAe hP hD hS dX6_copy_53
