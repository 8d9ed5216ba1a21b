def fX6_tear (ik : Int32) : Option (Int32 × Int32) := if ik = 0 then (some ((0 : Int32), (0 : Int32))) else (some ((1 : Int32), (0 : Int32)))
theorem q_X6_tear : yX6_tear.cls = RX6 ∧ yX6_tear.cls ≠ "java/lang/invoke/MethodHandle" ∧ yX6_tear.cls ≠ "java/lang/invoke/VarHandle" ∧ (parseMethodDescriptor yX6_tear.desc).map (fun d => d.parameters.length) = some 0 := by decide +kernel
theorem i_X6_tear_X6 : ∀ w ∈ u_ws RX6 TX6 11, w ∈ wsX6_tear := fun _ h => List.mem_cons_of_mem _ (List.mem_append_right _ (h))
set_option maxHeartbeats 4000000 in
set_option maxRecDepth 100000 in
theorem c_X6_tear (l : Launch) (g : gG) (v0 u0 u1 u2 u3 k0 k1 k2 k3 h0 h1 h2 h3 s0 s1 s2 s3 c0 c1 c2 p0 r0 t0 t1 t2 t3 z0 f0 : Nat) (ea : Nat → Nat) (R : Rf) (N : Rf) (B : Rf) (S : Sv) (C : Ca) (P : Nat → Int32) (Q : Tr) (K : Tk) (X : F4) (fd : Nat → Int32) (tl : Int32) (ik : Int32) {r : Int32} {ik' : Int32} (hf : fX6_tear ik = some (r, ik')) : Ct l yX6_tear wsX6_tear (rmm 0 0) g (wV g v0 u0 u1 u2 u3 k0 k1 k2 k3 h0 h1 h2 h3 s0 s1 s2 s3 c0 c1 c2 p0 r0 t0 t1 t2 t3 z0 f0 ea R N B S C P Q K X fd tl ik) (wV g v0 u0 u1 u2 u3 k0 k1 k2 k3 h0 h1 h2 h3 s0 s1 s2 s3 c0 c1 c2 p0 r0 t0 t1 t2 t3 z0 f0 ea R N B S C P Q K X fd tl (ik')) [.ref v0] (some (.int r)) := by
  refine Ct.mk (by decide) rfl (Nat.le_of_ble_eq_true rfl) ?_
  intro p e s m args below meth c A ls hx hb hr hml hts hown hlocks hA hE hP hD hS hl hAe
  obtain ⟨Qx, hQ⟩ : ∃ Qx : State → Prop, Qx = MQ below (QcG g (wV g v0 u0 u1 u2 u3 k0 k1 k2 k3 h0 h1 h2 h3 s0 s1 s2 s3 c0 c1 c2 p0 r0 t0 t1 t2 t3 z0 f0 ea R N B S C P Q K X fd tl ik) (wV g v0 u0 u1 u2 u3 k0 k1 k2 k3 h0 h1 h2 h3 s0 s1 s2 s3 c0 c1 c2 p0 r0 t0 t1 t2 t3 z0 f0 ea R N B S C P Q K X fd tl (ik')) (some (.int r)) s.heap.size) args s 0 0 A := ⟨_, rfl⟩
  rw [← hQ]
  have hown : s.vm.findClass RX6 = some m.cls := hown
  have hl : lv_has ls 2 [(0, .ref v0)] := hl
  have w1 := hts (.fieldLink RX6 65 "RainVault" "isKept" "Z") (List.mem_of_getElem? (i := 1) rfl)
  unfold fX6_tear at hf
  refine lv_aload_n hx hb dX6_tear_0 rfl (lv_at hl 0 rfl) ?_
  refine va_get (D := g.1) (ci := 6) (v := .int ik) (C := RX6) (T := TX6) (N := 11) hx hb hts i_X6_tear_X6 hown hE.1 hP 0 rfl rfl 10 (by decide) w1 (fun _ h9 => h9) rfl dX6_tear_1 ?_
  refine lv_if_eq (tgt := 11) hx hb dX6_tear_4 (by decide) (fun hc => ?_) (fun hc => ?_)
  · have hf := if_t hf hc
    refine lv_iconst (v := (0 : Int32)) hx hb dX6_tear_11 (by decide) ?_
    refine lv_istore_n (lv' := [(1, .int (0 : Int32)), (0, .ref v0)]) hx hb dX6_tear_12 rfl hl (by decide) rfl (fun ls hl => ?_)
    refine lv_aload_n hx hb dX6_tear_13 rfl (lv_at hl 1 rfl) ?_
    refine lv_iconst (v := (0 : Int32)) hx hb dX6_tear_14 (by decide) ?_
    refine va_put (D := g.1) (ci := 6) (v := .int (0 : Int32)) (ty := .boolean) (C := RX6) (T := TX6) (N := 11) hx hb hts i_X6_tear_X6 tyX6 tyX6_ok nmX6 hown hE.1 hP hD hS 0 rfl rfl 10 (by decide) w1 (fun _ h9 => h9) rfl (by decide +kernel) rfl rfl (Nat.le_of_ble_eq_true rfl) dX6_tear_15 (fun H locs hP hD hS => ?_)
    have hP : va_P g.1 vwK (wV g v0 u0 u1 u2 u3 k0 k1 k2 k3 h0 h1 h2 h3 s0 s1 s2 s3 c0 c1 c2 p0 r0 t0 t1 t2 t3 z0 f0 ea R N B S C P Q K X fd tl (0 : Int32)) H := hP
    have hD : va_D A (wV g v0 u0 u1 u2 u3 k0 k1 k2 k3 h0 h1 h2 h3 s0 s1 s2 s3 c0 c1 c2 p0 r0 t0 t1 t2 t3 z0 f0 ea R N B S C P Q K X fd tl (0 : Int32)) := hD
    refine lv_iload_n hx hb dX6_tear_18 rfl (lv_at hl 0 rfl) ?_
    obtain ⟨rfl, rfl⟩ := some_p2 hf
    rw [hQ]; exact Ct.iret hx hb hr hlocks hAe hP hD hS dX6_tear_19
  · have hf := if_f hf hc
    refine lv_iconst (v := (1 : Int32)) hx hb dX6_tear_7 (by decide) ?_
    refine lv_goto (tgt := 12) hx hb dX6_tear_8 (by decide) ?_
    refine lv_istore_n (lv' := [(1, .int (1 : Int32)), (0, .ref v0)]) hx hb dX6_tear_12 rfl hl (by decide) rfl (fun ls hl => ?_)
    refine lv_aload_n hx hb dX6_tear_13 rfl (lv_at hl 1 rfl) ?_
    refine lv_iconst (v := (0 : Int32)) hx hb dX6_tear_14 (by decide) ?_
    refine va_put (D := g.1) (ci := 6) (v := .int (0 : Int32)) (ty := .boolean) (C := RX6) (T := TX6) (N := 11) hx hb hts i_X6_tear_X6 tyX6 tyX6_ok nmX6 hown hE.1 hP hD hS 0 rfl rfl 10 (by decide) w1 (fun _ h9 => h9) rfl (by decide +kernel) rfl rfl (Nat.le_of_ble_eq_true rfl) dX6_tear_15 (fun H locs hP hD hS => ?_)
    have hP : va_P g.1 vwK (wV g v0 u0 u1 u2 u3 k0 k1 k2 k3 h0 h1 h2 h3 s0 s1 s2 s3 c0 c1 c2 p0 r0 t0 t1 t2 t3 z0 f0 ea R N B S C P Q K X fd tl (0 : Int32)) H := hP
    have hD : va_D A (wV g v0 u0 u1 u2 u3 k0 k1 k2 k3 h0 h1 h2 h3 s0 s1 s2 s3 c0 c1 c2 p0 r0 t0 t1 t2 t3 z0 f0 ea R N B S C P Q K X fd tl (0 : Int32)) := hD
    refine lv_iload_n hx hb dX6_tear_18 rfl (lv_at hl 0 rfl) ?_
    obtain ⟨rfl, rfl⟩ := some_p2 hf
    rw [hQ]; exact Ct.iret hx hb hr hlocks hAe hP hD hS dX6_tear_19
def fX6_count (R : Rf) (fd : Nat → Int32) (tl : Int32) (a1 : Int32) : Option (Int32 × (Nat → Int32)) := if a1 = (0 : Int32) then (some (R.2.2.2.2.2.2.1, fd)) else (if a1 = (1 : Int32) then (some (R.2.2.2.1, fd)) else (if a1 = (2 : Int32) then (some (R.2.2.2.2.1, fd)) else (if a1 = (3 : Int32) then (o1 (fX1_levelsTogether R) (fun x101 => some (x101, fd))) else (if a1 = (4 : Int32) then (some (R.2.2.2.2.2.2.2.1, fd)) else (if a1 = (5 : Int32) then (some (tl, fd)) else (if a1 = (6 : Int32) then (some (R.2.2.2.2.2.2.2.2, fd)) else (if a1 = (7 : Int32) then (o1 (fX1_spotsInUse R) (fun x102 => some (x102, fd))) else (o2 (fX6_finding fd (-1000001 : Int32)) (fun x103 fd104 => some (x103, fd104))))))))))
theorem q_X6_count : yX6_count.cls = RX6 ∧ yX6_count.cls ≠ "java/lang/invoke/MethodHandle" ∧ yX6_count.cls ≠ "java/lang/invoke/VarHandle" ∧ (parseMethodDescriptor yX6_count.desc).map (fun d => d.parameters.length) = some 1 := by decide +kernel
theorem i_X6_count_X6 : ∀ w ∈ u_ws RX6 TX6 11, w ∈ wsX6_count := fun _ h => List.mem_cons_of_mem _ (List.mem_append_left _ (List.mem_append_right _ (h)))
theorem i_X6_count_X1 : ∀ w ∈ u_ws RX1 TX1 9, w ∈ wsX6_count := fun _ h => List.mem_cons_of_mem _ (List.mem_append_right _ (h))
set_option maxHeartbeats 4000000 in
set_option maxRecDepth 100000 in
theorem c_X6_count (l : Launch) (g : gG) (v0 u0 u1 u2 u3 k0 k1 k2 k3 h0 h1 h2 h3 s0 s1 s2 s3 c0 c1 c2 p0 r0 t0 t1 t2 t3 z0 f0 : Nat) (ea : Nat → Nat) (R : Rf) (N : Rf) (B : Rf) (S : Sv) (C : Ca) (P : Nat → Int32) (Q : Tr) (K : Tk) (X : F4) (fd : Nat → Int32) (tl : Int32) (ik : Int32) (a1 : Int32) {r : Int32} {fd' : Nat → Int32} (hf : fX6_count R fd tl a1 = some (r, fd')) : Ct l yX6_count wsX6_count (rmm 2 45) g (wV g v0 u0 u1 u2 u3 k0 k1 k2 k3 h0 h1 h2 h3 s0 s1 s2 s3 c0 c1 c2 p0 r0 t0 t1 t2 t3 z0 f0 ea R N B S C P Q K X fd tl ik) (wV g v0 u0 u1 u2 u3 k0 k1 k2 k3 h0 h1 h2 h3 s0 s1 s2 s3 c0 c1 c2 p0 r0 t0 t1 t2 t3 z0 f0 ea R N B S C P Q K X (fd') tl ik) [.ref v0, .int a1] (some (.int r)) := by
  refine Ct.mk (by decide) rfl (Nat.le_of_ble_eq_true rfl) ?_
  intro p e s m args below meth c A ls hx hb hr hml hts hown hlocks hA hE hP hD hS hl hAe
  obtain ⟨Qx, hQ⟩ : ∃ Qx : State → Prop, Qx = MQ below (QcG g (wV g v0 u0 u1 u2 u3 k0 k1 k2 k3 h0 h1 h2 h3 s0 s1 s2 s3 c0 c1 c2 p0 r0 t0 t1 t2 t3 z0 f0 ea R N B S C P Q K X fd tl ik) (wV g v0 u0 u1 u2 u3 k0 k1 k2 k3 h0 h1 h2 h3 s0 s1 s2 s3 c0 c1 c2 p0 r0 t0 t1 t2 t3 z0 f0 ea R N B S C P Q K X (fd') tl ik) (some (.int r)) s.heap.size) args s 0 0 A := ⟨_, rfl⟩
  rw [← hQ]
  have hown : s.vm.findClass RX6 = some m.cls := hown
  have hl : lv_has ls 2 [(0, .ref v0), (1, .int a1)] := hl
  have w1 := hts (.fieldLink RX6 10 "RainVault" "roof" "LRainVault$Roof;") (List.mem_of_getElem? (i := 1) rfl)
  have w2 := hts (.fieldLink RX6 61 "RainVault" "tapeLength" "I") (List.mem_of_getElem? (i := 2) rfl)
  have w3 := hts (.constant RX6 73 (-1000001)) (List.mem_of_getElem? (i := 3) rfl)
  unfold fX6_count at hf
  refine lv_iload_n hx hb dX6_count_0 rfl (lv_at hl 1 rfl) ?_
  by_cases hc0 : a1 = (0 : Int32)
  · have hf := if_t hf hc0
    refine lv_tableIn (off := 47) (tgt := 48) hx hb dX6_count_1 (ts_in _ hc0 (by decide)) (ts_hi _ hc0 (by decide)) (ts_of _ hc0 (by decide)) (by decide) ?_
    refine lv_aload_n hx hb dX6_count_48 rfl (lv_at hl 0 rfl) ?_
    refine va_get (D := g.1) (ci := 6) (v := .ref u0) (C := RX6) (T := TX6) (N := 11) hx hb hts i_X6_count_X6 hown hE.1 hP 0 rfl rfl 0 (by decide) w1 (fun _ h9 => h9) rfl dX6_count_49 ?_
    refine va_getN (D := g.1) (ci := 1) (v := .int R.2.2.2.2.2.2.1) (C := RX1) (T := TX1) (N := 9) hx hb hts i_X6_count_X1 hown hE.1 hP 1 rfl rfl 6 (by decide) (va_Nw.use rfl (hE.2.1 _ (List.mem_of_getElem? (i := 7) rfl))) (fun _ h9 => h9) rfl dX6_count_52 ?_
    obtain ⟨rfl, rfl⟩ := some_p2 hf
    rw [hQ]; exact Ct.iret hx hb hr hlocks hAe hP hD hS dX6_count_55
  · have hf := if_f hf hc0
    by_cases hc1 : a1 = (1 : Int32)
    · have hf := if_t hf hc1
      refine lv_tableIn (off := 55) (tgt := 56) hx hb dX6_count_1 (ts_in _ hc1 (by decide)) (ts_hi _ hc1 (by decide)) (ts_of _ hc1 (by decide)) (by decide) ?_
      refine lv_aload_n hx hb dX6_count_56 rfl (lv_at hl 0 rfl) ?_
      refine va_get (D := g.1) (ci := 6) (v := .ref u0) (C := RX6) (T := TX6) (N := 11) hx hb hts i_X6_count_X6 hown hE.1 hP 0 rfl rfl 0 (by decide) w1 (fun _ h9 => h9) rfl dX6_count_57 ?_
      refine va_getN (D := g.1) (ci := 1) (v := .int R.2.2.2.1) (C := RX1) (T := TX1) (N := 9) hx hb hts i_X6_count_X1 hown hE.1 hP 1 rfl rfl 3 (by decide) (va_Nw.use rfl (hE.2.1 _ (List.mem_of_getElem? (i := 1) rfl))) (fun _ h9 => h9) rfl dX6_count_60 ?_
      obtain ⟨rfl, rfl⟩ := some_p2 hf
      rw [hQ]; exact Ct.iret hx hb hr hlocks hAe hP hD hS dX6_count_63
    · have hf := if_f hf hc1
      by_cases hc2 : a1 = (2 : Int32)
      · have hf := if_t hf hc2
        refine lv_tableIn (off := 63) (tgt := 64) hx hb dX6_count_1 (ts_in _ hc2 (by decide)) (ts_hi _ hc2 (by decide)) (ts_of _ hc2 (by decide)) (by decide) ?_
        refine lv_aload_n hx hb dX6_count_64 rfl (lv_at hl 0 rfl) ?_
        refine va_get (D := g.1) (ci := 6) (v := .ref u0) (C := RX6) (T := TX6) (N := 11) hx hb hts i_X6_count_X6 hown hE.1 hP 0 rfl rfl 0 (by decide) w1 (fun _ h9 => h9) rfl dX6_count_65 ?_
        refine va_getN (D := g.1) (ci := 1) (v := .int R.2.2.2.2.1) (C := RX1) (T := TX1) (N := 9) hx hb hts i_X6_count_X1 hown hE.1 hP 1 rfl rfl 4 (by decide) (va_Nw.use rfl (hE.2.1 _ (List.mem_of_getElem? (i := 4) rfl))) (fun _ h9 => h9) rfl dX6_count_68 ?_
        obtain ⟨rfl, rfl⟩ := some_p2 hf
        rw [hQ]; exact Ct.iret hx hb hr hlocks hAe hP hD hS dX6_count_71
      · have hf := if_f hf hc2
        by_cases hc3 : a1 = (3 : Int32)
        · have hf := if_t hf hc3
          refine lv_tableIn (off := 71) (tgt := 72) hx hb dX6_count_1 (ts_in _ hc3 (by decide)) (ts_hi _ hc3 (by decide)) (ts_of _ hc3 (by decide)) (by decide) ?_
          refine lv_aload_n hx hb dX6_count_72 rfl (lv_at hl 0 rfl) ?_
          refine va_get (D := g.1) (ci := 6) (v := .ref u0) (C := RX6) (T := TX6) (N := 11) hx hb hts i_X6_count_X6 hown hE.1 hP 0 rfl rfl 0 (by decide) w1 (fun _ h9 => h9) rfl dX6_count_73 ?_
          obtain ⟨x101, hg, hf⟩ := o1_s hf
          refine Ct.callV (ws' := wV g v0 u0 u1 u2 u3 k0 k1 k2 k3 h0 h1 h2 h3 s0 s1 s2 s3 c0 c1 c2 p0 r0 t0 t1 t2 t3 z0 f0 ea R N B S C P Q K X fd tl ik) (As := []) (rest := []) (st1 := [.int x101]) (c_X1_levelsTogether l g u0 u1 u2 u3 R hg) (cwV 0 hts gX6_count_X1_levelsTogether rfl rfl rfl q_X1_levelsTogether ⟨Nat.le_of_ble_eq_true rfl, Nat.le_of_ble_eq_true rfl⟩) ⟨hx, hb, hml, hown, hts⟩ hE hP hD hS hA [1, 2, 3, 4] rfl rfl rfl rfl 1 1 rfl rfl rfl rfl hl.1 rfl rfl (Nat.le_of_ble_eq_true rfl) dX6_count_76 (fun H locs hP hD hS => ?_)
          obtain ⟨rfl, rfl⟩ := some_p2 hf
          rw [hQ]; exact Ct.iret hx hb hr hlocks hAe hP hD hS dX6_count_79
        · have hf := if_f hf hc3
          by_cases hc4 : a1 = (4 : Int32)
          · have hf := if_t hf hc4
            refine lv_tableIn (off := 79) (tgt := 80) hx hb dX6_count_1 (ts_in _ hc4 (by decide)) (ts_hi _ hc4 (by decide)) (ts_of _ hc4 (by decide)) (by decide) ?_
            refine lv_aload_n hx hb dX6_count_80 rfl (lv_at hl 0 rfl) ?_
            refine va_get (D := g.1) (ci := 6) (v := .ref u0) (C := RX6) (T := TX6) (N := 11) hx hb hts i_X6_count_X6 hown hE.1 hP 0 rfl rfl 0 (by decide) w1 (fun _ h9 => h9) rfl dX6_count_81 ?_
            refine va_getN (D := g.1) (ci := 1) (v := .int R.2.2.2.2.2.2.2.1) (C := RX1) (T := TX1) (N := 9) hx hb hts i_X6_count_X1 hown hE.1 hP 1 rfl rfl 7 (by decide) (va_Nw.use rfl (hE.2.1 _ (List.mem_of_getElem? (i := 8) rfl))) (fun _ h9 => h9) rfl dX6_count_84 ?_
            obtain ⟨rfl, rfl⟩ := some_p2 hf
            rw [hQ]; exact Ct.iret hx hb hr hlocks hAe hP hD hS dX6_count_87
          · have hf := if_f hf hc4
            by_cases hc5 : a1 = (5 : Int32)
            · have hf := if_t hf hc5
              refine lv_tableIn (off := 87) (tgt := 88) hx hb dX6_count_1 (ts_in _ hc5 (by decide)) (ts_hi _ hc5 (by decide)) (ts_of _ hc5 (by decide)) (by decide) ?_
              refine lv_aload_n hx hb dX6_count_88 rfl (lv_at hl 0 rfl) ?_
              refine va_get (D := g.1) (ci := 6) (v := .int tl) (C := RX6) (T := TX6) (N := 11) hx hb hts i_X6_count_X6 hown hE.1 hP 0 rfl rfl 9 (by decide) w2 (fun _ h9 => h9) rfl dX6_count_89 ?_
              obtain ⟨rfl, rfl⟩ := some_p2 hf
              rw [hQ]; exact Ct.iret hx hb hr hlocks hAe hP hD hS dX6_count_92
            · have hf := if_f hf hc5
              by_cases hc6 : a1 = (6 : Int32)
              · have hf := if_t hf hc6
                refine lv_tableIn (off := 92) (tgt := 93) hx hb dX6_count_1 (ts_in _ hc6 (by decide)) (ts_hi _ hc6 (by decide)) (ts_of _ hc6 (by decide)) (by decide) ?_
                refine lv_aload_n hx hb dX6_count_93 rfl (lv_at hl 0 rfl) ?_
                refine va_get (D := g.1) (ci := 6) (v := .ref u0) (C := RX6) (T := TX6) (N := 11) hx hb hts i_X6_count_X6 hown hE.1 hP 0 rfl rfl 0 (by decide) w1 (fun _ h9 => h9) rfl dX6_count_94 ?_
                refine va_getN (D := g.1) (ci := 1) (v := .int R.2.2.2.2.2.2.2.2) (C := RX1) (T := TX1) (N := 9) hx hb hts i_X6_count_X1 hown hE.1 hP 1 rfl rfl 8 (by decide) (va_Nw.use rfl (hE.2.1 _ (List.mem_of_getElem? (i := 9) rfl))) (fun _ h9 => h9) rfl dX6_count_97 ?_
                obtain ⟨rfl, rfl⟩ := some_p2 hf
                rw [hQ]; exact Ct.iret hx hb hr hlocks hAe hP hD hS dX6_count_100
              · have hf := if_f hf hc6
                by_cases hc7 : a1 = (7 : Int32)
                · have hf := if_t hf hc7
                  refine lv_tableIn (off := 100) (tgt := 101) hx hb dX6_count_1 (ts_in _ hc7 (by decide)) (ts_hi _ hc7 (by decide)) (ts_of _ hc7 (by decide)) (by decide) ?_
                  refine lv_aload_n hx hb dX6_count_101 rfl (lv_at hl 0 rfl) ?_
                  refine va_get (D := g.1) (ci := 6) (v := .ref u0) (C := RX6) (T := TX6) (N := 11) hx hb hts i_X6_count_X6 hown hE.1 hP 0 rfl rfl 0 (by decide) w1 (fun _ h9 => h9) rfl dX6_count_102 ?_
                  obtain ⟨x102, hg, hf⟩ := o1_s hf
                  refine Ct.callV (ws' := wV g v0 u0 u1 u2 u3 k0 k1 k2 k3 h0 h1 h2 h3 s0 s1 s2 s3 c0 c1 c2 p0 r0 t0 t1 t2 t3 z0 f0 ea R N B S C P Q K X fd tl ik) (As := []) (rest := []) (st1 := [.int x102]) (c_X1_spotsInUse l g u0 u1 u2 u3 R hg) (cwV 0 hts gX6_count_X1_spotsInUse rfl rfl rfl q_X1_spotsInUse ⟨Nat.le_of_ble_eq_true rfl, Nat.le_of_ble_eq_true rfl⟩) ⟨hx, hb, hml, hown, hts⟩ hE hP hD hS hA [1, 2, 3, 4] rfl rfl rfl rfl 1 1 rfl rfl rfl rfl hl.1 rfl rfl (Nat.le_of_ble_eq_true rfl) dX6_count_105 (fun H locs hP hD hS => ?_)
                  obtain ⟨rfl, rfl⟩ := some_p2 hf
                  rw [hQ]; exact Ct.iret hx hb hr hlocks hAe hP hD hS dX6_count_108
                · have hf := if_f hf hc7
                  have hn0 := lv_neT (a := 0) hc0 (by decide)
                  have hn1 := lv_neT (a := 1) hc1 (by decide)
                  have hn2 := lv_neT (a := 2) hc2 (by decide)
                  have hn3 := lv_neT (a := 3) hc3 (by decide)
                  have hn4 := lv_neT (a := 4) hc4 (by decide)
                  have hn5 := lv_neT (a := 5) hc5 (by decide)
                  have hn6 := lv_neT (a := 6) hc6 (by decide)
                  have hn7 := lv_neT (a := 7) hc7 (by decide)
                  refine lv_tableOut (tgt := 109) hx hb dX6_count_1 (by omega) (by decide) ?_
                  refine lv_aload_n hx hb dX6_count_109 rfl (lv_at hl 0 rfl) ?_
                  refine lv_ldc hx hb hown w3 dX6_count_110 ?_
                  obtain ⟨x103, fd104, hg, hf⟩ := o2_s hf
                  refine Ct.callV0 (ws' := wV g v0 u0 u1 u2 u3 k0 k1 k2 k3 h0 h1 h2 h3 s0 s1 s2 s3 c0 c1 c2 p0 r0 t0 t1 t2 t3 z0 f0 ea R N B S C P Q K X fd104 tl ik) (As := [.int (-1000001 : Int32)]) (rest := []) (st1 := [.int x103]) (c_X6_finding l g v0 u0 u1 u2 u3 k0 k1 k2 k3 h0 h1 h2 h3 s0 s1 s2 s3 c0 c1 c2 p0 r0 t0 t1 t2 t3 z0 f0 ea R N B S C P Q K X fd tl ik (-1000001 : Int32) hg) (cwV 1 hts gX6_count_X6_finding rfl rfl rfl q_X6_finding ⟨Nat.le_of_ble_eq_true rfl, Nat.le_of_ble_eq_true rfl⟩) ⟨hx, hb, hml, hown, hts⟩ hE hP hD hS hA 6 0 rfl rfl rfl rfl hl.1 rfl rfl (Nat.le_of_ble_eq_true rfl) dX6_count_112 (fun H locs hP hD hS => ?_)
                  obtain ⟨rfl, rfl⟩ := some_p2 hf
                  rw [hQ]; exact Ct.iret hx hb hr hlocks hAe hP hD hS dX6_count_115
def fX6_status_L34 (fd : Nat → Int32) (kx : Int32 → Option (Int32 × (Nat → Int32))) : Nat → Int32 → Int32 → Option (Int32 × (Nat → Int32))
  | 0, _, _ => none
  | k + 1, x2, x3 => if (7 : Int32) ≤ x3 then (kx x2) else (rd fd 7 x3 (fun x103 => fX6_status_L34 fd kx k (x2 + x103) (x3 + (1 : Int32))))
def fX6_status (fd : Nat → Int32) (a1 : Int32) : Option (Int32 × (Nat → Int32)) := o1 (fX6_isWithin a1 (-1 : Int32) (6 : Int32)) (fun x101 => if x101 = 0 then (o2 (fX6_finding fd (-1000001 : Int32)) (fun x106 fd107 => some (x106, fd107))) else (if a1 < 0 then (fX6_status_L34 fd (fun x104 => some (x104, fd)) fu (0 : Int32) (0 : Int32)) else (o1 (fX6_at 7 fd a1) (fun x105 => some (x105, fd)))))
theorem q_X6_status : yX6_status.cls = RX6 ∧ yX6_status.cls ≠ "java/lang/invoke/MethodHandle" ∧ yX6_status.cls ≠ "java/lang/invoke/VarHandle" ∧ (parseMethodDescriptor yX6_status.desc).map (fun d => d.parameters.length) = some 1 := by decide +kernel
theorem i_X6_status_X6 : ∀ w ∈ u_ws RX6 TX6 11, w ∈ wsX6_status := fun _ h => List.mem_cons_of_mem _ (List.mem_append_right _ (h))
set_option maxHeartbeats 4000000 in
set_option maxRecDepth 100000 in
theorem c_X6_status (l : Launch) (g : gG) (v0 u0 u1 u2 u3 k0 k1 k2 k3 h0 h1 h2 h3 s0 s1 s2 s3 c0 c1 c2 p0 r0 t0 t1 t2 t3 z0 f0 : Nat) (ea : Nat → Nat) (R : Rf) (N : Rf) (B : Rf) (S : Sv) (C : Ca) (P : Nat → Int32) (Q : Tr) (K : Tk) (X : F4) (fd : Nat → Int32) (tl : Int32) (ik : Int32) (a1 : Int32) {r : Int32} {fd' : Nat → Int32} (hf : fX6_status fd a1 = some (r, fd')) : Ct l yX6_status wsX6_status (rmm 2 44) g (wV g v0 u0 u1 u2 u3 k0 k1 k2 k3 h0 h1 h2 h3 s0 s1 s2 s3 c0 c1 c2 p0 r0 t0 t1 t2 t3 z0 f0 ea R N B S C P Q K X fd tl ik) (wV g v0 u0 u1 u2 u3 k0 k1 k2 k3 h0 h1 h2 h3 s0 s1 s2 s3 c0 c1 c2 p0 r0 t0 t1 t2 t3 z0 f0 ea R N B S C P Q K X (fd') tl ik) [.ref v0, .int a1] (some (.int r)) := by
  refine Ct.mk (by decide) rfl (Nat.le_of_ble_eq_true rfl) ?_
  intro p e s m args below meth c A ls hx hb hr hml hts hown hlocks hA hE hP hD hS hl hAe
  obtain ⟨Qx, hQ⟩ : ∃ Qx : State → Prop, Qx = MQ below (QcG g (wV g v0 u0 u1 u2 u3 k0 k1 k2 k3 h0 h1 h2 h3 s0 s1 s2 s3 c0 c1 c2 p0 r0 t0 t1 t2 t3 z0 f0 ea R N B S C P Q K X fd tl ik) (wV g v0 u0 u1 u2 u3 k0 k1 k2 k3 h0 h1 h2 h3 s0 s1 s2 s3 c0 c1 c2 p0 r0 t0 t1 t2 t3 z0 f0 ea R N B S C P Q K X (fd') tl ik) (some (.int r)) s.heap.size) args s 0 0 A := ⟨_, rfl⟩
  rw [← hQ]
  have hown : s.vm.findClass RX6 = some m.cls := hown
  have hl : lv_has ls 4 [(0, .ref v0), (1, .int a1)] := hl
  have w1 := hts (.fieldLink RX6 58 "RainVault" "findings" "[I") (List.mem_of_getElem? (i := 2) rfl)
  have w2 := hts (.constant RX6 73 (-1000001)) (List.mem_of_getElem? (i := 1) rfl)
  have L34 : ∀ (fd : Nat → Int32) (kx : Int32 → Option (Int32 × (Nat → Int32))) (k : Nat) (x2 : Int32) (x3 : Int32) (H : Heap) (locs : List Loc) (ls : Array Slot), fX6_status_L34 fd kx k x2 x3 = some (r, fd') → va_P g.1 vwK (wV g v0 u0 u1 u2 u3 k0 k1 k2 k3 h0 h1 h2 h3 s0 s1 s2 s3 c0 c1 c2 p0 r0 t0 t1 t2 t3 z0 f0 ea R N B S C P Q K X fd tl ik) H → va_D A (wV g v0 u0 u1 u2 u3 k0 k1 k2 k3 h0 h1 h2 h3 s0 s1 s2 s3 c0 c1 c2 p0 r0 t0 t1 t2 t3 z0 f0 ea R N B S C P Q K X fd tl ik) → va_S A s.heap H locs → lv_has ls 4 [(0, .ref v0), (2, .int x2), (3, .int x3)] → (∀ (x2 : Int32) (H : Heap) (locs : List Loc) (ls : Array Slot), kx x2 = some (r, fd') → va_P g.1 vwK (wV g v0 u0 u1 u2 u3 k0 k1 k2 k3 h0 h1 h2 h3 s0 s1 s2 s3 c0 c1 c2 p0 r0 t0 t1 t2 t3 z0 f0 ea R N B S C P Q K X fd tl ik) H → va_D A (wV g v0 u0 u1 u2 u3 k0 k1 k2 k3 h0 h1 h2 h3 s0 s1 s2 s3 c0 c1 c2 p0 r0 t0 t1 t2 t3 z0 f0 ea R N B S C P Q K X fd tl ik) → va_S A s.heap H locs → lv_has ls 4 [(2, .int x2)] → W p l e (rmm 2 44) s m args below meth c H locs 0 0 Qx (F0 m 58 ls [])) → W p l e (rmm 2 44) s m args below meth c H locs 0 0 Qx (F0 m 34 ls []) := by
    intro fd kx k
    induction k with
    | zero => intro x2 x3 H locs ls hf; exact nomatch (show (none : Option (Int32 × (Nat → Int32))) = some _ from hf)
    | succ k ih =>
      intro x2 x3 H locs ls hf hP hD hS hl hk
      rw [fX6_status_L34] at hf
      refine lv_iload_n hx hb dX6_status_34 rfl (lv_at hl 2 rfl) ?_
      refine lv_aload_n hx hb dX6_status_35 rfl (lv_at hl 0 rfl) ?_
      refine va_get (D := g.1) (ci := 6) (v := .ref f0) (C := RX6) (T := TX6) (N := 11) hx hb hts i_X6_status_X6 hown hE.1 hP 0 rfl rfl 8 (by decide) w1 (fun _ h9 => h9) rfl dX6_status_36 ?_
      refine va_alen (v := (7 : Int32)) hx hb hE.1 hP 35 0 rfl rfl (show Int32.ofNat 7 = (7 : Int32) by decide) dX6_status_39 ?_
      refine lv_icmp_ge (tgt := 58) hx hb dX6_status_40 (by decide) (fun hc => ?_) (fun hc => ?_)
      · have hf := if_t hf hc
        exact hk _ _ _ _  hf hP hD hS (lv_sub hl [1] rfl)
      · have hf := if_f hf hc
        refine lv_iload_n hx hb dX6_status_43 rfl (lv_at hl 1 rfl) ?_
        refine lv_aload_n hx hb dX6_status_44 rfl (lv_at hl 0 rfl) ?_
        refine va_get (D := g.1) (ci := 6) (v := .ref f0) (C := RX6) (T := TX6) (N := 11) hx hb hts i_X6_status_X6 hown hE.1 hP 0 rfl rfl 8 (by decide) w1 (fun _ h9 => h9) rfl dX6_status_45 ?_
        refine lv_iload_n hx hb dX6_status_48 rfl (lv_at hl 2 rfl) ?_
        obtain ⟨x103, ex, hin, hf⟩ := rd_s hf
        refine st_iald (f := fd) hx hb hE.1 hP 35 0 rfl rfl hin ex dX6_status_49 ?_
        refine lv_iadd hx hb dX6_status_50 ?_
        refine lv_istore_n (lv' := [(2, .int (x2 + x103)), (0, .ref v0), (3, .int x3)]) hx hb dX6_status_51 rfl hl (by decide) rfl (fun ls hl => ?_)
        refine lv_iinc (v := (x3 + (1 : Int32))) (lv' := [(3, .int (x3 + (1 : Int32))), (2, .int (x2 + x103)), (0, .ref v0)]) hx hb dX6_status_52 hl (k := 2) rfl rfl (by decide) rfl (fun ls hl => ?_)
        refine lv_goto (tgt := 34) hx hb dX6_status_55 (by decide) ?_
        exact ih _ _ _ _ _  hf hP hD hS (lv_sub hl [2, 1, 0] rfl) hk
  unfold fX6_status at hf
  refine lv_iload_n hx hb dX6_status_0 rfl (lv_at hl 1 rfl) ?_
  refine lv_iconst (v := (-1 : Int32)) hx hb dX6_status_1 (by decide) ?_
  refine lv_bipush (v := (6 : Int32)) hx hb dX6_status_2 (by decide) ?_
  obtain ⟨x101, hg, hf⟩ := o1_s hf
  refine Ct.callS (ws' := wV g v0 u0 u1 u2 u3 k0 k1 k2 k3 h0 h1 h2 h3 s0 s1 s2 s3 c0 c1 c2 p0 r0 t0 t1 t2 t3 z0 f0 ea R N B S C P Q K X fd tl ik) (As := [.int a1, .int (-1 : Int32), .int (6 : Int32)]) (rest := []) (st1 := [.int x101]) (c_X6_isWithin l g a1 (-1 : Int32) (6 : Int32) hg) (va_cwS 3 hts gX6_status_X6_isWithin rfl rfl rfl q_X6_isWithin.2 ⟨Nat.le_of_ble_eq_true rfl, Nat.le_of_ble_eq_true rfl⟩) ⟨hx, hb, hml, hown, hts⟩ hE hP hD hS hA [] rfl rfl rfl rfl rfl hl.1 rfl rfl (Nat.le_of_ble_eq_true rfl) dX6_status_4 (fun H locs hP hD hS => ?_)
  refine lv_if_ne (tgt := 17) hx hb dX6_status_7 (by decide) (fun hc => ?_) (fun hc => ?_)
  · have hf := if_f hf hc
    refine lv_iload_n hx hb dX6_status_17 rfl (lv_at hl 1 rfl) ?_
    refine lv_if_lt (tgt := 30) hx hb dX6_status_18 (by decide) (fun hc => ?_) (fun hc => ?_)
    · have hf := if_t hf hc
      refine lv_iconst (v := (0 : Int32)) hx hb dX6_status_30 (by decide) ?_
      refine lv_istore_n (lv' := [(2, .int (0 : Int32)), (0, .ref v0), (1, .int a1)]) hx hb dX6_status_31 rfl hl (by decide) rfl (fun ls hl => ?_)
      refine lv_iconst (v := (0 : Int32)) hx hb dX6_status_32 (by decide) ?_
      refine lv_istore_n (lv' := [(3, .int (0 : Int32)), (2, .int (0 : Int32)), (0, .ref v0), (1, .int a1)]) hx hb dX6_status_33 rfl hl (by decide) rfl (fun ls hl => ?_)
      refine L34 _ _ _ _ _ _ _ _  hf hP hD hS (lv_sub hl [2, 1, 0] rfl) (fun x104 H locs ls hf hP hD hS hl => ?_)
      refine lv_iload_n hx hb dX6_status_58 rfl (lv_at hl 0 rfl) ?_
      obtain ⟨rfl, rfl⟩ := some_p2 hf
      rw [hQ]; exact Ct.iret hx hb hr hlocks hAe hP hD hS dX6_status_59
    · have hf := if_f hf hc
      refine lv_aload_n hx hb dX6_status_21 rfl (lv_at hl 0 rfl) ?_
      refine va_get (D := g.1) (ci := 6) (v := .ref f0) (C := RX6) (T := TX6) (N := 11) hx hb hts i_X6_status_X6 hown hE.1 hP 0 rfl rfl 8 (by decide) w1 (fun _ h9 => h9) rfl dX6_status_22 ?_
      refine lv_iload_n hx hb dX6_status_25 rfl (lv_at hl 1 rfl) ?_
      obtain ⟨x105, hg, hf⟩ := o1_s hf
      refine Ct.callS (ws' := wV g v0 u0 u1 u2 u3 k0 k1 k2 k3 h0 h1 h2 h3 s0 s1 s2 s3 c0 c1 c2 p0 r0 t0 t1 t2 t3 z0 f0 ea R N B S C P Q K X fd tl ik) (As := [.ref f0, .int a1]) (rest := []) (st1 := [.int x105]) (c_X6_at l g f0 7 fd a1 hg) (va_cwS 2 hts gX6_status_X6_at rfl rfl rfl q_X6_at.2 ⟨Nat.le_of_ble_eq_true rfl, Nat.le_of_ble_eq_true rfl⟩) ⟨hx, hb, hml, hown, hts⟩ hE hP hD hS hA [35] rfl rfl rfl rfl rfl hl.1 rfl rfl (Nat.le_of_ble_eq_true rfl) dX6_status_26 (fun H locs hP hD hS => ?_)
      obtain ⟨rfl, rfl⟩ := some_p2 hf
      rw [hQ]; exact Ct.iret hx hb hr hlocks hAe hP hD hS dX6_status_29
  · have hf := if_t hf hc
    refine lv_aload_n hx hb dX6_status_10 rfl (lv_at hl 0 rfl) ?_
    refine lv_ldc hx hb hown w2 dX6_status_11 ?_
    obtain ⟨x106, fd107, hg, hf⟩ := o2_s hf
    refine Ct.callV0 (ws' := wV g v0 u0 u1 u2 u3 k0 k1 k2 k3 h0 h1 h2 h3 s0 s1 s2 s3 c0 c1 c2 p0 r0 t0 t1 t2 t3 z0 f0 ea R N B S C P Q K X fd107 tl ik) (As := [.int (-1000001 : Int32)]) (rest := []) (st1 := [.int x106]) (c_X6_finding l g v0 u0 u1 u2 u3 k0 k1 k2 k3 h0 h1 h2 h3 s0 s1 s2 s3 c0 c1 c2 p0 r0 t0 t1 t2 t3 z0 f0 ea R N B S C P Q K X fd tl ik (-1000001 : Int32) hg) (cwV 1 hts gX6_status_X6_finding rfl rfl rfl q_X6_finding ⟨Nat.le_of_ble_eq_true rfl, Nat.le_of_ble_eq_true rfl⟩) ⟨hx, hb, hml, hown, hts⟩ hE hP hD hS hA 6 0 rfl rfl rfl rfl hl.1 rfl rfl (Nat.le_of_ble_eq_true rfl) dX6_status_13 (fun H locs hP hD hS => ?_)
    obtain ⟨rfl, rfl⟩ := some_p2 hf
    rw [hQ]; exact Ct.iret hx hb hr hlocks hAe hP hD hS dX6_status_16
