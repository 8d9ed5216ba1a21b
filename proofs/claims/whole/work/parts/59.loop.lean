/-! ===== the law's loop, and its start (printed by gen5.py) ===== -/
theorem LW.of {g : gG} {A : Nat → Prop} {w1 w2 : va_W} {H : Heap} (hP : va_P g.1 vwK (w1 ++ w2) H) (hD : va_D A (w1 ++ w2)) : LW g A w1 w2 H := by
  have e1 : ∀ (k : Nat) (q : Nat × va_E), w1[k]? = some q → (w1 ++ w2)[k]? = some q := fun k q h => by
    rw [List.getElem?_append_left (List.getElem?_eq_some_iff.mp h).1]; exact h
  have e2 : ∀ (k : Nat) (q : Nat × va_E), w2[k]? = some q → (w1 ++ w2)[w1.length + k]? = some q := fun k q h => by
    rw [List.getElem?_append_right (Nat.le_add_right _ _), Nat.add_sub_cancel_left]; exact h
  refine ⟨fun k q h => hP _ q (e1 k q h), fun k q h => hP _ q (e2 k q h), ⟨fun i j p q hi hj e => hD.1 i j p q (e1 i p hi) (e1 j q hj) e, fun k q h => hD.2 _ q (e1 k q h)⟩, ⟨fun i j p q hi hj e => ?_, fun k q h => hD.2 _ q (e2 k q h)⟩, fun i j p q hi hj e => ?_⟩
  · have := hD.1 _ _ p q (e2 i p hi) (e2 j q hj) e
    omega
  · have h1 := hD.1 _ _ p q (e1 i p hi) (e2 j q hj) e
    have h2 := (List.getElem?_eq_some_iff.mp hi).1
    omega
theorem rowq_eq {D : va_G} {cl : List vw_C} {a n : Nat} {cI : ClassId} {f g : Nat → Option Nat} (h : ∀ j, j < n → f j = g j) {H : Heap} (hP : va_at D cl (a, .inl (cI, n, .inr (.inr (.inr (.inr f))))) H) : va_at D cl (a, .inl (cI, n, .inr (.inr (.inr (.inr g))))) H := by
  have e : vp_cell cI (n, .inr (.inr (.inr (.inr f)))) = vp_cell cI (n, .inr (.inr (.inr (.inr g)))) := by
    rw [vp_cell_q, vp_cell_q]
    unfold arrV
    congr 1
    congr 1
    funext j
    show va_rf (f j.val) = va_rf (g j.val)
    rw [h j.val j.isLt]
  show H[a]? = some (vp_cell cI (n, .inr (.inr (.inr (.inr g)))))
  rw [← e]
  exact hP
theorem va_P.rep {D : va_G} {cl : List vw_C} {ws : va_W} {H : Heap} (h : va_P D cl ws H) (k0 : Nat) {x y : Nat × va_E} (hx : ws[k0]? = some x) (hy : va_at D cl x H → va_at D cl y H) : va_P D cl (ws.set k0 y) H := by
  intro k q hk
  by_cases e : k = k0
  · subst e
    rw [List.getElem?_set_self (List.getElem?_eq_some_iff.mp hx).1] at hk
    cases hk
    exact hy (h k x hx)
  · rw [List.getElem?_set_ne (fun z => e z.symm)] at hk
    exact h k q hk
theorem va_D.rep {A : Nat → Prop} {ws : va_W} (hD : va_D A ws) (k0 : Nat) {x y : Nat × va_E} (hx : ws[k0]? = some x) (hy : x.1 = y.1) : va_D A (ws.set k0 y) := by
  obtain ⟨a, e⟩ := x
  obtain ⟨a2, e2⟩ := y
  have hy : a = a2 := hy
  subst hy
  exact hD.set hx
theorem law_cmp {i L : Nat} (hL : L ≤ 3072) (hi : i ≤ L + 6) : nI L - (6 : Int32) < nI i ↔ L < i + 6 := by
  have e : (nI L - (6 : Int32)).toInt = (L : Int) - (6 : Nat) := pk_sub_toInt (a := L) (b := 6) (by omega) (by decide)
  rw [Int32.lt_iff_toInt_lt, e, nI_toInt (by omega)]
  omega
theorem nw0 : ∀ j, j < 120 → 16 ≤ j → nwk 10 j = 0 := by decide +kernel
theorem rl_start : Rl ((fun _ => 0), (fun _ => 0), spk 10, 0, 0, 0, 0, 0, 1) (nwk 10) := by
  refine ⟨0, 0, by decide, ⟨by decide +kernel, fun c hc => ⟨0, by decide, ?_⟩, by decide +kernel, fun c hc => ⟨fun f hf => ?_, fun f hf => ?_⟩, fun i hi => ?_, by decide +kernel, by decide +kernel, by decide +kernel, by decide +kernel, by decide +kernel⟩, ⟨by decide +kernel, by decide, fun l hl => ⟨⟨0, by decide, ?_⟩, ⟨0, by decide, ?_⟩, 0, by decide, ?_⟩⟩, fun s hs => Or.inl ?_⟩
  · rw [nw0 _ (by omega) (by omega)]; exact nI_0.symm
  · exact (nw0 _ (by omega) (by omega)).symm
  · exact (nw0 _ (by omega) (by omega)).symm
  · exact (nw0 _ (by omega) (by omega)).symm
  · rw [nw0 _ (by omega) (by omega)]; exact nI_0.symm
  · rw [nw0 _ (by omega) (by omega)]; exact nI_0.symm
  · rw [nw0 _ (by omega) (by omega)]; exact nI_0.symm
  · have : ∀ s, s < 10 → nwk 10 (6 + s) = -1 := by decide +kernel
    exact this s hs
def V0s : Vt := (((fun _ => 0), (fun _ => 0), spk 10, 0, 0, 0, 0, 0, 1), ((fun _ => 0), (fun _ => 0), spk 10, 0, 0, 0, 0, 0, 1), ((fun _ => 0), (fun _ => 0), spk 10, 0, 0, 0, 0, 0, 1), ((fun _ => 0), (fun _ => 0), (fun _ => 0), 0, 0, 0, 0), ((fun _ => 0), (fun _ => 0)), (fun _ => 0), (0, 0), ((fun _ => 0), (fun _ => 0), (fun _ => 0), 0, 0), (fun _ => ((fun _ => 0), 0, 0)), (fun _ => 0), 0, 0)
def M0s : Mm := (nwk 10, (fun _ => 0), (fun _ => 0), 0, (fun _ => 0), (fun _ => 0), ((fun _ => 0), (fun _ => 0), 0, 0, 0, 0, 0, 0, 0, 0, 0), ((fun _ => 0), (fun _ => 0), (fun _ => 0), (fun _ => 0)))
theorem inv_start : Inv V0s M0s := by
  unfold Inv
  refine ⟨rl_start, rfl, fun h => absurd rfl h, Or.inl rfl, fun s hs => ⟨rfl, ⟨0, by decide, nI_0.symm, nI_0.symm⟩, fun i hi => rfl⟩, ⟨fun i hi => rfl, by decide +kernel⟩, 0, Nat.zero_le _, nI_0.symm, nI_0.symm, fun i hi => absurd hi (Nat.not_lt_zero i)⟩
set_option maxHeartbeats 4000000 in
set_option maxRecDepth 100000 in
/-- THE LAW'S LOOP -/
theorem law_loop {p : Program} {e : Env} {s : State} {m : MethodId} {below : List Frame} {meth : Method} {c : Code} (l : Launch) {b L : Nat} {xs : Nat → Int32} (hL : L ≤ 3072) (C0 : lw_At p s m meth c b L xs) (g : gG) (d : Nat → Nat) (hE : EV g (fun q : Nat => s.heap.size ≤ q) s) :
    ∀ (n i : Nat), L < i + n → i ≤ L + 6 → ∀ (V : Vt) (M : Mm) (H : Heap) (locs : List Loc) (ls : Array Slot), Inv V M → LW g (fun q : Nat => s.heap.size ≤ q) (wVd g d V) (wMd g d M) H → va_S (fun q : Nat => s.heap.size ≤ q) s.heap H locs → lv_has ls 4 [(0, .ref b), (1, .ref (d 0)), (2, .ref (d 40)), (3, .int (nI i))] → W p l e room_1 s m #[Value.ref b] below meth c H locs 600000 7302250 (lw_Z below #[Value.ref b] s) (F0 m 18 ls []) := by
  obtain ⟨hx, hb, hr, hml, hown, hts, hX, hbl, hlocks, hgv⟩ := id C0
  have hbA : ¬ (fun q : Nat => s.heap.size ≤ q) b := Nat.not_le.mpr hbl
  intro n
  induction n with
  | zero =>
    intro i h1 h2 V M H locs ls hI hW hS hl
    refine lv_iload_n hx hb dL_law_18 rfl (lv_at hl 3 rfl) ?_
    refine lv_aload_n hx hb dL_law_19 rfl (lv_at hl 0 rfl) ?_
    refine va_slen hx hb hX hbl hbA hS dL_law_20 ?_
    refine lv_bipush (v := (6 : Int32)) hx hb dL_law_21 (by decide) ?_
    refine lv_isub hx hb dL_law_23 ?_
    refine lv_icmp_gt (tgt := 1539) hx hb dL_law_24 (by decide) (fun hc => ?_) (fun hc => absurd ((law_cmp hL h2).mpr (by omega)) hc)
    refine lv_iconst (v := 1) hx hb dL_law_1539 (by decide) ?_
    exact va_forget (fun q hq => hS.2.2 q hq) (lw_ret hx hb hr hlocks dL_law_1540)
  | succ n ih =>
    intro i h1 h2 V M H locs ls hI hW hS hl
    refine lv_iload_n hx hb dL_law_18 rfl (lv_at hl 3 rfl) ?_
    refine lv_aload_n hx hb dL_law_19 rfl (lv_at hl 0 rfl) ?_
    refine va_slen hx hb hX hbl hbA hS dL_law_20 ?_
    refine lv_bipush (v := (6 : Int32)) hx hb dL_law_21 (by decide) ?_
    refine lv_isub hx hb dL_law_23 ?_
    refine lv_icmp_gt (tgt := 1539) hx hb dL_law_24 (by decide) (fun hc => ?_) (fun hc => ?_)
    · refine lv_iconst (v := 1) hx hb dL_law_1539 (by decide) ?_
      exact va_forget (fun q hq => hS.2.2 q hq) (lw_ret hx hb hr hlocks dL_law_1540)
    · have hi : i + 6 ≤ L := by
        rcases Nat.lt_or_ge L (i + 6) with q | q
        · exact absurd ((law_cmp hL h2).mpr q) hc
        · exact q
      have kk : ∀ (V' : Vt) (M' : Mm) (H : Heap) (locs : List Loc), Inv V' M' → LW g (fun q : Nat => s.heap.size ≤ q) (wVd g d V') (wMd g d M') H → va_S (fun q : Nat => s.heap.size ≤ q) s.heap H locs → W p l e room_1 s m #[Value.ref b] below meth c H locs 600000 7302250 (lw_Z below #[Value.ref b] s) (F0 m 1533 ls []) := by
        intro V' M' H locs hI hW hS
        refine lv_iinc (v := nI (i + 6)) (lv' := [(3, .int (nI (i + 6))), (0, .ref b), (1, .ref (d 0)), (2, .ref (d 40))]) hx hb dL_law_1533 hl (k := 3) rfl (by rw [show Int32.ofInt 6 = nI 6 from by decide]; exact nI_add i 6) (by decide) rfl (fun ls hl => ?_)
        refine lv_goto (tgt := 18) hx hb dL_law_1536 (by decide) ?_
        exact ih (i + 6) (by omega) (by omega) V' M' H locs ls hI hW hS (lv_sub hl [1, 2, 3, 0] rfl)
      refine lv_aload_n hx hb dL_law_27 rfl (lv_at hl 0 rfl) ?_
      refine lv_iload_n hx hb dL_law_28 rfl (lv_at hl 3 rfl) ?_
      refine va_sld hx hb hX hbl hbA hS (vp_in_nI (by omega) (by omega)) dL_law_29 ?_
      refine lv_bipush (v := (63 : Int32)) hx hb dL_law_30 (by decide) ?_
      refine lv_iand hx hb dL_law_32 ?_
      obtain ⟨j, hj, ej⟩ := pk_andE (xs (nI i).toNatClampNeg) (m := 63) 6 (by decide)
      rw [ej]
      have st : ∀ {q : Nat}, StepAt q → W p l e room_1 s m #[Value.ref b] below meth c H locs 600000 7302250 (lw_Z below #[Value.ref b] s) (F0 m q ls []) := fun hq => hq l hL C0 g d V M i hi H locs ls hE hI hW hS hl kk
      by_cases h45 : j < 45
      · match j, h45 with
        | 0, _ => exact lv_tableIn (off := 195) (tgt := 228) hx hb dL_law_33 (by decide +kernel) (by decide +kernel) (by decide +kernel) (by decide) (st s_cistern)
        | 1, _ => exact lv_tableIn (off := 228) (tgt := 261) hx hb dL_law_33 (by decide +kernel) (by decide +kernel) (by decide +kernel) (by decide) (st s_of)
        | 2, _ => exact lv_tableIn (off := 261) (tgt := 294) hx hb dL_law_33 (by decide +kernel) (by decide +kernel) (by decide +kernel) (by decide) (st s_change)
        | 3, _ => exact lv_tableIn (off := 304) (tgt := 337) hx hb dL_law_33 (by decide +kernel) (by decide +kernel) (by decide +kernel) (by decide) (st s_cold)
        | 4, _ => exact lv_tableIn (off := 327) (tgt := 360) hx hb dL_law_33 (by decide +kernel) (by decide +kernel) (by decide +kernel) (by decide) (st s_catches)
        | 5, _ => exact lv_tableIn (off := 370) (tgt := 403) hx hb dL_law_33 (by decide +kernel) (by decide +kernel) (by decide +kernel) (by decide) (st s_below)
        | 6, _ => exact lv_tableIn (off := 393) (tgt := 426) hx hb dL_law_33 (by decide +kernel) (by decide +kernel) (by decide +kernel) (by decide) (st s_lock)
        | 7, _ => exact lv_tableIn (off := 436) (tgt := 469) hx hb dL_law_33 (by decide +kernel) (by decide +kernel) (by decide +kernel) (by decide) (st s_lockOf)
        | 8, _ => exact lv_tableIn (off := 469) (tgt := 502) hx hb dL_law_33 (by decide +kernel) (by decide +kernel) (by decide +kernel) (by decide) (st s_pick)
        | 9, _ => exact lv_tableIn (off := 492) (tgt := 525) hx hb dL_law_33 (by decide +kernel) (by decide +kernel) (by decide +kernel) (by decide) (st s_holding)
        | 10, _ => exact lv_tableIn (off := 505) (tgt := 538) hx hb dL_law_33 (by decide +kernel) (by decide +kernel) (by decide +kernel) (by decide) (st s_open)
        | 11, _ => exact lv_tableIn (off := 518) (tgt := 551) hx hb dL_law_33 (by decide +kernel) (by decide +kernel) (by decide +kernel) (by decide) (st s_rain)
        | 12, _ => exact lv_tableIn (off := 561) (tgt := 594) hx hb dL_law_33 (by decide +kernel) (by decide +kernel) (by decide +kernel) (by decide) (st s_weather)
        | 13, _ => exact lv_tableIn (off := 584) (tgt := 617) hx hb dL_law_33 (by decide +kernel) (by decide +kernel) (by decide +kernel) (by decide) (st s_ahead)
        | 14, _ => exact lv_tableIn (off := 637) (tgt := 670) hx hb dL_law_33 (by decide +kernel) (by decide +kernel) (by decide +kernel) (by decide) (st s_when)
        | 15, _ => exact lv_tableIn (off := 680) (tgt := 713) hx hb dL_law_33 (by decide +kernel) (by decide +kernel) (by decide +kernel) (by decide) (st s_rains)
        | 16, _ => exact lv_tableIn (off := 703) (tgt := 736) hx hb dL_law_33 (by decide +kernel) (by decide +kernel) (by decide +kernel) (by decide) (st s_first)
        | 17, _ => exact lv_tableIn (off := 736) (tgt := 769) hx hb dL_law_33 (by decide +kernel) (by decide +kernel) (by decide +kernel) (by decide) (st s_driest)
        | 18, _ => exact lv_tableIn (off := 759) (tgt := 792) hx hb dL_law_33 (by decide +kernel) (by decide +kernel) (by decide +kernel) (by decide) (st s_soonest)
        | 19, _ => exact lv_tableIn (off := 772) (tgt := 805) hx hb dL_law_33 (by decide +kernel) (by decide +kernel) (by decide +kernel) (by decide) (st s_needed)
        | 20, _ => exact lv_tableIn (off := 795) (tgt := 828) hx hb dL_law_33 (by decide +kernel) (by decide +kernel) (by decide +kernel) (by decide) (st s_buckets)
        | 21, _ => exact lv_tableIn (off := 808) (tgt := 841) hx hb dL_law_33 (by decide +kernel) (by decide +kernel) (by decide +kernel) (by decide) (st s_carry)
        | 22, _ => exact lv_tableIn (off := 831) (tgt := 864) hx hb dL_law_33 (by decide +kernel) (by decide +kernel) (by decide +kernel) (by decide) (st s_cloths)
        | 23, _ => exact lv_tableIn (off := 874) (tgt := 907) hx hb dL_law_33 (by decide +kernel) (by decide +kernel) (by decide +kernel) (by decide) (st s_guard)
        | 24, _ => exact lv_tableIn (off := 917) (tgt := 950) hx hb dL_law_33 (by decide +kernel) (by decide +kernel) (by decide +kernel) (by decide) (st s_weak)
        | 25, _ => exact lv_tableIn (off := 930) (tgt := 963) hx hb dL_law_33 (by decide +kernel) (by decide +kernel) (by decide +kernel) (by decide) (st s_leaks)
        | 26, _ => exact lv_tableIn (off := 993) (tgt := 1026) hx hb dL_law_33 (by decide +kernel) (by decide +kernel) (by decide +kernel) (by decide) (st s_sides)
        | 27, _ => exact lv_tableIn (off := 1026) (tgt := 1059) hx hb dL_law_33 (by decide +kernel) (by decide +kernel) (by decide +kernel) (by decide) (st s_cat)
        | 28, _ => exact lv_tableIn (off := 1039) (tgt := 1072) hx hb dL_law_33 (by decide +kernel) (by decide +kernel) (by decide +kernel) (by decide) (st s_seed)
        | 29, _ => exact lv_tableIn (off := 1062) (tgt := 1095) hx hb dL_law_33 (by decide +kernel) (by decide +kernel) (by decide +kernel) (by decide) (st s_feed)
        | 30, _ => exact lv_tableIn (off := 1095) (tgt := 1128) hx hb dL_law_33 (by decide +kernel) (by decide +kernel) (by decide +kernel) (by decide) (st s_wipe)
        | 31, _ => exact lv_tableIn (off := 1108) (tgt := 1141) hx hb dL_law_33 (by decide +kernel) (by decide +kernel) (by decide +kernel) (by decide) (st s_text)
        | 32, _ => exact lv_tableIn (off := 1121) (tgt := 1154) hx hb dL_law_33 (by decide +kernel) (by decide +kernel) (by decide +kernel) (by decide) (st s_hold)
        | 33, _ => exact lv_tableIn (off := 1154) (tgt := 1187) hx hb dL_law_33 (by decide +kernel) (by decide +kernel) (by decide +kernel) (by decide) (st s_as)
        | 34, _ => exact lv_tableIn (off := 1187) (tgt := 1220) hx hb dL_law_33 (by decide +kernel) (by decide +kernel) (by decide +kernel) (by decide) (st s_sheet)
        | 35, _ => exact lv_tableIn (off := 1230) (tgt := 1263) hx hb dL_law_33 (by decide +kernel) (by decide +kernel) (by decide +kernel) (by decide) (st s_write)
        | 36, _ => exact lv_tableIn (off := 1273) (tgt := 1306) hx hb dL_law_33 (by decide +kernel) (by decide +kernel) (by decide +kernel) (by decide) (st s_copy)
        | 37, _ => exact lv_tableIn (off := 1336) (tgt := 1369) hx hb dL_law_33 (by decide +kernel) (by decide +kernel) (by decide +kernel) (by decide) (st s_load)
        | 38, _ => exact lv_tableIn (off := 1359) (tgt := 1392) hx hb dL_law_33 (by decide +kernel) (by decide +kernel) (by decide +kernel) (by decide) (st s_rust)
        | 39, _ => exact lv_tableIn (off := 1392) (tgt := 1425) hx hb dL_law_33 (by decide +kernel) (by decide +kernel) (by decide +kernel) (by decide) (st s_judge)
        | 40, _ => exact lv_tableIn (off := 1415) (tgt := 1448) hx hb dL_law_33 (by decide +kernel) (by decide +kernel) (by decide +kernel) (by decide) (st s_image)
        | 41, _ => exact lv_tableIn (off := 1428) (tgt := 1461) hx hb dL_law_33 (by decide +kernel) (by decide +kernel) (by decide +kernel) (by decide) (st s_undo)
        | 42, _ => exact lv_tableIn (off := 1441) (tgt := 1474) hx hb dL_law_33 (by decide +kernel) (by decide +kernel) (by decide +kernel) (by decide) (st s_tear)
        | 43, _ => exact lv_tableIn (off := 1454) (tgt := 1487) hx hb dL_law_33 (by decide +kernel) (by decide +kernel) (by decide +kernel) (by decide) (st s_count)
        | 44, _ => exact lv_tableIn (off := 1477) (tgt := 1510) hx hb dL_law_33 (by decide +kernel) (by decide +kernel) (by decide +kernel) (by decide) (st s_status)
        | j + 45, h => omega
      · exact lv_tableOut (tgt := 1533) hx hb dL_law_33 (Or.inr (by rw [nI_toInt (by omega)]; omega)) (by decide) (kk V M H locs hI hW hS)
set_option maxHeartbeats 4000000 in
set_option maxRecDepth 100000 in
/-- THE LAW, from its entry -/
theorem whole_start {p : Program} {e : Env} {s : State} {m : MethodId} {below : List Frame} {meth : Method} {c : Code} (l : Launch) (hflags : l.flags = flags0) {b L : Nat} {xs : Nat → Int32} (hL : L ≤ 3072) (C0 : lw_At p s m meth c b L xs) : W p l e room_1 s m #[Value.ref b] below meth c s.heap [] 0 0 (lw_Z below #[Value.ref b] s) (entryFrame m ([Value.ref b] : List Value).toArray 4) := by
  obtain ⟨hx, hb, hr, hml, hown, hts, hX, hbl, hlocks, hgv⟩ := id C0
  have hA : ∀ q : Nat, s.heap.size ≤ q → (fun q : Nat => s.heap.size ≤ q) q := fun _ h => h
  obtain ⟨g, hE, hO⟩ := ev_start (flat_of_before _ hgv) hts
  have hown : s.vm.findClass RL = some m.cls := hown
  have hS : va_S (fun q : Nat => s.heap.size ≤ q) s.heap s.heap [] := va_S.rf
  have hP : va_P g.1 vwK [] s.heap := fun k q h => by simp at h
  have hD : va_D (fun q : Nat => s.heap.size ≤ q) [] := ⟨fun i j p q h => by simp at h, fun k q h => by simp at h⟩
  have hl := lv_entry ([.ref b]) (n := 4) (Nat.le_of_ble_eq_true rfl)
  rw [lg_entry_eq]
  generalize (lg_sl ([.ref b]) ++ List.replicate (4 - (lg_sl ([.ref b])).length) Slot.unset).toArray = ls at hl ⊢
  have hl : lv_has ls 4 [(0, .ref b)] := hl
  refine va_new (ci := 6) (fs := [.null, .null, .null, .null, .null, .null, .null, .null, .null, .int 0, .int 0]) (C := RX6) (T := TX6) (N := 11) hx hb hts inT_X6 tyX6 tyX6_ok hown (hts (.classLink RL 7 RX6) (List.mem_of_getElem? (i := 86) (by decide +kernel))) (hts _ inI_X6) (hts (.initialized RX6) (List.mem_of_getElem? (i := 71) (by decide +kernel))) hE.1 hP hD hS hA rfl (fun j hj => ?_) (Nat.le_of_ble_eq_true rfl) (Nat.le_of_ble_eq_true rfl) dL_law_0 (fun v0 H hP hD hS => ?_)
  · match j, hj with
    | 0, _ => rfl
    | 1, _ => rfl
    | 2, _ => rfl
    | 3, _ => rfl
    | 4, _ => rfl
    | 5, _ => rfl
    | 6, _ => rfl
    | 7, _ => rfl
    | 8, _ => rfl
    | 9, _ => rfl
    | 10, _ => rfl
    | j + 11, hj => omega
  have hP : va_P g.1 vwK [(v0, .inr (6, [.null, .null, .null, .null, .null, .null, .null, .null, .null, .int 0, .int 0]))] H := hP
  have hD : va_D (fun q : Nat => s.heap.size ≤ q) [(v0, .inr (6, [.null, .null, .null, .null, .null, .null, .null, .null, .null, .int 0, .int 0]))] := hD
  refine W.widen (k := 1) (n := 11) (Nat.le_of_ble_eq_true rfl) (Nat.le_of_ble_eq_true rfl) ?_
  refine lv_dup hx hb dL_law_3 rfl ?_
  refine Cn.callI (wr := []) (wi := [(v0, .inr (6, [.null, .null, .null, .null, .null, .null, .null, .null, .null, .int 0, .int 0]))]) (As := []) (rest := [.ref v0]) (c_X6_init l g v0) (cwI 0 hts ggL_X6_init rfl rfl rfl (hts (.initialized RX6) (List.mem_of_getElem? (i := 71) (by decide +kernel))) (hts (.methodLink RL 9 yX6_init) (List.mem_of_getElem? (i := 88) (by decide +kernel))) (hts (.instanceMethod yX6_init) (List.mem_of_getElem? (i := 89) (by decide +kernel))) rfl (by decide +kernel) ⟨Nat.le_of_ble_eq_true rfl, Nat.le_of_ble_eq_true rfl⟩) ⟨hx, hb, hml, hown, hts⟩ hE hO hP hD hS hA [0] [] rfl rfl (by decide) (by decide) (by decide) rfl hl.1 rfl (Nat.le_of_ble_eq_true rfl) dL_law_4 ⟨Nat.le_of_ble_eq_true rfl, Nat.le_of_ble_eq_true rfl⟩ (fun wo H locs hSo hP hD hS => ?_)
  obtain ⟨u0, u1, u2, u3, k0, k1, k2, k3, h0, h1, h2, h3, s0, s1, s2, s3, c0, c1, c2, p0, r0, t0, t1, t2, t3, z0, e0, e4, e1, e5, e2, e6, e3, e7, f0, rfl⟩ := hSo
  have hP : va_P g.1 vwK [(v0, .inr (6, [.ref u0, .ref k0, .ref h0, .ref s0, .ref c0, .ref p0, .ref r0, .ref z0, .ref f0, .int (0 : Int32), .int (0 : Int32)])), (u0, .inr (1, [.ref u1, .ref u2, .ref u3, .int 0, .int 0, .int 0, .int 0, .int 0, .int 1])), (u1, .inl (g.2.1 0, 88, .inl (fun _ => 0))), (u2, .inl (g.2.1 0, 24, .inl (fun _ => 0))), (u3, .inl (g.2.1 0, 10, .inl (spk 10))), (k0, .inr (1, [.ref k1, .ref k2, .ref k3, .int 0, .int 0, .int 0, .int 0, .int 0, .int 1])), (k1, .inl (g.2.1 0, 88, .inl (fun _ => 0))), (k2, .inl (g.2.1 0, 24, .inl (fun _ => 0))), (k3, .inl (g.2.1 0, 10, .inl (spk 10))), (h0, .inr (1, [.ref h1, .ref h2, .ref h3, .int 0, .int 0, .int 0, .int 0, .int 0, .int 1])), (h1, .inl (g.2.1 0, 88, .inl (fun _ => 0))), (h2, .inl (g.2.1 0, 24, .inl (fun _ => 0))), (h3, .inl (g.2.1 0, 10, .inl (spk 10))), (s0, .inr (3, [.ref h0, .ref s1, .ref s2, .ref s3, .int 0, .int 0, .int 0, .int 0])), (s1, .inl (g.2.1 0, 5, .inl (fun _ => 0))), (s2, .inl (g.2.1 0, 48, .inl (fun _ => 0))), (s3, .inl (g.2.1 0, 5, .inl (fun _ => 0))), (c0, .inr (0, [.ref h0, .ref c1, .ref c2])), (c1, .inl (g.2.1 0, 8, .inl (fun _ => 0))), (c2, .inl (g.2.1 0, 4, .inl (fun _ => 0))), (p0, .inl (g.2.1 0, 120, .inl (fun _ => 0))), (r0, .inr (4, [.ref t0, .ref h0, .int 0, .int 0])), (t0, .inr (5, [.ref p0, .ref t1, .ref t2, .ref t3, .int 0, .int 0])), (t1, .inl (g.2.1 0, 121, .inl (fun _ => 0))), (t2, .inl (g.2.1 0, 121, .inl (fun _ => 0))), (t3, .inl (g.2.1 0, 121, .inl (fun _ => 0))), (z0, .inl (g.2.1 1, 4, .inr (.inr (.inr (.inr (va_up (va_up (va_up (va_up (fun _ => none) 0 (some e0)) 1 (some e1)) 2 (some e2)) 3 (some e3))))))), (e0, .inr (2, [.ref e4, .int 0, .int 0])), (e4, .inl (g.2.1 0, 40, .inl (fun _ => 0))), (e1, .inr (2, [.ref e5, .int 0, .int 0])), (e5, .inl (g.2.1 0, 40, .inl (fun _ => 0))), (e2, .inr (2, [.ref e6, .int 0, .int 0])), (e6, .inl (g.2.1 0, 40, .inl (fun _ => 0))), (e3, .inr (2, [.ref e7, .int 0, .int 0])), (e7, .inl (g.2.1 0, 40, .inl (fun _ => 0))), (f0, .inl (g.2.1 0, 7, .inl (fun _ => 0)))] H := hP
  have hD : va_D (fun q : Nat => s.heap.size ≤ q) [(v0, .inr (6, [.ref u0, .ref k0, .ref h0, .ref s0, .ref c0, .ref p0, .ref r0, .ref z0, .ref f0, .int (0 : Int32), .int (0 : Int32)])), (u0, .inr (1, [.ref u1, .ref u2, .ref u3, .int 0, .int 0, .int 0, .int 0, .int 0, .int 1])), (u1, .inl (g.2.1 0, 88, .inl (fun _ => 0))), (u2, .inl (g.2.1 0, 24, .inl (fun _ => 0))), (u3, .inl (g.2.1 0, 10, .inl (spk 10))), (k0, .inr (1, [.ref k1, .ref k2, .ref k3, .int 0, .int 0, .int 0, .int 0, .int 0, .int 1])), (k1, .inl (g.2.1 0, 88, .inl (fun _ => 0))), (k2, .inl (g.2.1 0, 24, .inl (fun _ => 0))), (k3, .inl (g.2.1 0, 10, .inl (spk 10))), (h0, .inr (1, [.ref h1, .ref h2, .ref h3, .int 0, .int 0, .int 0, .int 0, .int 0, .int 1])), (h1, .inl (g.2.1 0, 88, .inl (fun _ => 0))), (h2, .inl (g.2.1 0, 24, .inl (fun _ => 0))), (h3, .inl (g.2.1 0, 10, .inl (spk 10))), (s0, .inr (3, [.ref h0, .ref s1, .ref s2, .ref s3, .int 0, .int 0, .int 0, .int 0])), (s1, .inl (g.2.1 0, 5, .inl (fun _ => 0))), (s2, .inl (g.2.1 0, 48, .inl (fun _ => 0))), (s3, .inl (g.2.1 0, 5, .inl (fun _ => 0))), (c0, .inr (0, [.ref h0, .ref c1, .ref c2])), (c1, .inl (g.2.1 0, 8, .inl (fun _ => 0))), (c2, .inl (g.2.1 0, 4, .inl (fun _ => 0))), (p0, .inl (g.2.1 0, 120, .inl (fun _ => 0))), (r0, .inr (4, [.ref t0, .ref h0, .int 0, .int 0])), (t0, .inr (5, [.ref p0, .ref t1, .ref t2, .ref t3, .int 0, .int 0])), (t1, .inl (g.2.1 0, 121, .inl (fun _ => 0))), (t2, .inl (g.2.1 0, 121, .inl (fun _ => 0))), (t3, .inl (g.2.1 0, 121, .inl (fun _ => 0))), (z0, .inl (g.2.1 1, 4, .inr (.inr (.inr (.inr (va_up (va_up (va_up (va_up (fun _ => none) 0 (some e0)) 1 (some e1)) 2 (some e2)) 3 (some e3))))))), (e0, .inr (2, [.ref e4, .int 0, .int 0])), (e4, .inl (g.2.1 0, 40, .inl (fun _ => 0))), (e1, .inr (2, [.ref e5, .int 0, .int 0])), (e5, .inl (g.2.1 0, 40, .inl (fun _ => 0))), (e2, .inr (2, [.ref e6, .int 0, .int 0])), (e6, .inl (g.2.1 0, 40, .inl (fun _ => 0))), (e3, .inr (2, [.ref e7, .int 0, .int 0])), (e7, .inl (g.2.1 0, 40, .inl (fun _ => 0))), (f0, .inl (g.2.1 0, 7, .inl (fun _ => 0)))] := hD
  refine W.widen (k := 36) (n := 1161) (Nat.le_of_ble_eq_true rfl) (Nat.le_of_ble_eq_true rfl) ?_
  refine lv_astore_n (lv' := [(1, .ref v0), (0, .ref b)]) hx hb dL_law_7 rfl hl (by decide) rfl (fun ls hl => ?_)
  refine va_new (ci := 7) (fs := [.null, .null, .null, .int 0, .null, .null, .null, .int 0, .int 0, .int 0, .int 0, .int 0, .int 0, .null, .null, .int 0, .int 0, .int 0, .null, .null, .null, .null]) (C := RX7) (T := TX7) (N := 22) hx hb hts inT_X7 tyX7 tyX7_ok hown (hts (.classLink RL 10 RX7) (List.mem_of_getElem? (i := 895) (by decide +kernel))) (hts _ inI_X7) (hts (.initialized RX7) (List.mem_of_getElem? (i := 78) (by decide +kernel))) hE.1 hP hD hS hA rfl (fun j hj => ?_) (Nat.le_of_ble_eq_true rfl) (Nat.le_of_ble_eq_true rfl) dL_law_8 (fun m0 H hP hD hS => ?_)
  · match j, hj with
    | 0, _ => rfl
    | 1, _ => rfl
    | 2, _ => rfl
    | 3, _ => rfl
    | 4, _ => rfl
    | 5, _ => rfl
    | 6, _ => rfl
    | 7, _ => rfl
    | 8, _ => rfl
    | 9, _ => rfl
    | 10, _ => rfl
    | 11, _ => rfl
    | 12, _ => rfl
    | 13, _ => rfl
    | 14, _ => rfl
    | 15, _ => rfl
    | 16, _ => rfl
    | 17, _ => rfl
    | 18, _ => rfl
    | 19, _ => rfl
    | 20, _ => rfl
    | 21, _ => rfl
    | j + 22, hj => omega
  have hP : va_P g.1 vwK [(v0, .inr (6, [.ref u0, .ref k0, .ref h0, .ref s0, .ref c0, .ref p0, .ref r0, .ref z0, .ref f0, .int (0 : Int32), .int (0 : Int32)])), (u0, .inr (1, [.ref u1, .ref u2, .ref u3, .int 0, .int 0, .int 0, .int 0, .int 0, .int 1])), (u1, .inl (g.2.1 0, 88, .inl (fun _ => 0))), (u2, .inl (g.2.1 0, 24, .inl (fun _ => 0))), (u3, .inl (g.2.1 0, 10, .inl (spk 10))), (k0, .inr (1, [.ref k1, .ref k2, .ref k3, .int 0, .int 0, .int 0, .int 0, .int 0, .int 1])), (k1, .inl (g.2.1 0, 88, .inl (fun _ => 0))), (k2, .inl (g.2.1 0, 24, .inl (fun _ => 0))), (k3, .inl (g.2.1 0, 10, .inl (spk 10))), (h0, .inr (1, [.ref h1, .ref h2, .ref h3, .int 0, .int 0, .int 0, .int 0, .int 0, .int 1])), (h1, .inl (g.2.1 0, 88, .inl (fun _ => 0))), (h2, .inl (g.2.1 0, 24, .inl (fun _ => 0))), (h3, .inl (g.2.1 0, 10, .inl (spk 10))), (s0, .inr (3, [.ref h0, .ref s1, .ref s2, .ref s3, .int 0, .int 0, .int 0, .int 0])), (s1, .inl (g.2.1 0, 5, .inl (fun _ => 0))), (s2, .inl (g.2.1 0, 48, .inl (fun _ => 0))), (s3, .inl (g.2.1 0, 5, .inl (fun _ => 0))), (c0, .inr (0, [.ref h0, .ref c1, .ref c2])), (c1, .inl (g.2.1 0, 8, .inl (fun _ => 0))), (c2, .inl (g.2.1 0, 4, .inl (fun _ => 0))), (p0, .inl (g.2.1 0, 120, .inl (fun _ => 0))), (r0, .inr (4, [.ref t0, .ref h0, .int 0, .int 0])), (t0, .inr (5, [.ref p0, .ref t1, .ref t2, .ref t3, .int 0, .int 0])), (t1, .inl (g.2.1 0, 121, .inl (fun _ => 0))), (t2, .inl (g.2.1 0, 121, .inl (fun _ => 0))), (t3, .inl (g.2.1 0, 121, .inl (fun _ => 0))), (z0, .inl (g.2.1 1, 4, .inr (.inr (.inr (.inr (va_up (va_up (va_up (va_up (fun _ => none) 0 (some e0)) 1 (some e1)) 2 (some e2)) 3 (some e3))))))), (e0, .inr (2, [.ref e4, .int 0, .int 0])), (e4, .inl (g.2.1 0, 40, .inl (fun _ => 0))), (e1, .inr (2, [.ref e5, .int 0, .int 0])), (e5, .inl (g.2.1 0, 40, .inl (fun _ => 0))), (e2, .inr (2, [.ref e6, .int 0, .int 0])), (e6, .inl (g.2.1 0, 40, .inl (fun _ => 0))), (e3, .inr (2, [.ref e7, .int 0, .int 0])), (e7, .inl (g.2.1 0, 40, .inl (fun _ => 0))), (f0, .inl (g.2.1 0, 7, .inl (fun _ => 0))), (m0, .inr (7, [.null, .null, .null, .int 0, .null, .null, .null, .int 0, .int 0, .int 0, .int 0, .int 0, .int 0, .null, .null, .int 0, .int 0, .int 0, .null, .null, .null, .null]))] H := hP
  have hD : va_D (fun q : Nat => s.heap.size ≤ q) [(v0, .inr (6, [.ref u0, .ref k0, .ref h0, .ref s0, .ref c0, .ref p0, .ref r0, .ref z0, .ref f0, .int (0 : Int32), .int (0 : Int32)])), (u0, .inr (1, [.ref u1, .ref u2, .ref u3, .int 0, .int 0, .int 0, .int 0, .int 0, .int 1])), (u1, .inl (g.2.1 0, 88, .inl (fun _ => 0))), (u2, .inl (g.2.1 0, 24, .inl (fun _ => 0))), (u3, .inl (g.2.1 0, 10, .inl (spk 10))), (k0, .inr (1, [.ref k1, .ref k2, .ref k3, .int 0, .int 0, .int 0, .int 0, .int 0, .int 1])), (k1, .inl (g.2.1 0, 88, .inl (fun _ => 0))), (k2, .inl (g.2.1 0, 24, .inl (fun _ => 0))), (k3, .inl (g.2.1 0, 10, .inl (spk 10))), (h0, .inr (1, [.ref h1, .ref h2, .ref h3, .int 0, .int 0, .int 0, .int 0, .int 0, .int 1])), (h1, .inl (g.2.1 0, 88, .inl (fun _ => 0))), (h2, .inl (g.2.1 0, 24, .inl (fun _ => 0))), (h3, .inl (g.2.1 0, 10, .inl (spk 10))), (s0, .inr (3, [.ref h0, .ref s1, .ref s2, .ref s3, .int 0, .int 0, .int 0, .int 0])), (s1, .inl (g.2.1 0, 5, .inl (fun _ => 0))), (s2, .inl (g.2.1 0, 48, .inl (fun _ => 0))), (s3, .inl (g.2.1 0, 5, .inl (fun _ => 0))), (c0, .inr (0, [.ref h0, .ref c1, .ref c2])), (c1, .inl (g.2.1 0, 8, .inl (fun _ => 0))), (c2, .inl (g.2.1 0, 4, .inl (fun _ => 0))), (p0, .inl (g.2.1 0, 120, .inl (fun _ => 0))), (r0, .inr (4, [.ref t0, .ref h0, .int 0, .int 0])), (t0, .inr (5, [.ref p0, .ref t1, .ref t2, .ref t3, .int 0, .int 0])), (t1, .inl (g.2.1 0, 121, .inl (fun _ => 0))), (t2, .inl (g.2.1 0, 121, .inl (fun _ => 0))), (t3, .inl (g.2.1 0, 121, .inl (fun _ => 0))), (z0, .inl (g.2.1 1, 4, .inr (.inr (.inr (.inr (va_up (va_up (va_up (va_up (fun _ => none) 0 (some e0)) 1 (some e1)) 2 (some e2)) 3 (some e3))))))), (e0, .inr (2, [.ref e4, .int 0, .int 0])), (e4, .inl (g.2.1 0, 40, .inl (fun _ => 0))), (e1, .inr (2, [.ref e5, .int 0, .int 0])), (e5, .inl (g.2.1 0, 40, .inl (fun _ => 0))), (e2, .inr (2, [.ref e6, .int 0, .int 0])), (e6, .inl (g.2.1 0, 40, .inl (fun _ => 0))), (e3, .inr (2, [.ref e7, .int 0, .int 0])), (e7, .inl (g.2.1 0, 40, .inl (fun _ => 0))), (f0, .inl (g.2.1 0, 7, .inl (fun _ => 0))), (m0, .inr (7, [.null, .null, .null, .int 0, .null, .null, .null, .int 0, .int 0, .int 0, .int 0, .int 0, .int 0, .null, .null, .int 0, .int 0, .int 0, .null, .null, .null, .null]))] := hD
  refine W.widen (k := 37) (n := 1183) (Nat.le_of_ble_eq_true rfl) (Nat.le_of_ble_eq_true rfl) ?_
  refine lv_dup hx hb dL_law_11 rfl ?_
  refine Cn.callI (wr := [(v0, .inr (6, [.ref u0, .ref k0, .ref h0, .ref s0, .ref c0, .ref p0, .ref r0, .ref z0, .ref f0, .int (0 : Int32), .int (0 : Int32)])), (u0, .inr (1, [.ref u1, .ref u2, .ref u3, .int 0, .int 0, .int 0, .int 0, .int 0, .int 1])), (u1, .inl (g.2.1 0, 88, .inl (fun _ => 0))), (u2, .inl (g.2.1 0, 24, .inl (fun _ => 0))), (u3, .inl (g.2.1 0, 10, .inl (spk 10))), (k0, .inr (1, [.ref k1, .ref k2, .ref k3, .int 0, .int 0, .int 0, .int 0, .int 0, .int 1])), (k1, .inl (g.2.1 0, 88, .inl (fun _ => 0))), (k2, .inl (g.2.1 0, 24, .inl (fun _ => 0))), (k3, .inl (g.2.1 0, 10, .inl (spk 10))), (h0, .inr (1, [.ref h1, .ref h2, .ref h3, .int 0, .int 0, .int 0, .int 0, .int 0, .int 1])), (h1, .inl (g.2.1 0, 88, .inl (fun _ => 0))), (h2, .inl (g.2.1 0, 24, .inl (fun _ => 0))), (h3, .inl (g.2.1 0, 10, .inl (spk 10))), (s0, .inr (3, [.ref h0, .ref s1, .ref s2, .ref s3, .int 0, .int 0, .int 0, .int 0])), (s1, .inl (g.2.1 0, 5, .inl (fun _ => 0))), (s2, .inl (g.2.1 0, 48, .inl (fun _ => 0))), (s3, .inl (g.2.1 0, 5, .inl (fun _ => 0))), (c0, .inr (0, [.ref h0, .ref c1, .ref c2])), (c1, .inl (g.2.1 0, 8, .inl (fun _ => 0))), (c2, .inl (g.2.1 0, 4, .inl (fun _ => 0))), (p0, .inl (g.2.1 0, 120, .inl (fun _ => 0))), (r0, .inr (4, [.ref t0, .ref h0, .int 0, .int 0])), (t0, .inr (5, [.ref p0, .ref t1, .ref t2, .ref t3, .int 0, .int 0])), (t1, .inl (g.2.1 0, 121, .inl (fun _ => 0))), (t2, .inl (g.2.1 0, 121, .inl (fun _ => 0))), (t3, .inl (g.2.1 0, 121, .inl (fun _ => 0))), (z0, .inl (g.2.1 1, 4, .inr (.inr (.inr (.inr (va_up (va_up (va_up (va_up (fun _ => none) 0 (some e0)) 1 (some e1)) 2 (some e2)) 3 (some e3))))))), (e0, .inr (2, [.ref e4, .int 0, .int 0])), (e4, .inl (g.2.1 0, 40, .inl (fun _ => 0))), (e1, .inr (2, [.ref e5, .int 0, .int 0])), (e5, .inl (g.2.1 0, 40, .inl (fun _ => 0))), (e2, .inr (2, [.ref e6, .int 0, .int 0])), (e6, .inl (g.2.1 0, 40, .inl (fun _ => 0))), (e3, .inr (2, [.ref e7, .int 0, .int 0])), (e7, .inl (g.2.1 0, 40, .inl (fun _ => 0))), (f0, .inl (g.2.1 0, 7, .inl (fun _ => 0)))]) (wi := [(m0, .inr (7, [.null, .null, .null, .int 0, .null, .null, .null, .int 0, .int 0, .int 0, .int 0, .int 0, .int 0, .null, .null, .int 0, .int 0, .int 0, .null, .null, .null, .null]))]) (As := []) (rest := [.ref m0]) (c_X7_init l g m0) (cwI 0 hts ggL_X7_init rfl rfl rfl (hts (.initialized RX7) (List.mem_of_getElem? (i := 78) (by decide +kernel))) (hts (.methodLink RL 12 yX7_init) (List.mem_of_getElem? (i := 897) (by decide +kernel))) (hts (.instanceMethod yX7_init) (List.mem_of_getElem? (i := 898) (by decide +kernel))) rfl (by decide +kernel) ⟨Nat.le_of_ble_eq_true rfl, Nat.le_of_ble_eq_true rfl⟩) ⟨hx, hb, hml, hown, hts⟩ hE hO hP hD hS hA [36] [0, 1, 2, 3, 4, 5, 6, 7, 8, 9, 10, 11, 12, 13, 14, 15, 16, 17, 18, 19, 20, 21, 22, 23, 24, 25, 26, 27, 28, 29, 30, 31, 32, 33, 34, 35] rfl rfl (by decide) (by decide) (by decide) rfl hl.1 rfl (Nat.le_of_ble_eq_true rfl) dL_law_12 ⟨Nat.le_of_ble_eq_true rfl, Nat.le_of_ble_eq_true rfl⟩ (fun wo H locs hSo hP hD hS => ?_)
  obtain ⟨m1, m2, m3, m4, m5, m6, m7, m8, m9, m10, m11, m12, rfl⟩ := hSo
  have hP : va_P g.1 vwK [(v0, .inr (6, [.ref u0, .ref k0, .ref h0, .ref s0, .ref c0, .ref p0, .ref r0, .ref z0, .ref f0, .int (0 : Int32), .int (0 : Int32)])), (u0, .inr (1, [.ref u1, .ref u2, .ref u3, .int 0, .int 0, .int 0, .int 0, .int 0, .int 1])), (u1, .inl (g.2.1 0, 88, .inl (fun _ => 0))), (u2, .inl (g.2.1 0, 24, .inl (fun _ => 0))), (u3, .inl (g.2.1 0, 10, .inl (spk 10))), (k0, .inr (1, [.ref k1, .ref k2, .ref k3, .int 0, .int 0, .int 0, .int 0, .int 0, .int 1])), (k1, .inl (g.2.1 0, 88, .inl (fun _ => 0))), (k2, .inl (g.2.1 0, 24, .inl (fun _ => 0))), (k3, .inl (g.2.1 0, 10, .inl (spk 10))), (h0, .inr (1, [.ref h1, .ref h2, .ref h3, .int 0, .int 0, .int 0, .int 0, .int 0, .int 1])), (h1, .inl (g.2.1 0, 88, .inl (fun _ => 0))), (h2, .inl (g.2.1 0, 24, .inl (fun _ => 0))), (h3, .inl (g.2.1 0, 10, .inl (spk 10))), (s0, .inr (3, [.ref h0, .ref s1, .ref s2, .ref s3, .int 0, .int 0, .int 0, .int 0])), (s1, .inl (g.2.1 0, 5, .inl (fun _ => 0))), (s2, .inl (g.2.1 0, 48, .inl (fun _ => 0))), (s3, .inl (g.2.1 0, 5, .inl (fun _ => 0))), (c0, .inr (0, [.ref h0, .ref c1, .ref c2])), (c1, .inl (g.2.1 0, 8, .inl (fun _ => 0))), (c2, .inl (g.2.1 0, 4, .inl (fun _ => 0))), (p0, .inl (g.2.1 0, 120, .inl (fun _ => 0))), (r0, .inr (4, [.ref t0, .ref h0, .int 0, .int 0])), (t0, .inr (5, [.ref p0, .ref t1, .ref t2, .ref t3, .int 0, .int 0])), (t1, .inl (g.2.1 0, 121, .inl (fun _ => 0))), (t2, .inl (g.2.1 0, 121, .inl (fun _ => 0))), (t3, .inl (g.2.1 0, 121, .inl (fun _ => 0))), (z0, .inl (g.2.1 1, 4, .inr (.inr (.inr (.inr (va_up (va_up (va_up (va_up (fun _ => none) 0 (some e0)) 1 (some e1)) 2 (some e2)) 3 (some e3))))))), (e0, .inr (2, [.ref e4, .int 0, .int 0])), (e4, .inl (g.2.1 0, 40, .inl (fun _ => 0))), (e1, .inr (2, [.ref e5, .int 0, .int 0])), (e5, .inl (g.2.1 0, 40, .inl (fun _ => 0))), (e2, .inr (2, [.ref e6, .int 0, .int 0])), (e6, .inl (g.2.1 0, 40, .inl (fun _ => 0))), (e3, .inr (2, [.ref e7, .int 0, .int 0])), (e7, .inl (g.2.1 0, 40, .inl (fun _ => 0))), (f0, .inl (g.2.1 0, 7, .inl (fun _ => 0))), (m0, .inr (7, [.ref m1, .ref m2, .ref m3, .int 0, .ref m4, .ref m5, .ref m6, .int 0, .int 0, .int 0, .int 0, .int 0, .int 0, .ref m7, .ref m8, .int 0, .int 0, .int 0, .ref m9, .ref m10, .ref m11, .ref m12])), (m1, .inl (g.2.1 0, 120, .inl (nwk 10))), (m2, .inl (g.2.1 0, 120, .inl (fun _ => 0))), (m3, .inl (g.2.1 0, 120, .inl (fun _ => 0))), (m4, .inl (g.2.1 0, 8, .inl (fun _ => 0))), (m5, .inl (g.2.1 0, 4, .inl (fun _ => 0))), (m6, .inl (g.2.1 0, 120, .inl (fun _ => 0))), (m7, .inl (g.2.1 2, 7, .inr (.inr (.inr (.inr (va_up (va_up (va_up (va_up (va_up (va_up (va_up (fun _ => none) 0 (some (g.2.2 (10 + 0)))) 1 (some (g.2.2 (10 + 1)))) 2 (some (g.2.2 (10 + 2)))) 3 (some (g.2.2 (10 + 3)))) 4 (some (g.2.2 (10 + 4)))) 5 (some (g.2.2 (10 + 5)))) 6 (some (g.2.2 (10 + 6))))))))), (m8, .inl (g.2.1 0, 720, .inl (fun _ => 0))), (m9, .inl (g.2.1 0, 4, .inl (fun _ => 0))), (m10, .inl (g.2.1 0, 4, .inl (fun _ => 0))), (m11, .inl (g.2.1 0, 160, .inl (fun _ => 0))), (m12, .inl (g.2.1 0, 40, .inl (fun _ => 0)))] H := hP
  have hD : va_D (fun q : Nat => s.heap.size ≤ q) [(v0, .inr (6, [.ref u0, .ref k0, .ref h0, .ref s0, .ref c0, .ref p0, .ref r0, .ref z0, .ref f0, .int (0 : Int32), .int (0 : Int32)])), (u0, .inr (1, [.ref u1, .ref u2, .ref u3, .int 0, .int 0, .int 0, .int 0, .int 0, .int 1])), (u1, .inl (g.2.1 0, 88, .inl (fun _ => 0))), (u2, .inl (g.2.1 0, 24, .inl (fun _ => 0))), (u3, .inl (g.2.1 0, 10, .inl (spk 10))), (k0, .inr (1, [.ref k1, .ref k2, .ref k3, .int 0, .int 0, .int 0, .int 0, .int 0, .int 1])), (k1, .inl (g.2.1 0, 88, .inl (fun _ => 0))), (k2, .inl (g.2.1 0, 24, .inl (fun _ => 0))), (k3, .inl (g.2.1 0, 10, .inl (spk 10))), (h0, .inr (1, [.ref h1, .ref h2, .ref h3, .int 0, .int 0, .int 0, .int 0, .int 0, .int 1])), (h1, .inl (g.2.1 0, 88, .inl (fun _ => 0))), (h2, .inl (g.2.1 0, 24, .inl (fun _ => 0))), (h3, .inl (g.2.1 0, 10, .inl (spk 10))), (s0, .inr (3, [.ref h0, .ref s1, .ref s2, .ref s3, .int 0, .int 0, .int 0, .int 0])), (s1, .inl (g.2.1 0, 5, .inl (fun _ => 0))), (s2, .inl (g.2.1 0, 48, .inl (fun _ => 0))), (s3, .inl (g.2.1 0, 5, .inl (fun _ => 0))), (c0, .inr (0, [.ref h0, .ref c1, .ref c2])), (c1, .inl (g.2.1 0, 8, .inl (fun _ => 0))), (c2, .inl (g.2.1 0, 4, .inl (fun _ => 0))), (p0, .inl (g.2.1 0, 120, .inl (fun _ => 0))), (r0, .inr (4, [.ref t0, .ref h0, .int 0, .int 0])), (t0, .inr (5, [.ref p0, .ref t1, .ref t2, .ref t3, .int 0, .int 0])), (t1, .inl (g.2.1 0, 121, .inl (fun _ => 0))), (t2, .inl (g.2.1 0, 121, .inl (fun _ => 0))), (t3, .inl (g.2.1 0, 121, .inl (fun _ => 0))), (z0, .inl (g.2.1 1, 4, .inr (.inr (.inr (.inr (va_up (va_up (va_up (va_up (fun _ => none) 0 (some e0)) 1 (some e1)) 2 (some e2)) 3 (some e3))))))), (e0, .inr (2, [.ref e4, .int 0, .int 0])), (e4, .inl (g.2.1 0, 40, .inl (fun _ => 0))), (e1, .inr (2, [.ref e5, .int 0, .int 0])), (e5, .inl (g.2.1 0, 40, .inl (fun _ => 0))), (e2, .inr (2, [.ref e6, .int 0, .int 0])), (e6, .inl (g.2.1 0, 40, .inl (fun _ => 0))), (e3, .inr (2, [.ref e7, .int 0, .int 0])), (e7, .inl (g.2.1 0, 40, .inl (fun _ => 0))), (f0, .inl (g.2.1 0, 7, .inl (fun _ => 0))), (m0, .inr (7, [.ref m1, .ref m2, .ref m3, .int 0, .ref m4, .ref m5, .ref m6, .int 0, .int 0, .int 0, .int 0, .int 0, .int 0, .ref m7, .ref m8, .int 0, .int 0, .int 0, .ref m9, .ref m10, .ref m11, .ref m12])), (m1, .inl (g.2.1 0, 120, .inl (nwk 10))), (m2, .inl (g.2.1 0, 120, .inl (fun _ => 0))), (m3, .inl (g.2.1 0, 120, .inl (fun _ => 0))), (m4, .inl (g.2.1 0, 8, .inl (fun _ => 0))), (m5, .inl (g.2.1 0, 4, .inl (fun _ => 0))), (m6, .inl (g.2.1 0, 120, .inl (fun _ => 0))), (m7, .inl (g.2.1 2, 7, .inr (.inr (.inr (.inr (va_up (va_up (va_up (va_up (va_up (va_up (va_up (fun _ => none) 0 (some (g.2.2 (10 + 0)))) 1 (some (g.2.2 (10 + 1)))) 2 (some (g.2.2 (10 + 2)))) 3 (some (g.2.2 (10 + 3)))) 4 (some (g.2.2 (10 + 4)))) 5 (some (g.2.2 (10 + 5)))) 6 (some (g.2.2 (10 + 6))))))))), (m8, .inl (g.2.1 0, 720, .inl (fun _ => 0))), (m9, .inl (g.2.1 0, 4, .inl (fun _ => 0))), (m10, .inl (g.2.1 0, 4, .inl (fun _ => 0))), (m11, .inl (g.2.1 0, 160, .inl (fun _ => 0))), (m12, .inl (g.2.1 0, 40, .inl (fun _ => 0)))] := hD
  refine W.widen (k := 49) (n := 2610) (Nat.le_of_ble_eq_true rfl) (Nat.le_of_ble_eq_true rfl) ?_
  refine lv_astore_n (lv' := [(2, .ref m0), (1, .ref v0), (0, .ref b)]) hx hb dL_law_15 rfl hl (by decide) rfl (fun ls hl => ?_)
  refine lv_iconst (v := 0) hx hb dL_law_16 (by decide) ?_
  refine lv_istore_n (lv' := [(3, .int 0), (2, .ref m0), (1, .ref v0), (0, .ref b)]) hx hb dL_law_17 rfl hl (by decide) rfl (fun ls hl => ?_)
  refine W.widen (k := 600000) (n := 7302250) (Nat.le_of_ble_eq_true rfl) (Nat.le_of_ble_eq_true rfl) ?_
  obtain ⟨d, hd⟩ : ∃ d : Nat → Nat, d = fun n => [v0, u0, u1, u2, u3, k0, k1, k2, k3, h0, h1, h2, h3, s0, s1, s2, s3, c0, c1, c2, p0, r0, t0, t1, t2, t3, z0, f0, 0, 0, e0, e1, e2, e3, e4, e5, e6, e7, 0, 0, m0, m1, m2, m3, m4, m5, m6, m7, m8, m9, m10, m11, m12].getD n 0 := ⟨_, rfl⟩
  have q0 : ∀ j, j < 4 → (va_up (va_up (va_up (va_up (fun _ => none) 0 (some e0)) 1 (some e1)) 2 (some e2)) 3 (some e3)) j = some (d (30 + j)) := by
    subst hd
    intro j hj
    match j, hj with
    | 0, _ => rfl
    | 1, _ => rfl
    | 2, _ => rfl
    | 3, _ => rfl
    | j + 4, hj => omega
  have q1 : ∀ j, j < 7 → (va_up (va_up (va_up (va_up (va_up (va_up (va_up (fun _ => none) 0 (some (g.2.2 (10 + 0)))) 1 (some (g.2.2 (10 + 1)))) 2 (some (g.2.2 (10 + 2)))) 3 (some (g.2.2 (10 + 3)))) 4 (some (g.2.2 (10 + 4)))) 5 (some (g.2.2 (10 + 5)))) 6 (some (g.2.2 (10 + 6)))) j = some (g.2.2 (10 + j)) := by
    intro j hj
    match j, hj with
    | 0, _ => rfl
    | 1, _ => rfl
    | 2, _ => rfl
    | 3, _ => rfl
    | 4, _ => rfl
    | 5, _ => rfl
    | 6, _ => rfl
    | j + 7, hj => omega
  have hP2 := (hP.rep 26 (y := (z0, .inl (g.2.1 1, 4, .inr (.inr (.inr (.inr (fun j => some (d (30 + j))))))))) rfl (rowq_eq q0)).rep 43 (y := (m7, .inl (g.2.1 2, 7, .inr (.inr (.inr (.inr (fun j => some (g.2.2 (10 + j))))))))) rfl (rowq_eq q1)
  have hD2 := (hD.rep 26 (y := (z0, .inl (g.2.1 1, 4, .inr (.inr (.inr (.inr (fun j => some (d (30 + j))))))))) rfl rfl).rep 43 (y := (m7, .inl (g.2.1 2, 7, .inr (.inr (.inr (.inr (fun j => some (g.2.2 (10 + j))))))))) rfl rfl
  have hW : LW g (fun q : Nat => s.heap.size ≤ q) (wVd g d V0s) (wMd g d M0s) H := by
    subst hd
    exact LW.of hP2 hD2
  refine law_loop l hL C0 g d hE (L + 1) 0 (by omega) (by omega) V0s M0s H locs ls inv_start hW hS ?_
  subst hd
  exact lv_sub hl [3, 2, 1, 0] rfl
