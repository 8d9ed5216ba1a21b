/-! ===== calls ===== -/
def putW : va_W → List Nat → va_W → va_W
  | ws, i :: is, q :: qs => putW (ws.set i q) is qs
  | ws, _, _ => ws
theorem putW_at : ∀ (is : List Nat) (qs ws : va_W), va_nd is = true → ∀ (k : Nat) (q : Nat × va_E), (putW ws is qs)[k]? = some q → (∃ j : Nat, is[j]? = some k ∧ qs[j]? = some q) ∨ ((k ∉ is ∨ qs.length < is.length) ∧ ws[k]? = some q) := by
  intro is
  induction is with
  | nil => intro qs ws _ k q h; exact Or.inr ⟨Or.inl (by simp), by cases qs <;> exact h⟩
  | cons i is ih =>
    intro qs ws hn k q h
    cases qs with
    | nil => exact Or.inr ⟨Or.inr (by simp), h⟩
    | cons q0 qs =>
      have hn' : va_nd is = true := by
        simp only [va_nd, Bool.and_eq_true] at hn; exact hn.2
      have hi : i ∉ is := by
        simp only [va_nd, Bool.and_eq_true, decide_eq_true_eq] at hn; exact hn.1
      rcases ih qs (ws.set i q0) hn' k q h with ⟨j, h1, h2⟩ | ⟨h1, h2⟩
      · exact Or.inl ⟨j + 1, h1, h2⟩
      · by_cases hk : k = i
        · subst hk
          by_cases hl : k < ws.length
          · rw [List.getElem?_set_self hl] at h2
            exact Or.inl ⟨0, rfl, h2⟩
          · rw [List.getElem?_eq_none (by rw [List.length_set]; omega)] at h2
            cases h2
        · rw [List.getElem?_set_ne (fun e => hk e.symm)] at h2
          refine Or.inr ⟨?_, h2⟩
          rcases h1 with h1 | h1
          · exact Or.inl (fun z => by rcases List.mem_cons.mp z with z | z; exact hk z; exact h1 z)
          · exact Or.inr (by simpa using h1)
theorem fm_of_map {α β : Type} (f : α → Option β) : ∀ (l : List α) (m : List β), l.map f = m.map some → l.filterMap f = m := by
  intro l
  induction l with
  | nil => intro m h; cases m with
    | nil => rfl
    | cons a m => cases h
  | cons a l ih => intro m h; cases m with
    | nil => cases h
    | cons b m =>
      simp only [List.map_cons, List.cons.injEq] at h
      rw [List.filterMap_cons, h.1, ih m h.2]
theorem putW_ok {A0 : Nat → Prop} {D : va_G} {cl : List vw_C} {ws wi wo : va_W} {H H1 : Heap} (hP : va_P D cl ws H) (hD : va_D A0 ws) (isC : List Nat) (hC : isC.map (fun i => ws[i]?) = wi.map some) (hnd : va_nd isC = true) (hadr : wi.map (fun q => q.1) = wo.map (fun q => q.1))
    (hk : ∀ q : Nat, q < H.size → ¬ va_A wi H.size q → H1[q]? = H[q]?) (hPo : va_P D cl wo H1) : va_P D cl (putW ws isC wo) H1 ∧ va_D A0 (putW ws isC wo) := by
  have len : isC.length = wi.length := by have := congrArg List.length hC; simpa using this
  have len2 : wi.length = wo.length := by have := congrArg List.length hadr; simpa using this
  have atC : ∀ (j k : Nat), isC[j]? = some k → ∃ q, wi[j]? = some q ∧ ws[k]? = some q := by
    intro j k h
    have h1 : (isC.map (fun i => ws[i]?))[j]? = some (ws[k]?) := by rw [List.getElem?_map, h]; rfl
    rw [hC, List.getElem?_map] at h1
    cases hw : wi[j]? with
    | none => rw [hw] at h1; cases h1
    | some q => rw [hw] at h1; exact ⟨q, rfl, (Option.some.inj h1).symm⟩
  have atO : ∀ (j : Nat) (q : Nat × va_E), wo[j]? = some q → ∃ q0, wi[j]? = some q0 ∧ q0.1 = q.1 := by
    intro j q h
    have h1 : (wo.map (fun q => q.1))[j]? = some q.1 := by rw [List.getElem?_map, h]; rfl
    rw [← hadr, List.getElem?_map] at h1
    cases hw : wi[j]? with
    | none => rw [hw] at h1; cases h1
    | some q0 => rw [hw] at h1; exact ⟨q0, rfl, Option.some.inj h1⟩
  have key : ∀ (k : Nat) (q : Nat × va_E), (putW ws isC wo)[k]? = some q → ∃ q0, ws[k]? = some q0 ∧ q0.1 = q.1 := by
    intro k q h
    rcases putW_at isC wo ws hnd k q h with ⟨j, h1, h2⟩ | ⟨h1, h2⟩
    · obtain ⟨q0, a1, a2⟩ := atO j q h2
      obtain ⟨q1, b1, b2⟩ := atC j k h1
      rw [a1] at b1
      cases b1
      exact ⟨q0, b2, a2⟩
    · exact ⟨q, h2, rfl⟩
  refine ⟨fun k q h => ?_, fun i j p q hi hj hpq => ?_, fun k q h => ?_⟩
  · rcases putW_at isC wo ws hnd k q h with ⟨j, h1, h2⟩ | ⟨h1, h2⟩
    · exact hPo j q h2
    · have hn : k ∉ isC := by
        rcases h1 with h1 | h1
        · exact h1
        · omega
      have hlt := (hP k q h2).lt
      refine (hP k q h2).kept (hk q.1 hlt (fun z => ?_))
      rcases z with ⟨k2, e, z⟩ | z
      · have h3 : (isC.map (fun i => ws[i]?))[k2]? = some (some (q.1, e)) := by rw [hC, List.getElem?_map, z]; rfl
        rw [List.getElem?_map] at h3
        cases hi : isC[k2]? with
        | none => rw [hi] at h3; cases h3
        | some i =>
          rw [hi] at h3
          have h4 : ws[i]? = some (q.1, e) := Option.some.inj h3
          have := hD.1 i k (q.1, e) q h4 h2 rfl
          subst this
          exact hn (List.mem_of_getElem? hi)
      · omega
  · obtain ⟨p0, a1, a2⟩ := key i p hi
    obtain ⟨q0, b1, b2⟩ := key j q hj
    exact hD.1 i j p0 q0 a1 b1 (by rw [a2, b2]; exact hpq)
  · obtain ⟨q0, b1, b2⟩ := key k q h
    rw [← b2]
    exact hD.2 k q0 b1
section CTC
variable {p : Program} {l : Launch} {e : Env} {R : Room} {s : State} {m : MethodId} {args : Array Value} {below : List Frame} {meth : Method} {c : Code} {H : Heap} {locs : List Loc} {Q : State → Prop}
variable {pc : Nat} {ls : Array Slot} {rest st0 : List Value} {a : Array Value} {A : Nat → Prop} {g : gG} {ws wi wo ws' : va_W} {ov : Option Value}
theorem Ct.after (hr : va_Run p l e R s m args below meth c H locs 0 0 0 0 (F0 m pc ls st0) rest (QcG g wi wo ov H.size a) (va_A wi H.size)) (hP : va_P g.1 vwK ws H) (hD : va_D A ws) (hS : va_S A s.heap H locs) (hF : ∀ q, va_A wi H.size q → A q) (isC : List Nat) (hC : isC.map (fun i => ws[i]?) = wi.map some) (hnd : va_nd isC = true) (hadr : wi.map (fun q => q.1) = wo.map (fun q => q.1)) (hput : putW ws isC wo = ws') {st1 : List Value} (hst1 : ov.toList ++ rest = st1)
    (kk : ∀ (H1 : Heap) (locs1 : List Loc), va_P g.1 vwK ws' H1 → va_D A ws' → va_S A s.heap H1 locs1 → W p l e R s m args below meth c H1 locs1 0 0 Q (F0 m (pc + 3) ls st1)) : W p l e R s m args below meth c H locs 0 0 Q (F0 m pc ls st0) := by
  subst hput
  subst hst1
  intro T hT X
  obtain ⟨v, st₀, t, T', L, h0, X', hL, e1, e2, ⟨hv, hPo, hDo, hz, hk⟩, st⟩ := hr T hT X
  cases hv
  rw [h0] at hz hk
  obtain ⟨hp1, hd1⟩ := putW_ok hP hD isC hC hnd hadr hk hPo
  obtain ⟨t2, a1, b1⟩ := kk T'.heap (locs ++ L) (by rw [e1]; exact hp1) hd1
    ⟨Nat.le_trans hS.1 (by rw [e1]; exact hz), fun q h1 h2 => by rw [e1, hk q (Nat.lt_of_lt_of_le h1 hS.1) (fun z => h2 (hF q z))]; exact hS.2.1 q h1 h2, fun q hq => by
      rcases List.mem_append.mp hq with h | h
      · exact hS.2.2 q h
      · exact hF _ (hL q h)⟩ T' rfl X'
  exact ⟨t2, st t2 a1, b1⟩
variable {y : MethodName} {bytes cc : ByteArray} {maxL nL n index F L : Nat} {ret : Option FieldType} {wy : List Cond} {Ts : List Cond} {own C host : String} {b : Nat} {As : List Value}
theorem Ct.pre (hE : EV g A s) (hP : va_P g.1 vwK ws H) (hD : va_D A ws) (hS : va_S A s.heap H locs) (hF : ∀ q, va_A wi H.size q → A q) (isC : List Nat) (hC : isC.map (fun i => ws[i]?) = wi.map some) (hnd : va_nd isC = true) (av : List Value) (U : State) (hU : U.heap = H) (hW : s.WarmedH U.vm) : PcG g wi av H.size av.toArray U :=
  ⟨rfl, by rw [hU], by rw [hU]; exact hP.sub isC (fm_of_map _ _ _ hC), hE.call hS hU hW hF, (hD.sub isC hnd hC).weaken (fun _ _ _ _ => trivial)⟩
theorem Ct.callV (hM : Ct l y wy (rmm F L) g wi wo (.ref b :: As) ov) (cw : CallW R s args own C index y bytes maxL ret wy (rmm F L) 0 0 n) (S : CallFix p m c cc nL s args Ts own) (hE : EV g A s) (hP : va_P g.1 vwK ws H) (hD : va_D A ws) (hS : va_S A s.heap H locs) (hA : ∀ q : Nat, s.heap.size ≤ q → A q) (isC : List Nat) (hC : isC.map (fun i => ws[i]?) = wi.map some) (hnd : va_nd isC = true) (hadr : wi.map (fun q => q.1) = wo.map (fun q => q.1)) (hput : putW ws isC wo = ws')
    (ci q0 : Nat) {qc : vw_C} {fs : List Value} (hc : vwK[ci]? = some qc) (he : ws[q0]? = some (b, .inr (ci, fs))) (hC2 : qc.1 = C) (hn : As.length = n) (hsize : ls.size = nL) (hst : st0 = As.reverse ++ .ref b :: rest) {st1 : List Value} (hst1 : ov.toList ++ rest = st1) (hW : (rest.map fun v => v.category).sum ≤ 8) (hdg : decode cc pc = .ok (.invokevirtual index, 3))
    (kk : ∀ (H1 : Heap) (locs1 : List Loc), va_P g.1 vwK ws' H1 → va_D A ws' → va_S A s.heap H1 locs1 → W p l e R s m args below meth c H1 locs1 0 0 Q (F0 m (pc + 3) ls st1)) : W p l e R s m args below meth c H locs 0 0 Q (F0 m pc ls st0) := by
  subst hC2
  have hF := va_free hD hS hA isC hC
  exact Ct.after (va_runV (As := As) (rest := rest) S (hM H.size) cw ⟨PcG_blind, va_recv hE.1 hP hc he, fun U hU hW => Ct.pre hE hP hD hS hF isC hC hnd _ U hU hW⟩ rfl hn hsize hst (lv_room hW) hdg ⟨Nat.zero_le _, Nat.zero_le _⟩) hP hD hS hF isC hC hnd hadr hput hst1 kk
theorem Ct.callVN (hM : Ct l y wy (rmm F L) g wi wo (.ref b :: As) ov) (cw : va_CN R s args own index y host bytes maxL ret wy (rmm F L) 0 0 n ∧ (Cond.instanceMethod y).before args s = true ∧ (Cond.selects C y y).before args s = true) (S : CallFix p m c cc nL s args Ts own) (hE : EV g A s) (hP : va_P g.1 vwK ws H) (hD : va_D A ws) (hS : va_S A s.heap H locs) (hA : ∀ q : Nat, s.heap.size ≤ q → A q) (isC : List Nat) (hC : isC.map (fun i => ws[i]?) = wi.map some) (hnd : va_nd isC = true) (hadr : wi.map (fun q => q.1) = wo.map (fun q => q.1)) (hput : putW ws isC wo = ws')
    (ci q0 : Nat) {qc : vw_C} {fs : List Value} (hc : vwK[ci]? = some qc) (he : ws[q0]? = some (b, .inr (ci, fs))) (hC2 : qc.1 = C) (hn : As.length = n) (hsize : ls.size = nL) (hst : st0 = As.reverse ++ .ref b :: rest) {st1 : List Value} (hst1 : ov.toList ++ rest = st1) (hW : (rest.map fun v => v.category).sum ≤ 8) (hdg : decode cc pc = .ok (.invokevirtual index, 3))
    (kk : ∀ (H1 : Heap) (locs1 : List Loc), va_P g.1 vwK ws' H1 → va_D A ws' → va_S A s.heap H1 locs1 → W p l e R s m args below meth c H1 locs1 0 0 Q (F0 m (pc + 3) ls st1)) : W p l e R s m args below meth c H locs 0 0 Q (F0 m pc ls st0) := by
  subst hC2
  have hF := va_free hD hS hA isC hC
  exact Ct.after (va_runVN (As := As) (rest := rest) S (hM H.size) cw ⟨PcG_blind, va_recv hE.1 hP hc he, fun U hU hW => Ct.pre hE hP hD hS hF isC hC hnd _ U hU hW⟩ rfl hn hsize hst (lv_room hW) hdg ⟨Nat.zero_le _, Nat.zero_le _⟩) hP hD hS hF isC hC hnd hadr hput hst1 kk
theorem Ct.callS (hM : Ct l y wy (rmm F L) g wi wo As ov) (cw : CallB R s args own index y bytes maxL ret wy (rmm F L) 0 0 n ∧ (Cond.static y).before args s = true) (S : CallFix p m c cc nL s args Ts own) (hE : EV g A s) (hP : va_P g.1 vwK ws H) (hD : va_D A ws) (hS : va_S A s.heap H locs) (hA : ∀ q : Nat, s.heap.size ≤ q → A q) (isC : List Nat) (hC : isC.map (fun i => ws[i]?) = wi.map some) (hnd : va_nd isC = true) (hadr : wi.map (fun q => q.1) = wo.map (fun q => q.1)) (hput : putW ws isC wo = ws')
    (hn : As.length = n) (hsize : ls.size = nL) (hst : st0 = As.reverse ++ rest) {st1 : List Value} (hst1 : ov.toList ++ rest = st1) (hW : (rest.map fun v => v.category).sum ≤ 8) (hdg : decode cc pc = .ok (.invokestatic index, 3))
    (kk : ∀ (H1 : Heap) (locs1 : List Loc), va_P g.1 vwK ws' H1 → va_D A ws' → va_S A s.heap H1 locs1 → W p l e R s m args below meth c H1 locs1 0 0 Q (F0 m (pc + 3) ls st1)) : W p l e R s m args below meth c H locs 0 0 Q (F0 m pc ls st0) := by
  have hF := va_free hD hS hA isC hC
  exact Ct.after (va_runS (As := As) (rest := rest) S (hM H.size) cw ⟨PcG_blind, fun U hU hW => Ct.pre hE hP hD hS hF isC hC hnd _ U hU hW⟩ rfl hn hsize hst (lv_room hW) hdg ⟨Nat.zero_le _, Nat.zero_le _⟩) hP hD hS hF isC hC hnd hadr hput hst1 kk
theorem Ct.callSN (hM : Ct l y wy (rmm F L) g wi wo As ov) (cw : va_CN R s args own index y host bytes maxL ret wy (rmm F L) 0 0 n ∧ (Cond.static y).before args s = true ∧ True) (S : CallFix p m c cc nL s args Ts own) (hE : EV g A s) (hP : va_P g.1 vwK ws H) (hD : va_D A ws) (hS : va_S A s.heap H locs) (hA : ∀ q : Nat, s.heap.size ≤ q → A q) (isC : List Nat) (hC : isC.map (fun i => ws[i]?) = wi.map some) (hnd : va_nd isC = true) (hadr : wi.map (fun q => q.1) = wo.map (fun q => q.1)) (hput : putW ws isC wo = ws')
    (hn : As.length = n) (hsize : ls.size = nL) (hst : st0 = As.reverse ++ rest) {st1 : List Value} (hst1 : ov.toList ++ rest = st1) (hW : (rest.map fun v => v.category).sum ≤ 8) (hdg : decode cc pc = .ok (.invokestatic index, 3))
    (kk : ∀ (H1 : Heap) (locs1 : List Loc), va_P g.1 vwK ws' H1 → va_D A ws' → va_S A s.heap H1 locs1 → W p l e R s m args below meth c H1 locs1 0 0 Q (F0 m (pc + 3) ls st1)) : W p l e R s m args below meth c H locs 0 0 Q (F0 m pc ls st0) := by
  have hF := va_free hD hS hA isC hC
  exact Ct.after (va_runSN (As := As) (rest := rest) S (hM H.size) cw ⟨PcG_blind, fun U hU hW => Ct.pre hE hP hD hS hF isC hC hnd _ U hU hW⟩ rfl hn hsize hst (lv_room hW) hdg ⟨Nat.zero_le _, Nat.zero_le _⟩) hP hD hS hF isC hC hnd hadr hput hst1 kk
end CTC
section STS
variable {p : Program} {l : Launch} {e : Env} {R : Room} {s : State} {m : MethodId} {args : Array Value} {below : List Frame} {meth : Method} {c : Code} {H : Heap} {locs : List Loc} {cells slots : Nat} {Q : State → Prop}
variable {cc : ByteArray} {pc : Nat} {ls : Array Slot} {rest : List Value} {D : va_G} {cl : List vw_C} {A : Nat → Prop} {a : Nat} {tys : List (ClassId × FieldType)} {ws ws' : va_W} {H0 : Heap}
theorem st_iald (hexec : p.tables.exec = Jvm.exec) (hb : c.code = cc) (hK : va_K D cl tys s) (hP : va_P D cl ws H) (q0 t0 : Nat) {cA : ClassId} {n : Nat} {f : Nat → Int32} (ha : ws[q0]? = some (a, .inl (cA, n, .inl f))) (ht : tys[t0]? = some (cA, .int)) {i x : Int32} (hin : vp_in i n) (ex : x = f i.toNatClampNeg) (hdg : decode cc pc = .ok (.iaload, 1))
    (kk : W p l e R s m args below meth c H locs cells slots Q (F0 m (pc + 1) ls (.int x :: rest))) : W p l e R s m args below meth c H locs cells slots Q (F0 m pc ls (.int i :: .ref a :: rest)) := by
  subst ex
  exact va_iald hexec hb hK hP q0 t0 ha ht hin hdg kk
theorem st_iast (hexec : p.tables.exec = Jvm.exec) (hb : c.code = cc) (hK : va_K D cl tys s) (hP : va_P D cl ws H) (hD : va_D A ws) (hS : va_S A H0 H locs) (q0 t0 : Nat) {cA : ClassId} {n : Nat} {f f2 : Nat → Int32} (ha : ws[q0]? = some (a, .inl (cA, n, .inl f))) (ht : tys[t0]? = some (cA, .int)) {i : Int32} {x : Int32} (hin : vp_in i n) (ef : f2 = upd f i.toNatClampNeg x) (hput : ws.set q0 (a, .inl (cA, n, .inl f2)) = ws') (hdg : decode cc pc = .ok (.iastore, 1))
    (kk : ∀ (H1 : Heap) (locs1 : List Loc), va_P D cl ws' H1 → va_D A ws' → va_S A H0 H1 locs1 → W p l e R s m args below meth c H1 locs1 cells slots Q (F0 m (pc + 1) ls rest)) : W p l e R s m args below meth c H locs cells slots Q (F0 m pc ls (.int x :: .int i :: .ref a :: rest)) := by
  subst ef
  subst hput
  exact va_iast hexec hb hK hP hD hS q0 t0 ha ht hin hdg kk
end STS
theorem ts_in {x : Int32} (k : Int32) {lo : Int} (h : x = k) (h2 : ¬ k.toInt < lo) : ¬ x.toInt < lo := by rw [h]; exact h2
theorem ts_hi {x : Int32} (k : Int32) {hi : Int} (h : x = k) (h2 : ¬ hi < k.toInt) : ¬ hi < x.toInt := by rw [h]; exact h2
theorem ts_of {x : Int32} (k : Int32) {offs : Array Int} {lo off : Int} (h : x = k) (h2 : offs[(k.toInt - lo).toNat]? = some off) : offs[(x.toInt - lo).toNat]? = some off := by rw [h]; exact h2
/-- a boolean is 0 or 1 -/
def nb {β : Type} (y : Int32) (k : Option β) : Option β := if y &&& 1 = y then k else none
/-- the turns that a loop has at the most -/
def fu : Nat := 1000000
theorem nb_s {β : Type} {y : Int32} {k : Option β} {r : β} (h : nb y k = some r) : y &&& 1 = y ∧ k = some r := by
  unfold nb at h
  by_cases c : y &&& 1 = y
  · rw [if_pos c] at h; exact ⟨c, h⟩
  · rw [if_neg c] at h; cases h
theorem Ct.zret {p : Program} {l : Launch} {e : Env} {R : Room} {s : State} {m : MethodId} {args : Array Value} {below : List Frame} {meth : Method} {c : Code} {H : Heap} {locs : List Loc} {cc : ByteArray} {g : gG} {wi wo : va_W} {v : Int32} {A : Nat → Prop} (hx : p.tables.exec = Jvm.exec) (hb : c.code = cc) (hr : meth.sig.returnType = some .boolean) (hn : v &&& 1 = v) (hlocks : meth.locks = false) (hA : va_A wi s.heap.size = A) (hP : va_P g.1 vwK wo H) (hD : va_D A wo) (hS : va_S A s.heap H locs) {pc : Nat} {ls : Array Slot} (hdg : decode cc pc = .ok (.ireturn, 1)) :
    W p l e R s m args below meth c H locs 0 0 (MQ below (QcG g wi wo (some (.int v)) s.heap.size) args s 0 0 A) (F0 m pc ls [.int v]) := by
  subst hA
  exact W.zret hx hb hr (show Value.int (v &&& 1) = Value.int v by rw [hn]) (fun t ht hW => ⟨rfl, by rw [ht]; exact hP, hD, hS.F ht⟩) hS.2.2 hdg hlocks
