/-! ===== constructors: they make cells ===== -/
abbrev rmx (F C S L : Nat) : Room := { frames := F, cells := C, slots := S, locals := L }
abbrev aoX (U : State) : Prop := va_AO "RainVault$Sheet" U ∧ va_AO "java/lang/String" U
abbrev PcX (g : gG) (wi : va_W) (av : List Value) (sz : Nat) : Array Value → State → Prop := va_Pc av (fun U => U.heap.size = sz ∧ va_P g.1 vwK wi U.heap ∧ EV g (va_A wi sz) U ∧ aoX U ∧ va_D (fun _ => True) wi)
abbrev QcX (g : gG) (wi : va_W) (S : va_W → Prop) (sz : Nat) : Array Value → State → Outcome → State → Prop := fun _ st oc t => ∃ wo, S wo ∧ oc = .returned none ∧ va_P g.1 vwK wo t.heap ∧ va_D (va_A wi sz) wo ∧ va_F (va_A wi sz) st t
def Cn (l : Launch) (y : MethodName) (ws : List Cond) (F L : Nat) (g : gG) (wi : va_W) (av : List Value) (S : va_W → Prop) (mc ms : Nat) : Prop := ∀ sz : Nat, Met l y ws (rmx F mc ms L) (PcX g wi av sz) (QcX g wi S sz) mc ms (va_A wi sz)
theorem PcX_blind {g : gG} {wi : va_W} {av : List Value} {sz : Nat} : FrameBlind (PcX g wi av sz) := by
  intro a U gg mk h
  obtain ⟨h1, h2, h3, h4, h6, h5⟩ := h
  exact ⟨h1, h2, h3, h4.same rfl rfl, ⟨va_AO.moved (u := U) (Vm.Alike.refl U.vm) h6.1, va_AO.moved (u := U) (Vm.Alike.refl U.vm) h6.2⟩, h5⟩
theorem Cn.mk {l : Launch} {y : MethodName} {ws ws' : List Cond} {F L : Nat} {g : gG} {wi : va_W} {av : List Value} {S : va_W → Prop} {mc ms : Nat} {cc : ByteArray} {maxL : Nat} (hy : plainName y.cls = true) (hy2 : y.name = "<init>") (hw : ws = Cond.code y cc maxL none :: ws') (hn : (lg_sl av).length ≤ maxL)
    (body : ∀ (p : Program) (e : Env) (s : State) (m : MethodId) (args : Array Value) (below : List Frame) (meth : Method) (c : Code) (A : Nat → Prop) (ls : Array Slot), p.tables.exec = Jvm.exec → c.code = cc → meth.sig.returnType = none → c.maxLocals = maxL → (∀ w ∈ ws, w.before args s = true) → s.vm.findClass y.cls = some m.cls → meth.locks = false → meth.name = "<init>" → (∀ q : Nat, s.heap.size ≤ q → A q) → EV g A s → aoX s → va_P g.1 vwK wi s.heap → va_D A wi → va_S A s.heap s.heap [] → lv_has ls maxL (lv_args 0 av) → va_A wi s.heap.size = A →
      W p l e (rmx F mc ms L) s m args below meth c s.heap [] 0 0 (MQ below (QcX g wi S s.heap.size) args s mc ms A) (F0 m 0 ls [])) : Cn l y ws F L g wi av S mc ms := by
  intro sz
  refine Met.ofW (cc := cc) (maxL := maxL) (ret := none) hy hw ?_
  intro p e s m args below meth c s₁ B hml hv
  obtain ⟨rfl, hsz, hP, hE, hO, hD0⟩ := hv
  subst hsz
  have hts := atoms_spec (ws := ws) B.pre
  have hl := lv_entry av (n := maxL) hn
  have hin : meth.name = "<init>" := (name_of_methodNamed B.named B.method).1.trans hy2
  rw [lg_entry_eq]
  exact body p e s m _ below meth c _ _ B.exec B.bytes B.returns hml hts (findClass_of_methodNamed B.named) B.notSynchronized hin (fun q h => Or.inr h) hE hO hP hD0.self va_S.rf hl rfl
section XC
variable {p : Program} {l : Launch} {e : Env} {R : Room} {s : State} {m : MethodId} {args : Array Value} {below : List Frame} {meth : Method} {c : Code} {H : Heap} {locs : List Loc} {cells slots : Nat} {Q : State → Prop}
variable {cc : ByteArray} {pc : Nat} {ls : Array Slot} {rest st0 : List Value} {g : gG} {A : Nat → Prop} {ws wr wi : va_W} {H0 : Heap}
theorem xc_vret {S : va_W → Prop} {mc ms : Nat} (hx : p.tables.exec = Jvm.exec) (hb : c.code = cc) (hr : meth.sig.returnType = none) (hlocks : meth.locks = false) (hA : va_A wi s.heap.size = A) {wo : va_W} (hSo : S wo) (hP : va_P g.1 vwK wo H) (hD : va_D A wo) (hS : va_S A s.heap H locs) (hc : cells ≤ mc) (hs : slots ≤ ms) (hdg : decode cc pc = .ok (.return_, 1)) :
    W p l e R s m args below meth c H locs cells slots (MQ below (QcX g wi S s.heap.size) args s mc ms A) (F0 m pc ls []) := by
  subst hA
  exact W.widen hc hs (W.vret hx hb hr (fun t ht hW => ⟨wo, hSo, rfl, by rw [ht]; exact hP, hD, hS.F ht⟩) hS.2.2 hdg hlocks)
theorem xc_newa (hexec : p.tables.exec = Jvm.exec) (hb : c.code = cc) (harr : (Cond.arrayClass .int).before args s = true) (hK : va_K g.1 vwK (tysG g) s) (hP : va_P g.1 vwK ws H) (hD : va_D A ws) (hS : va_S A H0 H locs) (hA : ∀ q, H0.size ≤ q → A q) {n : Int32} {N : Nat} (hn : ¬ n < 0) (hN : n.toNatClampNeg = N) (hbytes : N * componentBytes .int ≤ 536870912) (hcells : cells + 1 ≤ R.cells) (hslots : slots + N ≤ R.slots) (hdg : decode cc pc = .ok (.newarray .int, 2))
    (kk : ∀ (q : Nat) (H1 : Heap), va_P g.1 vwK (ws ++ [(q, .inl (g.2.1 0, N, .inl (fun _ => 0)))]) H1 → va_D A (ws ++ [(q, .inl (g.2.1 0, N, .inl (fun _ => 0)))]) → va_S A H0 H1 locs → W p l e R s m args below meth c H1 locs (cells + 1) (slots + N) Q (F0 m (pc + 2) ls (.ref q :: rest))) : W p l e R s m args below meth c H locs cells slots Q (F0 m pc ls (.int n :: rest)) := by
  refine va_newa (a0 := (N, .inl (fun _ => 0))) (atype := .int) (ty := .int) (N' := N) hexec hb harr rfl hK hP hD hS hA (fun cA => ?_) hn hN hbytes hcells hslots hdg (fun q cA H1 hK1 hP1 hD1 hS1 => ?_)
  · rw [vp_cell_i]; rfl
  · have h1 := va_nm_int (hK1.2 3 (cA, .int) rfl).2
    have h0 := va_nm_int (hK.2 0 (g.2.1 0, .int) rfl).2
    have e : cA = g.2.1 0 := Option.some.inj (h1.symm.trans h0)
    subst e
    exact kk q H1 hP1 hD1 hS1
theorem xc_newq (hexec : p.tables.exec = Jvm.exec) (hb : c.code = cc) {own C : String} {index : Nat} (hown : s.vm.findClass own = some m.cls) (hclink : (Cond.classLink own index C).before args s = true) (hover : va_AO C s) (hK : va_K g.1 vwK (tysG g) s) (t0 : Nat) (ht : (tysG g)[t0]? = some (g.2.1 t0, .object C)) (hP : va_P g.1 vwK ws H) (hD : va_D A ws) (hS : va_S A H0 H locs) (hA : ∀ q, H0.size ≤ q → A q) {n : Int32} {N : Nat} (hn : ¬ n < 0) (hN : n.toNatClampNeg = N) (hbytes : N * 4 ≤ 536870912) (hcells : cells + 1 ≤ R.cells) (hslots : slots + N ≤ R.slots) (hdg : decode cc pc = .ok (.anewarray index, 3))
    (kk : ∀ (q : Nat) (H1 : Heap), va_P g.1 vwK (ws ++ [(q, .inl (g.2.1 t0, N, .inr (.inr (.inr (.inr (fun _ => none))))))]) H1 → va_D A (ws ++ [(q, .inl (g.2.1 t0, N, .inr (.inr (.inr (.inr (fun _ => none))))))]) → va_S A H0 H1 locs → W p l e R s m args below meth c H1 locs (cells + 1) (slots + N) Q (F0 m (pc + 3) ls (.ref q :: rest))) : W p l e R s m args below meth c H locs cells slots Q (F0 m pc ls (.int n :: rest)) := by
  refine va_newq hexec hb hown hclink hover hK hP hD hS hA hn hN hbytes hcells hslots hdg (fun q cA H1 hK1 hP1 hD1 hS1 => ?_)
  have h1 := va_nmO (hK1.2 3 (cA, .object C) rfl).2 rfl
  have h0 := va_nmO (hK.2 t0 _ ht).2 rfl
  have e : cA = g.2.1 t0 := Option.some.inj (h1.symm.trans h0)
  subst e
  exact kk q H1 hP1 hD1 hS1
theorem Cn.after {S : va_W → Prop} {mc ms : Nat} {a : Array Value} (hr : va_Run p l e R s m args below meth c H locs cells slots mc ms (F0 m pc ls st0) rest (QcX g wi S H.size a) (va_A wi H.size)) (hP : va_P g.1 vwK ws H) (hD : va_D A ws) (hS : va_S A s.heap H locs) (hF : ∀ q, va_A wi H.size q → A q) (isC isR : List Nat) (hC : isC.map (fun i => ws[i]?) = wi.map some) (hR : isR.map (fun i => ws[i]?) = wr.map some) (hnR : va_nd isR = true) (hdis : ∀ i ∈ isR, i ∉ isC)
    (kk : ∀ (wo : va_W) (H1 : Heap) (locs1 : List Loc), S wo → va_P g.1 vwK (wr ++ wo) H1 → va_D A (wr ++ wo) → va_S A s.heap H1 locs1 → W p l e R s m args below meth c H1 locs1 (cells + mc) (slots + ms) Q (F0 m (pc + 3) ls rest)) : W p l e R s m args below meth c H locs cells slots Q (F0 m pc ls st0) := by
  intro T hT X
  obtain ⟨v, st₀, t, T', L, h0, X', hL, e1, e2, ⟨wo, hSo, hv, hPo, hDo, hz, hk⟩, st⟩ := hr T hT X
  cases hv
  rw [h0] at hz hk
  obtain ⟨hp1, hd1⟩ := va_join hP hD isC isR hC hR hnR hdis hk hF hPo hDo
  obtain ⟨t2, a1, b1⟩ := kk wo T'.heap (locs ++ L) hSo (by rw [e1]; exact hp1) hd1
    ⟨Nat.le_trans hS.1 (by rw [e1]; exact hz), fun q h1 h2 => by rw [e1, hk q (Nat.lt_of_lt_of_le h1 hS.1) (fun z => h2 (hF q z))]; exact hS.2.1 q h1 h2, fun q hq => by
      rcases List.mem_append.mp hq with h | h
      · exact hS.2.2 q h
      · exact hF _ (hL q h)⟩ T' rfl X'
  exact ⟨t2, st t2 a1, b1⟩
theorem Cn.pre (hE : EV g A s) (hO : aoX s) (hP : va_P g.1 vwK ws H) (hD : va_D A ws) (hS : va_S A s.heap H locs) (hF : ∀ q, va_A wi H.size q → A q) (isC : List Nat) (hC : isC.map (fun i => ws[i]?) = wi.map some) (hnd : va_nd isC = true) (av : List Value) (U : State) (hU : U.heap = H) (hW : s.WarmedH U.vm) : PcX g wi av H.size av.toArray U :=
  ⟨rfl, by rw [hU], by rw [hU]; exact hP.sub isC (fm_of_map _ _ _ hC), hE.call hS hU hW hF, ⟨va_AO.moved hW.alike hO.1, va_AO.moved hW.alike hO.2⟩, (hD.sub isC hnd hC).weaken (fun _ _ _ _ => trivial)⟩
variable {y : MethodName} {bytes : ByteArray} {maxL nL n index F L mc ms : Nat} {wy Ts : List Cond} {own host : String} {b : Nat} {As : List Value} {S : va_W → Prop}
theorem Cn.callI (hM : Cn l y wy F L g wi (.ref b :: As) S mc ms) (cw : CallB R s args own index y bytes maxL none wy (rmx F mc ms L) mc ms n ∧ y.name = "<init>" ∧ (Cond.instanceMethod y).before args s = true) (S0 : CallFix p m c cc nL s args Ts own) (hE : EV g A s) (hO : aoX s) (hP : va_P g.1 vwK ws H) (hD : va_D A ws) (hS : va_S A s.heap H locs) (hA : ∀ q : Nat, s.heap.size ≤ q → A q) (isC isR : List Nat) (hC : isC.map (fun i => ws[i]?) = wi.map some) (hR : isR.map (fun i => ws[i]?) = wr.map some) (hnd : va_nd isC = true) (hnR : va_nd isR = true) (hdis : ∀ i ∈ isR, i ∉ isC)
    (hn : As.length = n) (hsize : ls.size = nL) (hst : st0 = As.reverse ++ .ref b :: rest) (hW : (rest.map fun v => v.category).sum ≤ 8) (hdg : decode cc pc = .ok (.invokespecial index, 3)) (hf : cells + mc ≤ R.cells ∧ slots + ms ≤ R.slots)
    (kk : ∀ (wo : va_W) (H1 : Heap) (locs1 : List Loc), S wo → va_P g.1 vwK (wr ++ wo) H1 → va_D A (wr ++ wo) → va_S A s.heap H1 locs1 → W p l e R s m args below meth c H1 locs1 (cells + mc) (slots + ms) Q (F0 m (pc + 3) ls rest)) : W p l e R s m args below meth c H locs cells slots Q (F0 m pc ls st0) := by
  have hF := va_free hD hS hA isC hC
  exact Cn.after (va_runI (As := As) (rest := rest) S0 (hM H.size) cw ⟨PcX_blind, fun U hU hW => Cn.pre hE hO hP hD hS hF isC hC hnd _ U hU hW⟩ rfl hn hsize hst (lv_room hW) hdg hf) hP hD hS hF isC isR hC hR hnR hdis kk
theorem Cn.callIN (hM : Cn l y wy F L g wi (.ref b :: As) S mc ms) (cw : va_CN R s args own index y host bytes maxL none wy (rmx F mc ms L) mc ms n ∧ y.name = "<init>" ∧ (Cond.instanceMethod y).before args s = true) (S0 : CallFix p m c cc nL s args Ts own) (hE : EV g A s) (hO : aoX s) (hP : va_P g.1 vwK ws H) (hD : va_D A ws) (hS : va_S A s.heap H locs) (hA : ∀ q : Nat, s.heap.size ≤ q → A q) (isC isR : List Nat) (hC : isC.map (fun i => ws[i]?) = wi.map some) (hR : isR.map (fun i => ws[i]?) = wr.map some) (hnd : va_nd isC = true) (hnR : va_nd isR = true) (hdis : ∀ i ∈ isR, i ∉ isC)
    (hn : As.length = n) (hsize : ls.size = nL) (hst : st0 = As.reverse ++ .ref b :: rest) (hW : (rest.map fun v => v.category).sum ≤ 8) (hdg : decode cc pc = .ok (.invokespecial index, 3)) (hf : cells + mc ≤ R.cells ∧ slots + ms ≤ R.slots)
    (kk : ∀ (wo : va_W) (H1 : Heap) (locs1 : List Loc), S wo → va_P g.1 vwK (wr ++ wo) H1 → va_D A (wr ++ wo) → va_S A s.heap H1 locs1 → W p l e R s m args below meth c H1 locs1 (cells + mc) (slots + ms) Q (F0 m (pc + 3) ls rest)) : W p l e R s m args below meth c H locs cells slots Q (F0 m pc ls st0) := by
  have hF := va_free hD hS hA isC hC
  exact Cn.after (va_runIN (As := As) (rest := rest) S0 (hM H.size) cw ⟨PcX_blind, fun U hU hW => Cn.pre hE hO hP hD hS hF isC hC hnd _ U hU hW⟩ rfl hn hsize hst (lv_room hW) hdg hf) hP hD hS hF isC isR hC hR hnR hdis kk
end XC
/-- a text may lie in a row of texts -/
theorem EV.any {g : gG} {A : Nat → Prop} {s : State} {H : Heap} {locs : List Loc} {j : Nat} (hE : EV g A s) (hj : j < 15) (hS : va_S A s.heap H locs) : va_Any "java/lang/String" s H (g.2.2 (10 + j)) := by
  obtain ⟨cell, h1, h2, h3⟩ := hE.recv hj hS
  obtain ⟨kC, hkC, -⟩ := Vm.findClass_spec h3
  exact ⟨cell, h1, h2, ⟨kC, hkC⟩, fun comp h => by rw [Option.some.inj (h.symm.trans h3)]; exact va_asg _ _⟩
/-- spots in the making -/
def spk : Nat → Nat → Int32
  | 0 => fun _ => 0
  | k + 1 => upd (spk k) k (-1)
/-- the model's numbers in the making -/
def nwk : Nat → Nat → Int32
  | 0 => upd (fun _ => 0) 5 1
  | k + 1 => upd (nwk k) (6 + k) (-1)
