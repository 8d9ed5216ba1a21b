/-! ===== texts: constants of String, their length and chars ===== -/
def rz {β : Type} (n : Nat) (i : Int32) (k : Nat → Option β) : Option β := if ¬ (i < 0 ∨ n ≤ i.toNatClampNeg) then k i.toNatClampNeg else none
theorem rz_s {β : Type} {n : Nat} {i : Int32} {k : Nat → Option β} {r : β} (h : rz n i k = some r) : ∃ j : Nat, j = i.toNatClampNeg ∧ vp_in i n ∧ k j = some r := by
  unfold rz at h
  by_cases c : ¬ (i < 0 ∨ n ≤ i.toNatClampNeg)
  · rw [if_pos c] at h; exact ⟨_, rfl, c, h⟩
  · rw [if_neg c] at h; cases h
def fJ0_length_8abf5 (j : Nat) : Option Int32 := if j < 15 then some (Int32.ofNat (sLen.getD j 0)) else none
def fJ0_charAt_5068e (j : Nat) (i : Int32) : Option Int32 := if j < 15 then (if ¬ (i < 0 ∨ sLen.getD j 0 ≤ i.toNatClampNeg) then some ((sByt.getD j []).getD i.toNatClampNeg 0) else none) else none
theorem jl_len {j : Nat} {x : Int32} (h : fJ0_length_8abf5 j = some x) : j < 15 := by
  unfold fJ0_length_8abf5 at h
  by_cases c : j < 15
  · exact c
  · rw [if_neg c] at h; cases h
theorem jl_char {j : Nat} {i x : Int32} (h : fJ0_charAt_5068e j i = some x) : j < 15 := by
  unfold fJ0_charAt_5068e at h
  by_cases c : j < 15
  · exact c
  · rw [if_neg c] at h; cases h
theorem EV.recv {g : gG} {A : Nat → Prop} {s : State} {H : Heap} {locs : List Loc} {j : Nat} (hE : EV g A s) (hj : j < 15) (hS : va_S A s.heap H locs) : ∃ cell : Cell, H[g.2.2 (10 + j)]? = some cell ∧ cell.vm.isStatics = false ∧ s.vm.findClass "java/lang/String" = some cell.cls :=
  vk_recv (adK := fun i => g.2.2 (10 + i)) (i := j) hE.2.2.2.2.2.1 hj hS
theorem EV.tx0 {g : gG} {A : Nat → Prop} {s : State} (hE : EV g A s) : vk_R "RainVault$Tokens" 101 "lock" (g.2.2 (10 + 12)) s := hE.2.2.2.2.2.2.1 ("RainVault$Tokens", 101, "lock", 12) (List.mem_of_getElem? (i := 0) rfl)
theorem EV.tx1 {g : gG} {A : Nat → Prop} {s : State} (hE : EV g A s) : vk_R "RainVault$Tokens" 103 "cold" (g.2.2 (10 + 13)) s := hE.2.2.2.2.2.2.1 ("RainVault$Tokens", 103, "cold", 13) (List.mem_of_getElem? (i := 1) rfl)
theorem EV.tx2 {g : gG} {A : Nat → Prop} {s : State} (hE : EV g A s) : vk_R "RainVault$Tokens" 105 "warm" (g.2.2 (10 + 14)) s := hE.2.2.2.2.2.2.1 ("RainVault$Tokens", 105, "warm", 14) (List.mem_of_getElem? (i := 2) rfl)
theorem EV.tx3 {g : gG} {A : Nat → Prop} {s : State} (hE : EV g A s) : vk_R "RainVault$Tokens" 107 "cistern" (g.2.2 (10 + 0)) s := hE.2.2.2.2.2.2.1 ("RainVault$Tokens", 107, "cistern", 0) (List.mem_of_getElem? (i := 3) rfl)
theorem EV.tx4 {g : gG} {A : Nat → Prop} {s : State} (hE : EV g A s) : vk_R "RainVault$Tokens" 79 "siphon" (g.2.2 (10 + 1)) s := hE.2.2.2.2.2.2.1 ("RainVault$Tokens", 79, "siphon", 1) (List.mem_of_getElem? (i := 4) rfl)
theorem EV.tx5 {g : gG} {A : Nat → Prop} {s : State} (hE : EV g A s) : vk_R "RainVault$Tokens" 81 "slow" (g.2.2 (10 + 2)) s := hE.2.2.2.2.2.2.1 ("RainVault$Tokens", 81, "slow", 2) (List.mem_of_getElem? (i := 5) rfl)
theorem EV.tx6 {g : gG} {A : Nat → Prop} {s : State} (hE : EV g A s) : vk_R "RainVault$Tokens" 83 "tipped" (g.2.2 (10 + 3)) s := hE.2.2.2.2.2.2.1 ("RainVault$Tokens", 83, "tipped", 3) (List.mem_of_getElem? (i := 6) rfl)
theorem EV.tx7 {g : gG} {A : Nat → Prop} {s : State} (hE : EV g A s) : vk_R "RainVault$Tokens" 85 "false" (g.2.2 (10 + 4)) s := hE.2.2.2.2.2.2.1 ("RainVault$Tokens", 85, "false", 4) (List.mem_of_getElem? (i := 7) rfl)
theorem EV.tx8 {g : gG} {A : Nat → Prop} {s : State} (hE : EV g A s) : vk_R "RainVault$Tokens" 87 "frozen" (g.2.2 (10 + 5)) s := hE.2.2.2.2.2.2.1 ("RainVault$Tokens", 87, "frozen", 5) (List.mem_of_getElem? (i := 8) rfl)
theorem EV.tx9 {g : gG} {A : Nat → Prop} {s : State} (hE : EV g A s) : vk_R "RainVault$Tokens" 89 "ice" (g.2.2 (10 + 6)) s := hE.2.2.2.2.2.2.1 ("RainVault$Tokens", 89, "ice", 6) (List.mem_of_getElem? (i := 9) rfl)
theorem EV.tx10 {g : gG} {A : Nat → Prop} {s : State} (hE : EV g A s) : vk_R "RainVault$Tokens" 91 "high" (g.2.2 (10 + 7)) s := hE.2.2.2.2.2.2.1 ("RainVault$Tokens", 91, "high", 7) (List.mem_of_getElem? (i := 10) rfl)
theorem EV.tx11 {g : gG} {A : Nat → Prop} {s : State} (hE : EV g A s) : vk_R "RainVault$Tokens" 93 "level" (g.2.2 (10 + 8)) s := hE.2.2.2.2.2.2.1 ("RainVault$Tokens", 93, "level", 8) (List.mem_of_getElem? (i := 11) rfl)
theorem EV.tx12 {g : gG} {A : Nat → Prop} {s : State} (hE : EV g A s) : vk_R "RainVault$Tokens" 95 "leak" (g.2.2 (10 + 9)) s := hE.2.2.2.2.2.2.1 ("RainVault$Tokens", 95, "leak", 9) (List.mem_of_getElem? (i := 12) rfl)
theorem EV.tx13 {g : gG} {A : Nat → Prop} {s : State} (hE : EV g A s) : vk_R "RainVault$Tokens" 97 "to" (g.2.2 (10 + 10)) s := hE.2.2.2.2.2.2.1 ("RainVault$Tokens", 97, "to", 10) (List.mem_of_getElem? (i := 13) rfl)
theorem EV.tx14 {g : gG} {A : Nat → Prop} {s : State} (hE : EV g A s) : vk_R "RainVault$Tokens" 99 "catch" (g.2.2 (10 + 11)) s := hE.2.2.2.2.2.2.1 ("RainVault$Tokens", 99, "catch", 11) (List.mem_of_getElem? (i := 14) rfl)
theorem EV.tx15 {g : gG} {A : Nat → Prop} {s : State} (hE : EV g A s) : vk_R "RainVaultModel" 275 "catch" (g.2.2 (10 + 11)) s := hE.2.2.2.2.2.2.1 ("RainVaultModel", 275, "catch", 11) (List.mem_of_getElem? (i := 15) rfl)
theorem EV.tx16 {g : gG} {A : Nat → Prop} {s : State} (hE : EV g A s) : vk_R "RainVaultModel" 287 "lock" (g.2.2 (10 + 12)) s := hE.2.2.2.2.2.2.1 ("RainVaultModel", 287, "lock", 12) (List.mem_of_getElem? (i := 16) rfl)
theorem EV.tx17 {g : gG} {A : Nat → Prop} {s : State} (hE : EV g A s) : vk_R "RainVaultModel" 292 "cold" (g.2.2 (10 + 13)) s := hE.2.2.2.2.2.2.1 ("RainVaultModel", 292, "cold", 13) (List.mem_of_getElem? (i := 17) rfl)
theorem EV.tx18 {g : gG} {A : Nat → Prop} {s : State} (hE : EV g A s) : vk_R "RainVaultModel" 294 "warm" (g.2.2 (10 + 14)) s := hE.2.2.2.2.2.2.1 ("RainVaultModel", 294, "warm", 14) (List.mem_of_getElem? (i := 18) rfl)
theorem EV.tx19 {g : gG} {A : Nat → Prop} {s : State} (hE : EV g A s) : vk_R "RainVaultModel" 296 "high" (g.2.2 (10 + 7)) s := hE.2.2.2.2.2.2.1 ("RainVaultModel", 296, "high", 7) (List.mem_of_getElem? (i := 19) rfl)
theorem EV.tx20 {g : gG} {A : Nat → Prop} {s : State} (hE : EV g A s) : vk_R "RainVaultModel" 30 "cistern" (g.2.2 (10 + 0)) s := hE.2.2.2.2.2.2.1 ("RainVaultModel", 30, "cistern", 0) (List.mem_of_getElem? (i := 20) rfl)
theorem EV.tx21 {g : gG} {A : Nat → Prop} {s : State} (hE : EV g A s) : vk_R "RainVaultModel" 302 "level" (g.2.2 (10 + 8)) s := hE.2.2.2.2.2.2.1 ("RainVaultModel", 302, "level", 8) (List.mem_of_getElem? (i := 21) rfl)
theorem EV.tx22 {g : gG} {A : Nat → Prop} {s : State} (hE : EV g A s) : vk_R "RainVaultModel" 304 "leak" (g.2.2 (10 + 9)) s := hE.2.2.2.2.2.2.1 ("RainVaultModel", 304, "leak", 9) (List.mem_of_getElem? (i := 22) rfl)
theorem EV.tx23 {g : gG} {A : Nat → Prop} {s : State} (hE : EV g A s) : vk_R "RainVaultModel" 306 "to" (g.2.2 (10 + 10)) s := hE.2.2.2.2.2.2.1 ("RainVaultModel", 306, "to", 10) (List.mem_of_getElem? (i := 23) rfl)
theorem EV.tx24 {g : gG} {A : Nat → Prop} {s : State} (hE : EV g A s) : vk_R "RainVaultModel" 32 "siphon" (g.2.2 (10 + 1)) s := hE.2.2.2.2.2.2.1 ("RainVaultModel", 32, "siphon", 1) (List.mem_of_getElem? (i := 24) rfl)
theorem EV.tx25 {g : gG} {A : Nat → Prop} {s : State} (hE : EV g A s) : vk_R "RainVaultModel" 34 "slow" (g.2.2 (10 + 2)) s := hE.2.2.2.2.2.2.1 ("RainVaultModel", 34, "slow", 2) (List.mem_of_getElem? (i := 25) rfl)
theorem EV.tx26 {g : gG} {A : Nat → Prop} {s : State} (hE : EV g A s) : vk_R "RainVaultModel" 36 "tipped" (g.2.2 (10 + 3)) s := hE.2.2.2.2.2.2.1 ("RainVaultModel", 36, "tipped", 3) (List.mem_of_getElem? (i := 26) rfl)
theorem EV.tx27 {g : gG} {A : Nat → Prop} {s : State} (hE : EV g A s) : vk_R "RainVaultModel" 38 "false" (g.2.2 (10 + 4)) s := hE.2.2.2.2.2.2.1 ("RainVaultModel", 38, "false", 4) (List.mem_of_getElem? (i := 27) rfl)
theorem EV.tx28 {g : gG} {A : Nat → Prop} {s : State} (hE : EV g A s) : vk_R "RainVaultModel" 40 "frozen" (g.2.2 (10 + 5)) s := hE.2.2.2.2.2.2.1 ("RainVaultModel", 40, "frozen", 5) (List.mem_of_getElem? (i := 28) rfl)
theorem EV.tx29 {g : gG} {A : Nat → Prop} {s : State} (hE : EV g A s) : vk_R "RainVaultModel" 42 "ice" (g.2.2 (10 + 6)) s := hE.2.2.2.2.2.2.1 ("RainVaultModel", 42, "ice", 6) (List.mem_of_getElem? (i := 29) rfl)
section STX
variable {p : Program} {l : Launch} {e : Env} {R : Room} {s : State} {m : MethodId} {args : Array Value} {below : List Frame} {meth : Method} {c : Code} {H : Heap} {locs : List Loc} {cells slots : Nat} {Q : State → Prop}
variable {cc : ByteArray} {pc : Nat} {ls : Array Slot} {rest : List Value} {D : va_G} {cl : List vw_C} {A : Nat → Prop} {a : Nat} {tys : List (ClassId × FieldType)} {ws ws' : va_W} {H0 : Heap}
theorem st_aldz (hexec : p.tables.exec = Jvm.exec) (hb : c.code = cc) (hK : va_K D cl tys s) (hP : va_P D cl ws H) (q0 t0 : Nat) {cA : ClassId} {C : String} {n j : Nat} {f : Nat → Nat} (ha : ws[q0]? = some (a, .inl (cA, n, .inr (.inr (.inr (.inr (fun j => some (f j)))))))) (ht : tys[t0]? = some (cA, .object C)) {i : Int32} (hin : vp_in i n) (ej : j = i.toNatClampNeg) (hdg : decode cc pc = .ok (.aaload, 1))
    (kk : W p l e R s m args below meth c H locs cells slots Q (F0 m (pc + 1) ls (.ref (f j) :: rest))) : W p l e R s m args below meth c H locs cells slots Q (F0 m pc ls (.int i :: .ref a :: rest)) := by
  subst ej
  exact va_aldq hexec hb hK hP q0 t0 ha ht hin hdg kk
theorem va_ldcwS {T : State} (X : Stand p l e R s m args below meth c T locs cells slots) (hexec : p.tables.exec = Jvm.exec) {own text : String} {index : Nat} {a : Addr} (hown : s.vm.findClass own = some m.cls)
    (hconst : (Cond.stringRef own index text).before args s = true) (hev : (Term.string own index).eval args s none [] s = some (.ref a)) {g : JFrame} (hg : g.method = m) (hdg : decode c.code g.pc = .ok (.ldc_w index, 3)) :
    ∀ target, Steps p.tables e below (T.setTop { g with pc := g.pc + 3, stack := .ref a :: g.stack }) target → Steps p.tables e below (T.setTop g) target := by
  obtain ⟨k, cf, i, a', hk, hcf, hcp, -, hr, hev'⟩ := Cond.stringRef_spec hown hconst
  cases hev.symm.trans hev'
  obtain ⟨k', hk', he⟩ := X.warmed.alike.2.2 _ _ hk
  have hr' : k'.resolved[index]? = some (some (.string a)) := by
    rcases X.warmed.entry hk hk' index with h | ⟨h, -⟩
    · rw [h]; exact hr
    · rw [hr] at h; cases h
  intro target hrest
  subst hg
  jvm_step X.here [hexec, hdg, ldc_w.wp_string (e := e) (s := T) (f := g) X.here.top hk' (by rw [he]; exact hcf) hcp hr']
  exact hrest
theorem lv_ldcSw (hexec : p.tables.exec = Jvm.exec) (hb : c.code = cc) {own tx : String} {index q : Nat} (hown : s.vm.findClass own = some m.cls) (hZ : vk_R own index tx q s) (hdg : decode cc pc = .ok (.ldc_w index, 3))
    (k : W p l e R s m args below meth c H locs cells slots Q (F0 m (pc + 3) ls (.ref q :: rest))) : W p l e R s m args below meth c H locs cells slots Q (F0 m pc ls rest) := by
  intro T hT X
  obtain ⟨t, a1, b1⟩ := k T hT X
  exact ⟨t, va_ldcwS X hexec hown (text := tx) (a := q) hZ.1 hZ.2 (g := F0 m pc ls rest) rfl (by rw [hb]; exact hdg) t a1, b1⟩
end STX
section CTR
variable {p : Program} {l : Launch} {e : Env} {R : Room} {s : State} {m : MethodId} {args : Array Value} {below : List Frame} {meth : Method} {c : Code} {H : Heap} {locs : List Loc} {Q : State → Prop}
variable {pc : Nat} {ls : Array Slot} {rest st0 : List Value} {a : Array Value} {A : Nat → Prop} {g : gG} {ws wi wo ws' : va_W} {ov : Option Value}
variable {y : MethodName} {bytes cc : ByteArray} {maxL nL n index F L : Nat} {ret : Option FieldType} {wy : List Cond} {Ts : List Cond} {own C host : String} {b : Nat} {As : List Value}
theorem Ct.callR (hM : Ct l y wy (rmm F L) g wi wo (.ref b :: As) ov) (cw : CallW R s args own C index y bytes maxL ret wy (rmm F L) 0 0 n) (S : CallFix p m c cc nL s args Ts own) (hE : EV g A s) (hP : va_P g.1 vwK ws H) (hD : va_D A ws) (hS : va_S A s.heap H locs) (hA : ∀ q : Nat, s.heap.size ≤ q → A q) (isC : List Nat) (hC : isC.map (fun i => ws[i]?) = wi.map some) (hnd : va_nd isC = true) (hadr : wi.map (fun q => q.1) = wo.map (fun q => q.1)) (hput : putW ws isC wo = ws')
    (hrecv : ∃ cell : Cell, H[b]? = some cell ∧ cell.vm.isStatics = false ∧ s.vm.findClass C = some cell.cls) (hn : As.length = n) (hsize : ls.size = nL) (hst : st0 = As.reverse ++ .ref b :: rest) {st1 : List Value} (hst1 : ov.toList ++ rest = st1) (hW : (rest.map fun v => v.category).sum ≤ 8) (hdg : decode cc pc = .ok (.invokevirtual index, 3))
    (kk : ∀ (H1 : Heap) (locs1 : List Loc), va_P g.1 vwK ws' H1 → va_D A ws' → va_S A s.heap H1 locs1 → W p l e R s m args below meth c H1 locs1 0 0 Q (F0 m (pc + 3) ls st1)) : W p l e R s m args below meth c H locs 0 0 Q (F0 m pc ls st0) := by
  have hF := va_free hD hS hA isC hC
  exact Ct.after (va_runV (As := As) (rest := rest) S (hM H.size) cw ⟨PcG_blind, hrecv, fun U hU hW => Ct.pre hE hP hD hS hF isC hC hnd _ U hU hW⟩ rfl hn hsize hst (lv_room hW) hdg ⟨Nat.zero_le _, Nat.zero_le _⟩) hP hD hS hF isC hC hnd hadr hput hst1 kk
theorem Ct.nret {wi wo : va_W} {v : Int32} {ty : FieldType} (hx : p.tables.exec = Jvm.exec) (hb : c.code = cc) (hr : meth.sig.returnType = some ty) (hn : narrow ty (.int v) = .int v) (hlocks : meth.locks = false) (hA : va_A wi s.heap.size = A) (hP : va_P g.1 vwK wo H) (hD : va_D A wo) (hS : va_S A s.heap H locs) {pc : Nat} {ls : Array Slot} (hdg : decode cc pc = .ok (.ireturn, 1)) :
    W p l e R s m args below meth c H locs 0 0 (MQ below (QcG g wi wo (some (.int v)) s.heap.size) args s 0 0 A) (F0 m pc ls [.int v]) := by
  subst hA
  exact W.zret hx hb hr hn (fun t ht hW => ⟨rfl, by rw [ht]; exact hP, hD, hS.F ht⟩) hS.2.2 hdg hlocks
theorem Ct.aret {wi wo : va_W} {q : Nat} {rt : FieldType} (hx : p.tables.exec = Jvm.exec) (hb : c.code = cc) (hr : meth.sig.returnType = some rt) (hrt : (∃ n, rt = .object n) ∨ ∃ t, rt = .array t) (hlocks : meth.locks = false) (hA : va_A wi s.heap.size = A) (hP : va_P g.1 vwK wo H) (hD : va_D A wo) (hS : va_S A s.heap H locs) {pc : Nat} {ls : Array Slot} (hdg : decode cc pc = .ok (.areturn, 1)) :
    W p l e R s m args below meth c H locs 0 0 (MQ below (QcG g wi wo (some (.ref q)) s.heap.size) args s 0 0 A) (F0 m pc ls [.ref q]) := by
  subst hA
  exact W.aret hx hb hr hrt (Or.inr ⟨q, rfl⟩) (fun t ht hW => ⟨rfl, by rw [ht]; exact hP, hD, hS.F ht⟩) hS.2.2 hdg hlocks
end CTR
theorem q_J0_coder_7d493 : yJ0_coder_7d493.cls = RJ0 ∧ yJ0_coder_7d493.cls ≠ "java/lang/invoke/MethodHandle" ∧ yJ0_coder_7d493.cls ≠ "java/lang/invoke/VarHandle" ∧ (parseMethodDescriptor yJ0_coder_7d493.desc).map (fun d => d.parameters.length) = some 0 := by decide +kernel
theorem q_J0_isLatin1_aae02 : yJ0_isLatin1_aae02.cls = RJ0 ∧ yJ0_isLatin1_aae02.cls ≠ "java/lang/invoke/MethodHandle" ∧ yJ0_isLatin1_aae02.cls ≠ "java/lang/invoke/VarHandle" ∧ (parseMethodDescriptor yJ0_isLatin1_aae02.desc).map (fun d => d.parameters.length) = some 0 := by decide +kernel
theorem q_J0_length_8abf5 : yJ0_length_8abf5.cls = RJ0 ∧ yJ0_length_8abf5.cls ≠ "java/lang/invoke/MethodHandle" ∧ yJ0_length_8abf5.cls ≠ "java/lang/invoke/VarHandle" ∧ (parseMethodDescriptor yJ0_length_8abf5.desc).map (fun d => d.parameters.length) = some 0 := by decide +kernel
theorem q_J0_charAt_5068e : yJ0_charAt_5068e.cls = RJ0 ∧ yJ0_charAt_5068e.cls ≠ "java/lang/invoke/MethodHandle" ∧ yJ0_charAt_5068e.cls ≠ "java/lang/invoke/VarHandle" ∧ (parseMethodDescriptor yJ0_charAt_5068e.desc).map (fun d => d.parameters.length) = some 1 := by decide +kernel
theorem q_J3_checkIndex_8e157 : yJ3_checkIndex_8e157.cls = RJ3 ∧ yJ3_checkIndex_8e157.cls ≠ "java/lang/invoke/MethodHandle" ∧ yJ3_checkIndex_8e157.cls ≠ "java/lang/invoke/VarHandle" ∧ (parseMethodDescriptor yJ3_checkIndex_8e157.desc).map (fun d => d.parameters.length) = some 3 := by decide +kernel
theorem q_J0_checkIndex_df160 : yJ0_checkIndex_df160.cls = RJ0 ∧ yJ0_checkIndex_df160.cls ≠ "java/lang/invoke/MethodHandle" ∧ yJ0_checkIndex_df160.cls ≠ "java/lang/invoke/VarHandle" ∧ (parseMethodDescriptor yJ0_checkIndex_df160.desc).map (fun d => d.parameters.length) = some 2 := by decide +kernel
theorem q_J1_charAt_3b067 : yJ1_charAt_3b067.cls = RJ1 ∧ yJ1_charAt_3b067.cls ≠ "java/lang/invoke/MethodHandle" ∧ yJ1_charAt_3b067.cls ≠ "java/lang/invoke/VarHandle" ∧ (parseMethodDescriptor yJ1_charAt_3b067.desc).map (fun d => d.parameters.length) = some 2 := by decide +kernel
theorem c_J0_coder (l : Launch) (g : gG) (j : Nat) (hj : j < 15) : Ct l yJ0_coder_7d493 wsJ0_coder_7d493 (rmm 0 0) g (wNil g) (wNil g) [.ref (g.2.2 (10 + j))] (some (.int 0)) := by
  refine Ct.mk (by decide) rfl (Nat.le_of_ble_eq_true rfl) ?_
  intro p e s m args below meth c A ls hx hb hr hml hts hown hlocks hA hE hP hD hS hl hAe
  have hown : s.vm.findClass RJ0 = some m.cls := hown
  have hl : lv_has ls 1 [(0, .ref (g.2.2 (10 + j)))] := hl
  have w1 := hts (.fieldLink RJ0 38 "java/lang/String" "COMPACT_STRINGS" "Z") (List.mem_of_getElem? (i := 1) rfl)
  have w2 := hts (.fieldLink RJ0 15 "java/lang/String" "coder" "B") (List.mem_of_getElem? (i := 2) rfl)
  refine va_gets hx hb hE.2.2.2.2.2.2.2.1 hS hown w1 (fun _ h9 => h9) dJ0_coder_7d493_0 ?_
  refine lv_if_eq (tgt := 13) hx hb dJ0_coder_7d493_3 (by decide) (fun hc => absurd hc (by decide)) (fun hc => ?_)
  refine lv_aload_n hx hb dJ0_coder_7d493_6 rfl (lv_at hl 0 rfl) ?_
  refine vk_getf hx hb (hE.2.2.2.2.2.1.1 j hj).2.1 hS hown w2 (fun _ h9 => h9) dJ0_coder_7d493_7 ?_
  refine lv_goto (tgt := 14) hx hb dJ0_coder_7d493_10 (by decide) ?_
  exact Ct.nret hx hb hr rfl hlocks hAe hP hD hS dJ0_coder_7d493_14
theorem c_J0_isLatin1 (l : Launch) (g : gG) (j : Nat) (hj : j < 15) : Ct l yJ0_isLatin1_aae02 wsJ0_isLatin1_aae02 (rmm 0 0) g (wNil g) (wNil g) [.ref (g.2.2 (10 + j))] (some (.int 1)) := by
  refine Ct.mk (by decide) rfl (Nat.le_of_ble_eq_true rfl) ?_
  intro p e s m args below meth c A ls hx hb hr hml hts hown hlocks hA hE hP hD hS hl hAe
  have hown : s.vm.findClass RJ0 = some m.cls := hown
  have hl : lv_has ls 1 [(0, .ref (g.2.2 (10 + j)))] := hl
  have w1 := hts (.fieldLink RJ0 38 "java/lang/String" "COMPACT_STRINGS" "Z") (List.mem_of_getElem? (i := 1) rfl)
  have w2 := hts (.fieldLink RJ0 15 "java/lang/String" "coder" "B") (List.mem_of_getElem? (i := 2) rfl)
  refine va_gets hx hb hE.2.2.2.2.2.2.2.1 hS hown w1 (fun _ h9 => h9) dJ0_isLatin1_aae02_0 ?_
  refine lv_if_eq (tgt := 17) hx hb dJ0_isLatin1_aae02_3 (by decide) (fun hc => absurd hc (by decide)) (fun hc => ?_)
  refine lv_aload_n hx hb dJ0_isLatin1_aae02_6 rfl (lv_at hl 0 rfl) ?_
  refine vk_getf hx hb (hE.2.2.2.2.2.1.1 j hj).2.1 hS hown w2 (fun _ h9 => h9) dJ0_isLatin1_aae02_7 ?_
  refine lv_if_ne (tgt := 17) hx hb dJ0_isLatin1_aae02_10 (by decide) (fun hc => absurd rfl hc) (fun hc => ?_)
  refine lv_iconst (v := 1) hx hb dJ0_isLatin1_aae02_13 (by decide) ?_
  refine lv_goto (tgt := 18) hx hb dJ0_isLatin1_aae02_14 (by decide) ?_
  exact Ct.nret hx hb hr rfl hlocks hAe hP hD hS dJ0_isLatin1_aae02_18
theorem c_J0_length_8abf5 (l : Launch) (g : gG) (j : Nat) {r : Int32} (hf : fJ0_length_8abf5 j = some r) : Ct l yJ0_length_8abf5 wsJ0_length_8abf5 (rmm 3 120) g (wNil g) (wNil g) [.ref (g.2.2 (10 + j))] (some (.int r)) := by
  have hj := jl_len hf
  unfold fJ0_length_8abf5 at hf
  rw [if_pos hj] at hf
  cases hf
  refine Ct.mk (by decide) rfl (Nat.le_of_ble_eq_true rfl) ?_
  intro p e s m args below meth c A ls hx hb hr hml hts hown hlocks hA hE hP hD hS hl hAe
  have hown : s.vm.findClass RJ0 = some m.cls := hown
  have hl : lv_has ls 1 [(0, .ref (g.2.2 (10 + j)))] := hl
  have w1 := hts (.fieldLink RJ0 9 "java/lang/String" "value" "[B") (List.mem_of_getElem? (i := 1) rfl)
  refine lv_aload_n hx hb dJ0_length_8abf5_0 rfl (lv_at hl 0 rfl) ?_
  refine vk_getf hx hb (hE.2.2.2.2.2.1.1 j hj).2.2.1 hS hown w1 (fun _ h9 => h9) dJ0_length_8abf5_1 ?_
  refine va_tlen hx hb (hE.2.2.2.2.2.1.1 j hj).2.2.2 hS rfl dJ0_length_8abf5_4 ?_
  refine lv_aload_n hx hb dJ0_length_8abf5_5 rfl (lv_at hl 0 rfl) ?_
  refine Ct.callR (ws' := wNil g) (As := []) (rest := [.int (Int32.ofNat (sLen.getD j 0))]) (st1 := [.int 0, .int (Int32.ofNat (sLen.getD j 0))]) (c_J0_coder l g j hj) (cwV 0 hts gJ0_length_8abf5_J0_coder_7d493 rfl rfl rfl q_J0_coder_7d493 ⟨Nat.le_of_ble_eq_true rfl, Nat.le_of_ble_eq_true rfl⟩) ⟨hx, hb, hml, hown, hts⟩ hE hP hD hS hA [] rfl rfl rfl rfl (hE.recv hj hS) rfl hl.1 rfl rfl (Nat.le_of_ble_eq_true rfl) dJ0_length_8abf5_6 (fun H locs hP hD hS => ?_)
  refine lv_ishr hx hb dJ0_length_8abf5_9 ?_
  rw [sb_shr0]
  exact Ct.iret hx hb hr hlocks hAe hP hD hS dJ0_length_8abf5_10
theorem c_J3_checkIndex (l : Launch) (g : gG) (i n : Int32) (o : Option Nat) (h0 : ¬ i < 0) (h1 : i < n) : Ct l yJ3_checkIndex_8e157 wsJ3_checkIndex_8e157 (rmm 0 0) g (wNil g) (wNil g) [.int i, .int n, va_rf o] (some (.int i)) := by
  cases o <;>
  · refine Ct.mk (by decide) rfl (Nat.le_of_ble_eq_true rfl) ?_
    intro p e s m args below meth c A ls hx hb hr hml hts hown hlocks hA hE hP hD hS hl hAe
    have hl : lv_has ls 3 [(0, .int i), (1, .int n)] := lv_sub hl [0, 1] rfl
    refine lv_iload_n hx hb dJ3_checkIndex_8e157_0 rfl (lv_at hl 0 rfl) ?_
    refine lv_if_lt (tgt := 9) hx hb dJ3_checkIndex_8e157_1 (by decide) (fun hc => absurd hc h0) (fun hc => ?_)
    refine lv_iload_n hx hb dJ3_checkIndex_8e157_4 rfl (lv_at hl 0 rfl) ?_
    refine lv_iload_n hx hb dJ3_checkIndex_8e157_5 rfl (lv_at hl 1 rfl) ?_
    refine lv_icmp_lt (tgt := 16) hx hb dJ3_checkIndex_8e157_6 (by decide) (fun hc => ?_) (fun hc => absurd h1 hc)
    refine lv_iload_n hx hb dJ3_checkIndex_8e157_16 rfl (lv_at hl 0 rfl) ?_
    exact Ct.iret hx hb hr hlocks hAe hP hD hS dJ3_checkIndex_8e157_17
theorem c_J0_checkIndex (l : Launch) (g : gG) (i n : Int32) (h0 : ¬ i < 0) (h1 : i < n) : Ct l yJ0_checkIndex_df160 wsJ0_checkIndex_df160 (rmm 1 40) g (wNil g) (wNil g) [.int i, .int n] none := by
  refine Ct.mk (by decide) rfl (Nat.le_of_ble_eq_true rfl) ?_
  intro p e s m args below meth c A ls hx hb hr hml hts hown hlocks hA hE hP hD hS hl hAe
  have hown : s.vm.findClass RJ0 = some m.cls := hown
  have hl : lv_has ls 2 [(0, .int i), (1, .int n)] := hl
  have w1 := hts (.fieldLink RJ0 1053 "jdk/internal/util/Preconditions" "SIOOBE_FORMATTER" "Ljava/util/function/BiFunction;") (List.mem_of_getElem? (i := 1) rfl)
  refine lv_iload_n hx hb dJ0_checkIndex_df160_0 rfl (lv_at hl 0 rfl) ?_
  refine lv_iload_n hx hb dJ0_checkIndex_df160_1 rfl (lv_at hl 1 rfl) ?_
  obtain ⟨o, hZ⟩ : ∃ o : Option Nat, va_Z "jdk/internal/util/Preconditions" "SIOOBE_FORMATTER" "Ljava/util/function/BiFunction;" (va_rf o) A s s.heap := by
    rcases hE.2.2.2.2.2.2.2.2 with h | ⟨t, h⟩
    · exact ⟨none, h⟩
    · exact ⟨some t, h⟩
  refine va_gets hx hb hZ hS hown w1 (fun _ h9 => h9) dJ0_checkIndex_df160_2 ?_
  refine Ct.callS (ws' := wNil g) (As := [.int i, .int n, va_rf o]) (rest := []) (st1 := [.int i]) (c_J3_checkIndex l g i n o h0 h1) (va_cwS 3 hts gJ0_checkIndex_df160_J3_checkIndex_8e157 rfl rfl rfl q_J3_checkIndex_8e157.2 ⟨Nat.le_of_ble_eq_true rfl, Nat.le_of_ble_eq_true rfl⟩) ⟨hx, hb, hml, hown, hts⟩ hE hP hD hS hA [] rfl rfl rfl rfl rfl hl.1 rfl rfl (Nat.le_of_ble_eq_true rfl) dJ0_checkIndex_df160_5 (fun H locs hP hD hS => ?_)
  refine lv_pop hx hb dJ0_checkIndex_df160_8 rfl ?_
  exact Ct.vret hx hb hr hlocks hAe hP hD hS dJ0_checkIndex_df160_9
theorem sT_ch : ∀ j, j < 15 → ∀ k, k < sLen.getD j 0 → ((((sByt.getD j []).getD k 0) &&& 255).toUInt32 % 65536).toInt32 = (sByt.getD j []).getD k 0 := by decide +kernel
theorem sT_nr : ∀ j, j < 15 → ∀ k, k < sLen.getD j 0 → ((sByt.getD j []).getD k 0).toUInt32.toUInt16.toUInt32.toInt32 = (sByt.getD j []).getD k 0 := by decide +kernel
theorem sT_len : ∀ j, j < 15 → sLen.getD j 0 < 2147483648 := by decide +kernel
theorem c_J1_charAt (l : Launch) (g : gG) (j : Nat) (hj : j < 15) (i : Int32) (hi : vp_in i (sLen.getD j 0)) : Ct l yJ1_charAt_3b067 wsJ1_charAt_3b067 (rmm 2 80) g (wNil g) (wNil g) [.ref (g.2.2 (30 + j)), .int i] (some (.int ((sByt.getD j []).getD i.toNatClampNeg 0))) := by
  have hlt : i.toNatClampNeg < sLen.getD j 0 := Nat.not_le.mp fun q => hi (Or.inr q)
  have h0 : ¬ i < 0 := fun q => hi (Or.inl q)
  have h1 : i < Int32.ofNat (sLen.getD j 0) := by
    obtain ⟨n, hn, rfl⟩ := nI_of h0
    rw [nI_clamp hn] at hlt
    exact nI_lt hlt (sT_len j hj)
  refine Ct.mk (by decide) rfl (Nat.le_of_ble_eq_true rfl) ?_
  intro p e s m args below meth c A ls hx hb hr hml hts hown hlocks hA hE hP hD hS hl hAe
  have hown : s.vm.findClass RJ1 = some m.cls := hown
  have hl : lv_has ls 2 [(0, .ref (g.2.2 (30 + j))), (1, .int i)] := hl
  refine lv_iload_n hx hb dJ1_charAt_3b067_0 rfl (lv_at hl 1 rfl) ?_
  refine lv_aload_n hx hb dJ1_charAt_3b067_1 rfl (lv_at hl 0 rfl) ?_
  refine va_tlen hx hb (hE.2.2.2.2.2.1.1 j hj).2.2.2 hS rfl dJ1_charAt_3b067_2 ?_
  refine Ct.callS (ws' := wNil g) (As := [.int i, .int (Int32.ofNat (sLen.getD j 0))]) (rest := []) (st1 := []) (c_J0_checkIndex l g i (Int32.ofNat (sLen.getD j 0)) h0 h1) (va_cwS 2 hts gJ1_charAt_3b067_J0_checkIndex_df160 rfl rfl rfl q_J0_checkIndex_df160.2 ⟨Nat.le_of_ble_eq_true rfl, Nat.le_of_ble_eq_true rfl⟩) ⟨hx, hb, hml, hown, hts⟩ hE hP hD hS hA [] rfl rfl rfl rfl rfl hl.1 rfl rfl (Nat.le_of_ble_eq_true rfl) dJ1_charAt_3b067_3 (fun H locs hP hD hS => ?_)
  refine lv_aload_n hx hb dJ1_charAt_3b067_6 rfl (lv_at hl 0 rfl) ?_
  refine lv_iload_n hx hb dJ1_charAt_3b067_7 rfl (lv_at hl 1 rfl) ?_
  refine va_tb hx hb (hE.2.2.2.2.2.1.1 j hj).2.2.2 hS hi rfl dJ1_charAt_3b067_8 ?_
  refine lv_sipush (v := 255) hx hb dJ1_charAt_3b067_9 (by decide) ?_
  refine lv_iand hx hb dJ1_charAt_3b067_12 ?_
  refine lv_i2c hx hb dJ1_charAt_3b067_13 (sT_ch j hj _ hlt) ?_
  exact Ct.nret hx hb hr (show Value.int _ = Value.int _ by rw [sT_nr j hj _ hlt]) hlocks hAe hP hD hS dJ1_charAt_3b067_14
theorem c_J0_charAt_5068e (l : Launch) (g : gG) (j : Nat) (i : Int32) {r : Int32} (hf : fJ0_charAt_5068e j i = some r) : Ct l yJ0_charAt_5068e wsJ0_charAt_5068e (rmm 5 200) g (wNil g) (wNil g) [.ref (g.2.2 (10 + j)), .int i] (some (.int r)) := by
  have hj := jl_char hf
  unfold fJ0_charAt_5068e at hf
  rw [if_pos hj] at hf
  by_cases hi : ¬ (i < 0 ∨ sLen.getD j 0 ≤ i.toNatClampNeg)
  · rw [if_pos hi] at hf
    cases hf
    have hlt : i.toNatClampNeg < sLen.getD j 0 := Nat.not_le.mp fun q => hi (Or.inr q)
    refine Ct.mk (by decide) rfl (Nat.le_of_ble_eq_true rfl) ?_
    intro p e s m args below meth c A ls hx hb hr hml hts hown hlocks hA hE hP hD hS hl hAe
    have hown : s.vm.findClass RJ0 = some m.cls := hown
    have hl : lv_has ls 2 [(0, .ref (g.2.2 (10 + j))), (1, .int i)] := hl
    have w1 := hts (.fieldLink RJ0 9 "java/lang/String" "value" "[B") (List.mem_of_getElem? (i := 1) rfl)
    refine lv_aload_n hx hb dJ0_charAt_5068e_0 rfl (lv_at hl 0 rfl) ?_
    refine Ct.callR (ws' := wNil g) (As := []) (rest := []) (st1 := [.int 1]) (c_J0_isLatin1 l g j hj) (cwV 0 hts gJ0_charAt_5068e_J0_isLatin1_aae02 rfl rfl rfl q_J0_isLatin1_aae02 ⟨Nat.le_of_ble_eq_true rfl, Nat.le_of_ble_eq_true rfl⟩) ⟨hx, hb, hml, hown, hts⟩ hE hP hD hS hA [] rfl rfl rfl rfl (hE.recv hj hS) rfl hl.1 rfl rfl (Nat.le_of_ble_eq_true rfl) dJ0_charAt_5068e_1 (fun H locs hP hD hS => ?_)
    refine lv_if_eq (tgt := 16) hx hb dJ0_charAt_5068e_4 (by decide) (fun hc => absurd hc (by decide)) (fun hc => ?_)
    refine lv_aload_n hx hb dJ0_charAt_5068e_7 rfl (lv_at hl 0 rfl) ?_
    refine vk_getf hx hb (hE.2.2.2.2.2.1.1 j hj).2.2.1 hS hown w1 (fun _ h9 => h9) dJ0_charAt_5068e_8 ?_
    refine lv_iload_n hx hb dJ0_charAt_5068e_11 rfl (lv_at hl 1 rfl) ?_
    refine Ct.callS (ws' := wNil g) (As := [.ref (g.2.2 (30 + j)), .int i]) (rest := []) (st1 := [.int ((sByt.getD j []).getD i.toNatClampNeg 0)]) (c_J1_charAt l g j hj i hi) (va_cwS 2 hts gJ0_charAt_5068e_J1_charAt_3b067 rfl rfl rfl q_J1_charAt_3b067.2 ⟨Nat.le_of_ble_eq_true rfl, Nat.le_of_ble_eq_true rfl⟩) ⟨hx, hb, hml, hown, hts⟩ hE hP hD hS hA [] rfl rfl rfl rfl rfl hl.1 rfl rfl (Nat.le_of_ble_eq_true rfl) dJ0_charAt_5068e_12 (fun H locs hP hD hS => ?_)
    exact Ct.nret hx hb hr (show Value.int _ = Value.int _ by rw [sT_nr j hj _ hlt]) hlocks hAe hP hD hS dJ0_charAt_5068e_15
  · rw [if_neg hi] at hf; cases hf
