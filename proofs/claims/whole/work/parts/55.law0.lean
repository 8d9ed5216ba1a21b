/-! ===== the law: what holds at its entry (out of the given frame) ===== -/
/-! THE CLAIM OUT OF ONE WALK OF THE LAW'S BODY. Your part is whole_start (and what it stands on); all else here is the same for every law, but numbers. -/
def R_law : String := "RainVaultLaw"
def lw_P (b : Addr) (xs : List Int32) (args : Array Value) (s : State) : Prop := args = #[.ref b] ∧ s.IntsAt b xs ∧ xs.length ≤ 3072 ∧ (Jvm.Cond.and given_1 narrow_1).before args s = true
def lw_Q (_ : Array Value) (s : State) (o : Outcome) (t : State) : Prop := o = .returned (some (.int 1)) ∧ Framed s o t [] 600000 7302250
def lw_Z (below : List Frame) (a : Array Value) (s : State) : State → Prop := fun t => ∃ o, t.status = .running ∧ Ended t below o ∧ lw_Q a s o t
/-- the law's own end, with 1 on the stack, nothing written that was there before, its room as the claim has it -/
theorem lw_ret {p : Program} {l : Launch} {e : Env} {s : State} {m : MethodId} {below : List Frame} {meth : Method} {c : Code} {b : Nat} (hx : p.tables.exec = Jvm.exec) (hb : c.code = code) (hr : meth.sig.returnType = ret) (hlocks : meth.locks = false) {pc : Nat} {H : Heap} {ls : Array Slot} (hdg : decode code pc = .ok (.ireturn, 1)) : W p l e room_1 s m #[Value.ref b] below meth c H [] 600000 7302250 (lw_Z below #[Value.ref b] s) (F0 m pc ls [.int 1]) := by
  intro T hT X
  obtain ⟨fs, hret, hrun, hended, hW, hframe⟩ := X.leave (v := some (.int 1)) (hlocks := hlocks) (fun h => by rw [hr] at h; cases h)
  have hmeth' : T.vm.method? m = some meth := X.method'
  refine ⟨T.setFrames fs, ?_, .returned (some (.int 1)), hrun, hended, rfl, ⟨_, rfl⟩, hW, hframe⟩
  jvm_step X.here [X.here.top, hx, hb, hdg, hmeth', hr, ret, narrow_b1]
  (try refine ⟨rfl, ?_⟩); (try refine ⟨rfl, ?_⟩)
  first | (intro acts; rw [hret _ acts rfl rfl rfl]) | rw [hret _ _ rfl rfl rfl]
  exact Steps.refl _
/-- what holds at the law's entry: the machine, the code, the tables' words (any of lw_tbl by 'hts w (by decide +kernel)'), the script of L ints xs at the cell b, what the Statement gives of the start (any of its parts by flat_of_before) -/
def lw_At (p : Program) (s : State) (m : MethodId) (meth : Method) (c : Code) (b L : Nat) (xs : Nat → Int32) : Prop :=
  p.tables.exec = Jvm.exec ∧ c.code = code ∧ meth.sig.returnType = ret ∧ c.maxLocals = 4 ∧ s.vm.findClass R_law = some m.cls ∧ (∀ w ∈ lw_tbl, w.before #[Value.ref b] s = true) ∧ va_X b L xs s s.heap ∧ b < s.heap.size ∧ meth.locks = false ∧ (Jvm.Cond.and given_1 narrow_1).before #[Value.ref b] s = true
/-! ===== the two worlds, side by side; their states; what holds between them ===== -/
abbrev Vt : Type := Rf × Rf × Rf × Sv × Ca × (Nat → Int32) × Tr × Tk × F4 × (Nat → Int32) × Int32 × Int32
abbrev Mm : Type := (Nat → Int32) × (Nat → Int32) × (Nat → Int32) × Int32 × (Nat → Int32) × (Nat → Int32) × Mt × Ms
def wVd (g : gG) (d : Nat → Nat) (V : Vt) : va_W := wV g (d 0) (d 1) (d 2) (d 3) (d 4) (d 5) (d 6) (d 7) (d 8) (d 9) (d 10) (d 11) (d 12) (d 13) (d 14) (d 15) (d 16) (d 17) (d 18) (d 19) (d 20) (d 21) (d 22) (d 23) (d 24) (d 25) (d 26) (d 27) (fun j => d (30 + j)) V.1 V.2.1 V.2.2.1 V.2.2.2.1 V.2.2.2.2.1 V.2.2.2.2.2.1 V.2.2.2.2.2.2.1 V.2.2.2.2.2.2.2.1 V.2.2.2.2.2.2.2.2.1 V.2.2.2.2.2.2.2.2.2.1 V.2.2.2.2.2.2.2.2.2.2.1 V.2.2.2.2.2.2.2.2.2.2.2
def wMd (g : gG) (d : Nat → Nat) (M : Mm) : va_W := wM g (d 40) (d 41) (d 42) (d 43) (d 44) (d 45) (d 46) (d 47) (d 48) (d 49) (d 50) (d 51) (d 52) M.1 M.2.1 M.2.2.1 M.2.2.2.1 M.2.2.2.2.1 M.2.2.2.2.2.1 M.2.2.2.2.2.2.1 M.2.2.2.2.2.2.2
theorem wVd_adr (g : gG) (d : Nat → Nat) (V V' : Vt) : (wVd g d V).map (fun q => q.1) = (wVd g d V').map (fun q => q.1) := rfl
theorem wMd_adr (g : gG) (d : Nat → Nat) (M M' : Mm) : (wMd g d M).map (fun q => q.1) = (wMd g d M').map (fun q => q.1) := rfl
theorem wVd_at (g : gG) (d : Nat → Nat) (V : Vt) : ∃ fs : List Value, (wVd g d V)[0]? = some (d 0, .inr (6, fs)) := ⟨_, rfl⟩
theorem wMd_at (g : gG) (d : Nat → Nat) (M : Mm) : ∃ fs : List Value, (wMd g d M)[0]? = some (d 40, .inr (7, fs)) := ⟨_, rfl⟩
def Inv (V : Vt) (M : Mm) : Prop := Rl V.1 M.1 ∧ V.2.2.2.2.2.2.2.2.2.2.2 = M.2.2.2.1 ∧ (¬ V.2.2.2.2.2.2.2.2.2.2.2 = 0 → Rl V.2.1 M.2.1) ∧ (V.2.2.1.2.2.2.2.2.1 = 0 ∨ V.2.2.1.2.2.2.2.2.1 = 1) ∧ Shr V.2.2.2.2.2.2.2.2.1 M.2.2.2.2.2.2.2 ∧ Fnd V.2.2.2.2.2.2.2.2.2.1 M.2.2.2.2.1 ∧ ∃ m, m ≤ 120 ∧ V.2.2.2.2.2.2.2.2.2.2.1 = nI m ∧ Tpe m V.2.2.2.2.2.1 M.2.2.2.2.2.2.1
section INV
variable {R N B : Rf} {S : Sv} {C : Ca} {P : Nat → Int32} {Q : Tr} {K : Tk} {X : F4} {fd : Nat → Int32} {tl ik : Int32} {now kept aside : Nat → Int32} {ik7 : Int32} {found carried : Nat → Int32} {T : Mt} {Sm : Ms}
theorem Inv.of {m : Nat} (h1 : Rl R now) (h2 : ik = ik7) (h3 : ¬ ik = 0 → Rl N kept) (h4 : B.2.2.2.2.2.1 = 0 ∨ B.2.2.2.2.2.1 = 1) (h5 : Shr X Sm) (h6 : Fnd fd found) (h7 : m ≤ 120) (h8 : Tpe m P T) : Inv (R, N, B, S, C, P, Q, K, X, fd, nI m, ik) (now, kept, aside, ik7, found, carried, T, Sm) := ⟨h1, h2, h3, h4, h5, h6, m, h7, rfl, h8⟩
theorem Inv.to (h : Inv (R, N, B, S, C, P, Q, K, X, fd, tl, ik) (now, kept, aside, ik7, found, carried, T, Sm)) : Rl R now ∧ ik = ik7 ∧ (¬ ik = 0 → Rl N kept) ∧ (B.2.2.2.2.2.1 = 0 ∨ B.2.2.2.2.2.1 = 1) ∧ Shr X Sm ∧ Fnd fd found ∧ ∃ m, m ≤ 120 ∧ tl = nI m ∧ Tpe m P T := h
end INV
/-- two worlds apart -/
def LW (g : gG) (A : Nat → Prop) (w1 w2 : va_W) (H : Heap) : Prop := va_P g.1 vwK w1 H ∧ va_P g.1 vwK w2 H ∧ va_D A w1 ∧ va_D A w2 ∧ ∀ (i j : Nat) (p q : Nat × va_E), w1[i]? = some p → w2[j]? = some q → p.1 ≠ q.1
theorem LW.sw {g : gG} {A : Nat → Prop} {w1 w2 : va_W} {H : Heap} (h : LW g A w1 w2 H) : LW g A w2 w1 H := ⟨h.2.1, h.1, h.2.2.2.1, h.2.2.1, fun i j p q hi hj e => h.2.2.2.2 j i q p hj hi e.symm⟩
section LWC
variable {p : Program} {l : Launch} {e : Env} {R : Room} {s : State} {m : MethodId} {args : Array Value} {below : List Frame} {meth : Method} {c : Code} {H : Heap} {locs : List Loc} {cells slots : Nat} {Q : State → Prop}
variable {pc : Nat} {ls : Array Slot} {rest st0 : List Value} {g : gG} {A : Nat → Prop} {w1 w1' w2 : va_W}
variable {y : MethodName} {bytes cc : ByteArray} {maxL nL n index F L : Nat} {ret : Option FieldType} {wy Ts : List Cond} {own C : String} {b : Nat} {As : List Value} {r : Int32}
theorem law_call (hM : Ct l y wy (rmm F L) g w1 w1' (.ref b :: As) (some (.int r))) (cw : CallW R s args own C index y bytes maxL ret wy (rmm F L) 0 0 n) (S0 : CallFix p m c cc nL s args Ts own) (hE : EV g A s) (hW0 : LW g A w1 w2 H) (hS : va_S A s.heap H locs) (hA : ∀ q : Nat, s.heap.size ≤ q → A q) (hadr : w1.map (fun q => q.1) = w1'.map (fun q => q.1)) (ci : Nat) {qc : vw_C} (hc : vwK[ci]? = some qc) (he : ∃ fs : List Value, w1[0]? = some (b, .inr (ci, fs))) (hC2 : qc.1 = C) (hn : As.length = n) (hsize : ls.size = nL) (hst : st0 = As.reverse ++ .ref b :: rest) (hW : (rest.map fun v => v.category).sum ≤ 8) (hdg : decode cc pc = .ok (.invokevirtual index, 3)) (hcc : cells ≤ R.cells) (hss : slots ≤ R.slots)
    (kk : ∀ (H1 : Heap) (locs1 : List Loc), LW g A w1' w2 H1 → va_S A s.heap H1 locs1 → W p l e R s m args below meth c H1 locs1 cells slots Q (F0 m (pc + 3) ls (.int r :: rest))) : W p l e R s m args below meth c H locs cells slots Q (F0 m pc ls st0) := by
  subst hC2
  obtain ⟨fs, he⟩ := he
  have hF : ∀ q, va_A w1 H.size q → A q := fun q h => by
    rcases h with ⟨k, e, h⟩ | h
    · exact hW0.2.2.1.2 k (q, e) h
    · exact hA q (Nat.le_trans hS.1 h)
  have hr := va_runV (e := e) (As := As) (rest := rest) (cells := cells) (slots := slots) (locs := locs) (below := below) (meth := meth) (g := F0 m pc ls st0) S0 (hM H.size) cw ⟨PcG_blind, va_recv hE.1 hW0.1 hc he, fun U hU hW => ⟨rfl, by rw [hU], by rw [hU]; exact hW0.1, hE.call hS hU hW hF, hW0.2.2.1.weaken (fun _ _ _ _ => trivial)⟩⟩ rfl hn hsize hst (lv_room hW) hdg ⟨hcc, hss⟩
  intro T hT X
  obtain ⟨v, st₀, t, T', L, h0, X', hL, e1, e2, ⟨hv, hPo, hDo, hz, hk⟩, st⟩ := hr T hT X
  cases hv
  rw [h0] at hz hk
  have key : ∀ (k : Nat) (q : Nat × va_E), w1'[k]? = some q → ∃ q0, w1[k]? = some q0 ∧ q0.1 = q.1 := by
    intro k q h
    have h1 : (w1'.map (fun q => q.1))[k]? = some q.1 := by rw [List.getElem?_map, h]; rfl
    rw [← hadr, List.getElem?_map] at h1
    cases hw : w1[k]? with
    | none => rw [hw] at h1; cases h1
    | some q0 => rw [hw] at h1; exact ⟨q0, rfl, Option.some.inj h1⟩
  obtain ⟨t2, a1, b1⟩ := kk T'.heap (locs ++ L) ⟨by rw [e1]; exact hPo, hW0.2.1.kept (fun k q hq => by
      have hlt := (hW0.2.1 k q hq).lt
      rw [e1]
      exact hk q.1 hlt (fun z => by
        rcases z with ⟨k2, e, z⟩ | z
        · exact hW0.2.2.2.2 k2 k (q.1, e) q z hq rfl
        · omega)), hDo.weaken (fun k q _ h => hF q.1 h), hW0.2.2.2.1, fun i j x z hi hj => by
      obtain ⟨x0, a1, a2⟩ := key i x hi
      rw [← a2]
      exact hW0.2.2.2.2 i j x0 z a1 hj⟩
    ⟨Nat.le_trans hS.1 (by rw [e1]; exact hz), fun q h1 h2 => by rw [e1, hk q (Nat.lt_of_lt_of_le h1 hS.1) (fun z => h2 (hF q z))]; exact hS.2.1 q h1 h2, fun q hq => by
      rcases List.mem_append.mp hq with h | h
      · exact hS.2.2 q h
      · exact hF _ (hL q h)⟩ T' rfl X'
  exact ⟨t2, st t2 a1, b1⟩
end LWC
/-- a step of the law, from the place of a call to the place behind all calls -/
def StepAt (pc : Nat) : Prop := ∀ {p : Program} {e : Env} {s : State} {m : MethodId} {below : List Frame} {meth : Method} {c : Code} (l : Launch) {b L : Nat} {xs : Nat → Int32}, L ≤ 3072 → lw_At p s m meth c b L xs → ∀ (g : gG) (d : Nat → Nat) (V : Vt) (M : Mm) (i : Nat), i + 6 ≤ L → ∀ (H : Heap) (locs : List Loc) (ls : Array Slot), EV g (fun q : Nat => s.heap.size ≤ q) s → Inv V M → LW g (fun q : Nat => s.heap.size ≤ q) (wVd g d V) (wMd g d M) H → va_S (fun q : Nat => s.heap.size ≤ q) s.heap H locs → lv_has ls 4 [(0, .ref b), (1, .ref (d 0)), (2, .ref (d 40)), (3, .int (nI i))] →
  (∀ (V' : Vt) (M' : Mm) (H : Heap) (locs : List Loc), Inv V' M' → LW g (fun q : Nat => s.heap.size ≤ q) (wVd g d V') (wMd g d M') H → va_S (fun q : Nat => s.heap.size ≤ q) s.heap H locs → W p l e room_1 s m #[Value.ref b] below meth c H locs 600000 7302250 (lw_Z below #[Value.ref b] s) (F0 m 1533 ls [])) →
  W p l e room_1 s m #[Value.ref b] below meth c H locs 600000 7302250 (lw_Z below #[Value.ref b] s) (F0 m pc ls [])
theorem law_in {i L k : Nat} (h : i + 6 ≤ L) (hL : L ≤ 3072) (hk : k < 6) {x : Int32} (hx : x = nI k) : vp_in (nI i + x) L := by
  subst hx
  rw [nI_add]
  exact vp_in_nI (by omega) (by omega)
