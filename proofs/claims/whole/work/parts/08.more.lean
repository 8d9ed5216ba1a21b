/-! ===== rows copied; a world in other words; constants as rows ===== -/
def cp {β : Type} (f g : Nat → Int32) (n0 n1 : Nat) (sp dp n : Int32) (k : (Nat → Int32) → Option β) : Option β := if ¬ sp < 0 ∧ ¬ dp < 0 ∧ ¬ n < 0 ∧ sp.toNatClampNeg + n.toNatClampNeg ≤ n0 ∧ dp.toNatClampNeg + n.toNatClampNeg ≤ n1 then k (va_cpy f g sp.toNatClampNeg dp.toNatClampNeg n.toNatClampNeg) else none
theorem cp_s {β : Type} {f g : Nat → Int32} {n0 n1 : Nat} {sp dp n : Int32} {k : (Nat → Int32) → Option β} {r : β} (h : cp f g n0 n1 sp dp n k = some r) : ∃ f2, f2 = va_cpy f g sp.toNatClampNeg dp.toNatClampNeg n.toNatClampNeg ∧ (¬ sp < 0 ∧ ¬ dp < 0 ∧ ¬ n < 0 ∧ sp.toNatClampNeg + n.toNatClampNeg ≤ n0 ∧ dp.toNatClampNeg + n.toNatClampNeg ≤ n1) ∧ k f2 = some r := by
  unfold cp at h
  by_cases c : ¬ sp < 0 ∧ ¬ dp < 0 ∧ ¬ n < 0 ∧ sp.toNatClampNeg + n.toNatClampNeg ≤ n0 ∧ dp.toNatClampNeg + n.toNatClampNeg ≤ n1
  · rw [if_pos c] at h; exact ⟨_, rfl, c, h⟩
  · rw [if_neg c] at h; cases h
section STC
variable {p : Program} {l : Launch} {e : Env} {R : Room} {s : State} {m : MethodId} {args : Array Value} {below : List Frame} {meth : Method} {c : Code} {H : Heap} {locs : List Loc} {cells slots : Nat} {Q : State → Prop}
variable {cc : ByteArray} {pc : Nat} {ls : Array Slot} {rest : List Value} {D : va_G} {cl : List vw_C} {A : Nat → Prop} {a : Nat} {tys : List (ClassId × FieldType)} {ws ws' : va_W} {H0 : Heap}
theorem st_copy (hexec : p.tables.exec = Jvm.exec) (hb : c.code = cc) (hml : c.maxLocals = ls.size) {own : String} {index : Nat} (hown : s.vm.findClass own = some m.cls) (hlink : (Cond.methodLink own index arraycopyName).before args s = true) (hnat : (Cond.native arraycopyName).before args s = true) (hstat : (Cond.static arraycopyName).before args s = true) (hini : (Cond.initialized "java/lang/System").before args s = true)
    (hK : va_K D cl tys s) (hP : va_P D cl ws H) (hD : va_D A ws) (hS : va_S A H0 H locs) (q0 q1 t0 : Nat) {a0 : Nat} {c0 : ClassId} {n0 n1 : Nat} {f g f2 : Nat → Int32} (ha0 : ws[q0]? = some (a0, .inl (c0, n0, .inl f))) (ha1 : ws[q1]? = some (a, .inl (c0, n1, .inl g))) (ht0 : tys[t0]? = some (c0, .int))
    {sp dp n : Int32} (ef : f2 = va_cpy f g sp.toNatClampNeg dp.toNatClampNeg n.toNatClampNeg) (h : ¬ sp < 0 ∧ ¬ dp < 0 ∧ ¬ n < 0 ∧ sp.toNatClampNeg + n.toNatClampNeg ≤ n0 ∧ dp.toNatClampNeg + n.toNatClampNeg ≤ n1) (hput : ws.set q1 (a, .inl (c0, n1, .inl f2)) = ws')
    (hframes : 1 ≤ R.frames) (hlocals : (rest.map fun v => v.category).sum + (nativeFrameWords "java/lang/System" "arraycopy" 5 + 11) ≤ R.locals) (hdg : decode cc pc = .ok (.invokestatic index, 3))
    (kk : ∀ (H1 : Heap) (locs1 : List Loc), va_P D cl ws' H1 → va_D A ws' → va_S A H0 H1 locs1 → W p l e R s m args below meth c H1 locs1 cells slots Q (F0 m (pc + 3) ls rest)) : W p l e R s m args below meth c H locs cells slots Q (F0 m pc ls (.int n :: .int dp :: .ref a :: .int sp :: .ref a0 :: rest)) := by
  subst ef
  subst hput
  exact va_copyi hexec hb hml hown hlink hnat hstat hini hK hP hD hS q0 q1 t0 t0 ha0 ha1 ht0 ht0 rfl h.1 h.2.1 h.2.2.1 h.2.2.2.1 h.2.2.2.2 (fun _ _ => rfl) hframes hlocals hdg kk
end STC
/-- a row's contents matter within its length alone -/
theorem row_eq {D : va_G} {cl : List vw_C} {a n : Nat} {cI : ClassId} {f g : Nat → Int32} (h : ∀ j, j < n → f j = g j) {H : Heap} (hP : va_at D cl (a, .inl (cI, n, .inl f)) H) : va_at D cl (a, .inl (cI, n, .inl g)) H := by
  have e : vp_cell cI (n, .inl f) = vp_cell cI (n, .inl g) := by
    rw [vp_cell_i, vp_cell_i]
    unfold arrV
    congr 1
    congr 1
    funext j
    show Value.int (f j.val) = Value.int (g j.val)
    rw [h j.val j.isLt]
  show H[a]? = some (vp_cell cI (n, .inl g))
  rw [← e]
  exact hP
theorem Ct.conv {l : Launch} {y : MethodName} {ws : List Cond} {rm : Room} {g : gG} {wi wo wo' : va_W} {av : List Value} {ov : Option Value} (h : Ct l y ws rm g wi wo av ov) (hp : ∀ H : Heap, va_P g.1 vwK wo H → va_P g.1 vwK wo' H) (ha : wo.map (fun q => q.1) = wo'.map (fun q => q.1)) : Ct l y ws rm g wi wo' av ov := by
  intro sz p e hx hc hk s m args below hf hfit hheap ht
  obtain ⟨t, o, h1, h2, h3, ⟨q1, q2, q3, q4⟩, h5⟩ := h sz p e hx hc hk s m args below hf hfit hheap ht
  refine ⟨t, o, h1, h2, h3, ⟨q1, hp _ q2, ?_, q4⟩, h5⟩
  have key : ∀ (k : Nat) (q : Nat × va_E), wo'[k]? = some q → ∃ q0, wo[k]? = some q0 ∧ q0.1 = q.1 := by
    intro k q hq
    have e1 : (wo'.map (fun q => q.1))[k]? = some q.1 := by rw [List.getElem?_map, hq]; rfl
    rw [← ha, List.getElem?_map] at e1
    cases hw : wo[k]? with
    | none => rw [hw] at e1; cases e1
    | some q0 => rw [hw] at e1; exact ⟨q0, rfl, Option.some.inj e1⟩
  refine ⟨fun i j x z hi hj hxz => ?_, fun k q hq => ?_⟩
  · obtain ⟨x0, a1, a2⟩ := key i x hi
    obtain ⟨z0, b1, b2⟩ := key j z hj
    exact q3.1 i j x0 z0 a1 b1 (by rw [a2, b2]; exact hxz)
  · obtain ⟨q0, b1, b2⟩ := key k q hq
    rw [← b2]
    exact q3.2 k q0 b1
