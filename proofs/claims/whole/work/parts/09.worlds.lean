abbrev Rf : Type := (Nat → Int32) × (Nat → Int32) × (Nat → Int32) × Int32 × Int32 × Int32 × Int32 × Int32 × Int32
abbrev Sv : Type := (Nat → Int32) × (Nat → Int32) × (Nat → Int32) × Int32 × Int32 × Int32 × Int32
abbrev Ca : Type := (Nat → Int32) × (Nat → Int32)
abbrev Tk : Type := (Nat → Int32) × (Nat → Int32) × (Nat → Int32) × Int32 × Int32
abbrev Tr : Type := Int32 × Int32
abbrev F4 : Type := Nat → (Nat → Int32) × Int32 × Int32
def upS (X : F4) (k : Nat) (v : (Nat → Int32) × Int32 × Int32) : F4 := fun j => bif Nat.beq j k then v else X j
abbrev Sh : Type := (Nat → Int32) × Int32 × Int32
abbrev Mt : Type := (Nat → Int32) × (Nat → Int32) × Int32 × Int32 × Int32 × Int32 × Int32 × Int32 × Int32 × Int32 × Int32
abbrev Ms : Type := (Nat → Int32) × (Nat → Int32) × (Nat → Int32) × (Nat → Int32)
abbrev wRf (g : gG) (h0 h1 h2 h3 : Nat) (R : Rf) : va_W := [(h0, .inr (1, [.ref h1, .ref h2, .ref h3, .int R.2.2.2.1, .int R.2.2.2.2.1, .int R.2.2.2.2.2.1, .int R.2.2.2.2.2.2.1, .int R.2.2.2.2.2.2.2.1, .int R.2.2.2.2.2.2.2.2])), (h1, .inl (g.2.1 0, 88, .inl R.1)), (h2, .inl (g.2.1 0, 24, .inl R.2.1)), (h3, .inl (g.2.1 0, 10, .inl R.2.2.1))]
abbrev wRf2 (g : gG) (h0 h1 h2 h3 i0 i1 i2 i3 : Nat) (R : Rf) (N : Rf) : va_W := [(h0, .inr (1, [.ref h1, .ref h2, .ref h3, .int R.2.2.2.1, .int R.2.2.2.2.1, .int R.2.2.2.2.2.1, .int R.2.2.2.2.2.2.1, .int R.2.2.2.2.2.2.2.1, .int R.2.2.2.2.2.2.2.2])), (h1, .inl (g.2.1 0, 88, .inl R.1)), (h2, .inl (g.2.1 0, 24, .inl R.2.1)), (h3, .inl (g.2.1 0, 10, .inl R.2.2.1)), (i0, .inr (1, [.ref i1, .ref i2, .ref i3, .int N.2.2.2.1, .int N.2.2.2.2.1, .int N.2.2.2.2.2.1, .int N.2.2.2.2.2.2.1, .int N.2.2.2.2.2.2.2.1, .int N.2.2.2.2.2.2.2.2])), (i1, .inl (g.2.1 0, 88, .inl N.1)), (i2, .inl (g.2.1 0, 24, .inl N.2.1)), (i3, .inl (g.2.1 0, 10, .inl N.2.2.1))]
abbrev wRow (g : gG) (a0 : Nat) (n : Nat) (f : Nat → Int32) : va_W := [(a0, .inl (g.2.1 0, n, .inl f))]
abbrev wRow2 (g : gG) (a0 a1 : Nat) (n : Nat) (f : Nat → Int32) (f2 : Nat → Int32) : va_W := [(a0, .inl (g.2.1 0, n, .inl f)), (a1, .inl (g.2.1 0, n, .inl f2))]
abbrev wRfRow (g : gG) (h0 h1 h2 h3 a0 : Nat) (R : Rf) (n : Nat) (f : Nat → Int32) : va_W := [(h0, .inr (1, [.ref h1, .ref h2, .ref h3, .int R.2.2.2.1, .int R.2.2.2.2.1, .int R.2.2.2.2.2.1, .int R.2.2.2.2.2.2.1, .int R.2.2.2.2.2.2.2.1, .int R.2.2.2.2.2.2.2.2])), (h1, .inl (g.2.1 0, 88, .inl R.1)), (h2, .inl (g.2.1 0, 24, .inl R.2.1)), (h3, .inl (g.2.1 0, 10, .inl R.2.2.1)), (a0, .inl (g.2.1 0, n, .inl f))]
abbrev wSv (g : gG) (s0 s1 s2 s3 h0 h1 h2 h3 : Nat) (S : Sv) (R : Rf) : va_W := [(s0, .inr (3, [.ref h0, .ref s1, .ref s2, .ref s3, .int S.2.2.2.1, .int S.2.2.2.2.1, .int S.2.2.2.2.2.1, .int S.2.2.2.2.2.2])), (s1, .inl (g.2.1 0, 5, .inl S.1)), (s2, .inl (g.2.1 0, 48, .inl S.2.1)), (s3, .inl (g.2.1 0, 5, .inl S.2.2.1)), (h0, .inr (1, [.ref h1, .ref h2, .ref h3, .int R.2.2.2.1, .int R.2.2.2.2.1, .int R.2.2.2.2.2.1, .int R.2.2.2.2.2.2.1, .int R.2.2.2.2.2.2.2.1, .int R.2.2.2.2.2.2.2.2])), (h1, .inl (g.2.1 0, 88, .inl R.1)), (h2, .inl (g.2.1 0, 24, .inl R.2.1)), (h3, .inl (g.2.1 0, 10, .inl R.2.2.1))]
abbrev wSv2 (g : gG) (s0 s1 s2 s3 h0 h1 h2 h3 i0 i1 i2 i3 : Nat) (S : Sv) (R : Rf) (N : Rf) : va_W := [(s0, .inr (3, [.ref h0, .ref s1, .ref s2, .ref s3, .int S.2.2.2.1, .int S.2.2.2.2.1, .int S.2.2.2.2.2.1, .int S.2.2.2.2.2.2])), (s1, .inl (g.2.1 0, 5, .inl S.1)), (s2, .inl (g.2.1 0, 48, .inl S.2.1)), (s3, .inl (g.2.1 0, 5, .inl S.2.2.1)), (h0, .inr (1, [.ref h1, .ref h2, .ref h3, .int R.2.2.2.1, .int R.2.2.2.2.1, .int R.2.2.2.2.2.1, .int R.2.2.2.2.2.2.1, .int R.2.2.2.2.2.2.2.1, .int R.2.2.2.2.2.2.2.2])), (h1, .inl (g.2.1 0, 88, .inl R.1)), (h2, .inl (g.2.1 0, 24, .inl R.2.1)), (h3, .inl (g.2.1 0, 10, .inl R.2.2.1)), (i0, .inr (1, [.ref i1, .ref i2, .ref i3, .int N.2.2.2.1, .int N.2.2.2.2.1, .int N.2.2.2.2.2.1, .int N.2.2.2.2.2.2.1, .int N.2.2.2.2.2.2.2.1, .int N.2.2.2.2.2.2.2.2])), (i1, .inl (g.2.1 0, 88, .inl N.1)), (i2, .inl (g.2.1 0, 24, .inl N.2.1)), (i3, .inl (g.2.1 0, 10, .inl N.2.2.1))]
abbrev wCa (g : gG) (c0 c1 c2 h0 h1 h2 h3 : Nat) (C : Ca) (R : Rf) : va_W := [(c0, .inr (0, [.ref h0, .ref c1, .ref c2])), (c1, .inl (g.2.1 0, 8, .inl C.1)), (c2, .inl (g.2.1 0, 4, .inl C.2)), (h0, .inr (1, [.ref h1, .ref h2, .ref h3, .int R.2.2.2.1, .int R.2.2.2.2.1, .int R.2.2.2.2.2.1, .int R.2.2.2.2.2.2.1, .int R.2.2.2.2.2.2.2.1, .int R.2.2.2.2.2.2.2.2])), (h1, .inl (g.2.1 0, 88, .inl R.1)), (h2, .inl (g.2.1 0, 24, .inl R.2.1)), (h3, .inl (g.2.1 0, 10, .inl R.2.2.1))]
abbrev wSh (g : gG) (e0 e1 : Nat) (E : Sh) : va_W := [(e0, .inr (2, [.ref e1, .int E.2.1, .int E.2.2])), (e1, .inl (g.2.1 0, 40, .inl E.1))]
abbrev wRfSh (g : gG) (h0 h1 h2 h3 e0 e1 : Nat) (R : Rf) (E : Sh) : va_W := [(h0, .inr (1, [.ref h1, .ref h2, .ref h3, .int R.2.2.2.1, .int R.2.2.2.2.1, .int R.2.2.2.2.2.1, .int R.2.2.2.2.2.2.1, .int R.2.2.2.2.2.2.2.1, .int R.2.2.2.2.2.2.2.2])), (h1, .inl (g.2.1 0, 88, .inl R.1)), (h2, .inl (g.2.1 0, 24, .inl R.2.1)), (h3, .inl (g.2.1 0, 10, .inl R.2.2.1)), (e0, .inr (2, [.ref e1, .int E.2.1, .int E.2.2])), (e1, .inl (g.2.1 0, 40, .inl E.1))]
abbrev wNil (g : gG) : va_W := []
abbrev wTk (g : gG) (t0 t1 t2 t3 p0 : Nat) (K : Tk) (P : Nat → Int32) : va_W := [(t0, .inr (5, [.ref p0, .ref t1, .ref t2, .ref t3, .int K.2.2.2.1, .int K.2.2.2.2])), (t1, .inl (g.2.1 0, 121, .inl K.1)), (t2, .inl (g.2.1 0, 121, .inl K.2.1)), (t3, .inl (g.2.1 0, 121, .inl K.2.2.1)), (p0, .inl (g.2.1 0, 120, .inl P))]
abbrev wTr (g : gG) (r0 t0 t1 t2 t3 p0 h0 h1 h2 h3 : Nat) (Q : Tr) (K : Tk) (P : Nat → Int32) (R : Rf) : va_W := [(r0, .inr (4, [.ref t0, .ref h0, .int Q.1, .int Q.2])), (t0, .inr (5, [.ref p0, .ref t1, .ref t2, .ref t3, .int K.2.2.2.1, .int K.2.2.2.2])), (t1, .inl (g.2.1 0, 121, .inl K.1)), (t2, .inl (g.2.1 0, 121, .inl K.2.1)), (t3, .inl (g.2.1 0, 121, .inl K.2.2.1)), (p0, .inl (g.2.1 0, 120, .inl P)), (h0, .inr (1, [.ref h1, .ref h2, .ref h3, .int R.2.2.2.1, .int R.2.2.2.2.1, .int R.2.2.2.2.2.1, .int R.2.2.2.2.2.2.1, .int R.2.2.2.2.2.2.2.1, .int R.2.2.2.2.2.2.2.2])), (h1, .inl (g.2.1 0, 88, .inl R.1)), (h2, .inl (g.2.1 0, 24, .inl R.2.1)), (h3, .inl (g.2.1 0, 10, .inl R.2.2.1))]
abbrev wV (g : gG) (v0 u0 u1 u2 u3 k0 k1 k2 k3 h0 h1 h2 h3 s0 s1 s2 s3 c0 c1 c2 p0 r0 t0 t1 t2 t3 z0 f0 : Nat) (ea : Nat → Nat) (R : Rf) (N : Rf) (B : Rf) (S : Sv) (C : Ca) (P : Nat → Int32) (Q : Tr) (K : Tk) (X : F4) (fd : Nat → Int32) (tl : Int32) (ik : Int32) : va_W := [(v0, .inr (6, [.ref u0, .ref k0, .ref h0, .ref s0, .ref c0, .ref p0, .ref r0, .ref z0, .ref f0, .int tl, .int ik])), (u0, .inr (1, [.ref u1, .ref u2, .ref u3, .int R.2.2.2.1, .int R.2.2.2.2.1, .int R.2.2.2.2.2.1, .int R.2.2.2.2.2.2.1, .int R.2.2.2.2.2.2.2.1, .int R.2.2.2.2.2.2.2.2])), (u1, .inl (g.2.1 0, 88, .inl R.1)), (u2, .inl (g.2.1 0, 24, .inl R.2.1)), (u3, .inl (g.2.1 0, 10, .inl R.2.2.1)), (k0, .inr (1, [.ref k1, .ref k2, .ref k3, .int N.2.2.2.1, .int N.2.2.2.2.1, .int N.2.2.2.2.2.1, .int N.2.2.2.2.2.2.1, .int N.2.2.2.2.2.2.2.1, .int N.2.2.2.2.2.2.2.2])), (k1, .inl (g.2.1 0, 88, .inl N.1)), (k2, .inl (g.2.1 0, 24, .inl N.2.1)), (k3, .inl (g.2.1 0, 10, .inl N.2.2.1)), (h0, .inr (1, [.ref h1, .ref h2, .ref h3, .int B.2.2.2.1, .int B.2.2.2.2.1, .int B.2.2.2.2.2.1, .int B.2.2.2.2.2.2.1, .int B.2.2.2.2.2.2.2.1, .int B.2.2.2.2.2.2.2.2])), (h1, .inl (g.2.1 0, 88, .inl B.1)), (h2, .inl (g.2.1 0, 24, .inl B.2.1)), (h3, .inl (g.2.1 0, 10, .inl B.2.2.1)), (s0, .inr (3, [.ref h0, .ref s1, .ref s2, .ref s3, .int S.2.2.2.1, .int S.2.2.2.2.1, .int S.2.2.2.2.2.1, .int S.2.2.2.2.2.2])), (s1, .inl (g.2.1 0, 5, .inl S.1)), (s2, .inl (g.2.1 0, 48, .inl S.2.1)), (s3, .inl (g.2.1 0, 5, .inl S.2.2.1)), (c0, .inr (0, [.ref h0, .ref c1, .ref c2])), (c1, .inl (g.2.1 0, 8, .inl C.1)), (c2, .inl (g.2.1 0, 4, .inl C.2)), (p0, .inl (g.2.1 0, 120, .inl P)), (r0, .inr (4, [.ref t0, .ref h0, .int Q.1, .int Q.2])), (t0, .inr (5, [.ref p0, .ref t1, .ref t2, .ref t3, .int K.2.2.2.1, .int K.2.2.2.2])), (t1, .inl (g.2.1 0, 121, .inl K.1)), (t2, .inl (g.2.1 0, 121, .inl K.2.1)), (t3, .inl (g.2.1 0, 121, .inl K.2.2.1)), (z0, .inl (g.2.1 1, 4, .inr (.inr (.inr (.inr (fun j => some (ea j))))))), ((ea 0), .inr (2, [.ref (ea 4), .int (X 0).2.1, .int (X 0).2.2])), ((ea 4), .inl (g.2.1 0, 40, .inl (X 0).1)), ((ea 1), .inr (2, [.ref (ea 5), .int (X 1).2.1, .int (X 1).2.2])), ((ea 5), .inl (g.2.1 0, 40, .inl (X 1).1)), ((ea 2), .inr (2, [.ref (ea 6), .int (X 2).2.1, .int (X 2).2.2])), ((ea 6), .inl (g.2.1 0, 40, .inl (X 2).1)), ((ea 3), .inr (2, [.ref (ea 7), .int (X 3).2.1, .int (X 3).2.2])), ((ea 7), .inl (g.2.1 0, 40, .inl (X 3).1)), (f0, .inl (g.2.1 0, 7, .inl fd))]
abbrev wM (g : gG) (m0 m1 m2 m3 m4 m5 m6 m7 m8 m9 m10 m11 m12 : Nat) (now : Nat → Int32) (kept : Nat → Int32) (aside : Nat → Int32) (ik : Int32) (found : Nat → Int32) (carried : Nat → Int32) (T : Mt) (S : Ms) : va_W := [(m0, .inr (7, [.ref m1, .ref m2, .ref m3, .int ik, .ref m4, .ref m5, .ref m6, .int T.2.2.1, .int T.2.2.2.1, .int T.2.2.2.2.1, .int T.2.2.2.2.2.1, .int T.2.2.2.2.2.2.1, .int T.2.2.2.2.2.2.2.1, .ref m7, .ref m8, .int T.2.2.2.2.2.2.2.2.1, .int T.2.2.2.2.2.2.2.2.2.1, .int T.2.2.2.2.2.2.2.2.2.2, .ref m9, .ref m10, .ref m11, .ref m12])), (m1, .inl (g.2.1 0, 120, .inl now)), (m2, .inl (g.2.1 0, 120, .inl kept)), (m3, .inl (g.2.1 0, 120, .inl aside)), (m4, .inl (g.2.1 0, 8, .inl found)), (m5, .inl (g.2.1 0, 4, .inl carried)), (m6, .inl (g.2.1 0, 120, .inl T.1)), (m7, .inl (g.2.1 2, 7, .inr (.inr (.inr (.inr (fun j => some (g.2.2 (10 + j)))))))), (m8, .inl (g.2.1 0, 720, .inl T.2.1)), (m9, .inl (g.2.1 0, 4, .inl S.1)), (m10, .inl (g.2.1 0, 4, .inl S.2.1)), (m11, .inl (g.2.1 0, 160, .inl S.2.2.1)), (m12, .inl (g.2.1 0, 40, .inl S.2.2.2))]
/-! ===== null; a sheet by its number ===== -/
section NUL
variable {p : Program} {l : Launch} {e : Env} {R : Room} {s : State} {m : MethodId} {args : Array Value} {below : List Frame} {meth : Method} {c : Code} {H : Heap} {locs : List Loc} {cells slots : Nat} {Q : State → Prop}
variable {cc : ByteArray} {pc : Nat} {ls : Array Slot} {rest : List Value}
theorem lv_aload_nN (hexec : p.tables.exec = Jvm.exec) (hb : c.code = cc) {k : Fin 4} {i : Nat} (hdg : decode cc pc = .ok (.aload_n k, 1)) (hi : (k : Nat) = i) (hl : ls[i]? = some (.val .null))
    (k : W p l e R s m args below meth c H locs cells slots Q (F0 m (pc + 1) ls (.null :: rest))) : W p l e R s m args below meth c H locs cells slots Q (F0 m pc ls (rest)) := by
  subst hi
  intro T hT X
  obtain ⟨t, a, b⟩ := k T hT X
  refine ⟨t, ?_, b⟩
  jvm_step X.here [X.here.top, hexec, hb, hdg, hl, Value.isRef]
  exact a
theorem lv_aloadN (hexec : p.tables.exec = Jvm.exec) (hb : c.code = cc) {i : Nat} (hdg : decode cc pc = .ok (.aload i, 2)) (hl : ls[i]? = some (.val .null))
    (k : W p l e R s m args below meth c H locs cells slots Q (F0 m (pc + 2) ls (.null :: rest))) : W p l e R s m args below meth c H locs cells slots Q (F0 m pc ls (rest)) := by
  intro T hT X
  obtain ⟨t, a, b⟩ := k T hT X
  refine ⟨t, ?_, b⟩
  jvm_step X.here [X.here.top, hexec, hb, hdg, hl, Value.isRef]
  exact a
theorem lv_astore_nN (hexec : p.tables.exec = Jvm.exec) (hb : c.code = cc) {k : Fin 4} {i nL : Nat} {lv lv' : List (Nat × Value)} (hdg : decode cc pc = .ok (.astore_n k, 1)) (hi : (k : Nat) = i) (h : lv_has ls nL lv) (hn : i < nL) (hl : (i, Value.null) :: lv.filter (fun q => !(q.1 == i) && !(q.1 + 1 == i && q.2.category == 2)) = lv')
    (kk : ∀ ls' : Array Slot, lv_has ls' nL lv' → W p l e R s m args below meth c H locs cells slots Q (F0 m (pc + 1) ls' rest)) : W p l e R s m args below meth c H locs cells slots Q (F0 m pc ls (.null :: rest)) := by
  subst hi
  obtain ⟨ls', e', h'⟩ := lv_store1 (v := .null) h hn rfl
  intro T hT X
  obtain ⟨t, a, b⟩ := kk ls' (hl ▸ h') T hT X
  refine ⟨t, ?_, b⟩
  jvm_step X.here [X.here.top, ↓top_set X.here.top, hexec, hb, hdg, e', Value.isRef]
  exact a
theorem lv_astoreN (hexec : p.tables.exec = Jvm.exec) (hb : c.code = cc) {i nL : Nat} {lv lv' : List (Nat × Value)} (hdg : decode cc pc = .ok (.astore i, 2)) (h : lv_has ls nL lv) (hn : i < nL) (hl : (i, Value.null) :: lv.filter (fun q => !(q.1 == i) && !(q.1 + 1 == i && q.2.category == 2)) = lv')
    (kk : ∀ ls' : Array Slot, lv_has ls' nL lv' → W p l e R s m args below meth c H locs cells slots Q (F0 m (pc + 2) ls' rest)) : W p l e R s m args below meth c H locs cells slots Q (F0 m pc ls (.null :: rest)) := by
  obtain ⟨ls', e', h'⟩ := lv_store1 (v := .null) h hn rfl
  intro T hT X
  obtain ⟨t, a, b⟩ := kk ls' (hl ▸ h') T hT X
  refine ⟨t, ?_, b⟩
  jvm_step X.here [X.here.top, ↓top_set X.here.top, hexec, hb, hdg, e', Value.isRef]
  exact a
end NUL
def sh {β : Type} (s : Int32) (kf : Nat → Option β) (n : Option β) : Option β := if s < 0 then n else if 4 ≤ s then n else kf s.toNatClampNeg
theorem sh_4 {s : Int32} (h0 : ¬ s < 0) (h4 : ¬ 4 ≤ s) : s = 0 ∨ s = 1 ∨ s = 2 ∨ s = 3 := by
  obtain ⟨n, hn, rfl⟩ := nI_of h0
  have hlt : n < 4 := by
    rcases Nat.lt_or_ge n 4 with q | q
    · exact q
    · exact absurd (nI_le q hn) h4
  match n, hlt with
  | 0, _ => exact Or.inl rfl
  | 1, _ => exact Or.inr (Or.inl rfl)
  | 2, _ => exact Or.inr (Or.inr (Or.inl rfl))
  | 3, _ => exact Or.inr (Or.inr (Or.inr rfl))
theorem sh_s {β : Type} {s : Int32} {kf : Nat → Option β} {n : Option β} {r : β} (h : sh s kf n = some r) : ((s < 0 ∨ 4 ≤ s) ∧ n = some r) ∨ (s = 0 ∧ kf 0 = some r) ∨ (s = 1 ∧ kf 1 = some r) ∨ (s = 2 ∧ kf 2 = some r) ∨ (s = 3 ∧ kf 3 = some r) := by
  unfold sh at h
  by_cases h0 : s < 0
  · rw [if_pos h0] at h; exact Or.inl ⟨Or.inl h0, h⟩
  · rw [if_neg h0] at h
    by_cases h4 : 4 ≤ s
    · rw [if_pos h4] at h; exact Or.inl ⟨Or.inr h4, h⟩
    · rw [if_neg h4] at h
      rcases sh_4 h0 h4 with rfl | rfl | rfl | rfl
      · exact Or.inr (Or.inl ⟨rfl, h⟩)
      · exact Or.inr (Or.inr (Or.inl ⟨rfl, h⟩))
      · exact Or.inr (Or.inr (Or.inr (Or.inl ⟨rfl, h⟩)))
      · exact Or.inr (Or.inr (Or.inr (Or.inr ⟨rfl, h⟩)))
