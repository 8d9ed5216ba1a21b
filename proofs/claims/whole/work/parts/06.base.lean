/-! ===== the plain layer: partial functions over the cells' contents, and contracts that say: what the function answers, the method answers ===== -/
def o1 {α β : Type} (o : Option α) (k : α → Option β) : Option β := match o with
  | none => none
  | some a => k a
def o2 {α β γ : Type} (o : Option (α × β)) (k : α → β → Option γ) : Option γ := match o with
  | none => none
  | some a => k a.1 a.2
def o3 {α β γ δ : Type} (o : Option (α × β × γ)) (k : α → β → γ → Option δ) : Option δ := match o with
  | none => none
  | some a => k a.1 a.2.1 a.2.2
def o4 {α β γ δ ε : Type} (o : Option (α × β × γ × δ)) (k : α → β → γ → δ → Option ε) : Option ε := match o with
  | none => none
  | some a => k a.1 a.2.1 a.2.2.1 a.2.2.2
theorem o1_s {α β : Type} {o : Option α} {k : α → Option β} {r : β} (h : o1 o k = some r) : ∃ a, o = some a ∧ k a = some r := by
  cases o with
  | none => cases h
  | some a => exact ⟨a, rfl, h⟩
theorem o2_s {α β γ : Type} {o : Option (α × β)} {k : α → β → Option γ} {r : γ} (h : o2 o k = some r) : ∃ a b, o = some (a, b) ∧ k a b = some r := by
  cases o with
  | none => cases h
  | some a => exact ⟨a.1, a.2, rfl, h⟩
theorem o3_s {α β γ δ : Type} {o : Option (α × β × γ)} {k : α → β → γ → Option δ} {r : δ} (h : o3 o k = some r) : ∃ a b c, o = some (a, b, c) ∧ k a b c = some r := by
  cases o with
  | none => cases h
  | some a => exact ⟨a.1, a.2.1, a.2.2, rfl, h⟩
theorem o4_s {α β γ δ ε : Type} {o : Option (α × β × γ × δ)} {k : α → β → γ → δ → Option ε} {r : ε} (h : o4 o k = some r) : ∃ a b c d, o = some (a, b, c, d) ∧ k a b c d = some r := by
  cases o with
  | none => cases h
  | some a => exact ⟨a.1, a.2.1, a.2.2.1, a.2.2.2, rfl, h⟩
/-- a row's place is read -/
def rd {β : Type} (f : Nat → Int32) (n : Nat) (i : Int32) (k : Int32 → Option β) : Option β := if ¬ (i < 0 ∨ n ≤ i.toNatClampNeg) then k (f i.toNatClampNeg) else none
/-- a row's place is written -/
def wr {β : Type} (f : Nat → Int32) (n : Nat) (i x : Int32) (k : (Nat → Int32) → Option β) : Option β := if ¬ (i < 0 ∨ n ≤ i.toNatClampNeg) then k (upd f i.toNatClampNeg x) else none
/-- a divisor isn't 0 -/
def nz {β : Type} (y : Int32) (k : Option β) : Option β := if y = 0 then none else k
theorem rd_s {β : Type} {f : Nat → Int32} {n : Nat} {i : Int32} {k : Int32 → Option β} {r : β} (h : rd f n i k = some r) : ∃ x : Int32, x = f i.toNatClampNeg ∧ vp_in i n ∧ k x = some r := by
  unfold rd at h
  by_cases c : ¬ (i < 0 ∨ n ≤ i.toNatClampNeg)
  · rw [if_pos c] at h; exact ⟨_, rfl, c, h⟩
  · rw [if_neg c] at h; cases h
theorem wr_s {β : Type} {f : Nat → Int32} {n : Nat} {i x : Int32} {k : (Nat → Int32) → Option β} {r : β} (h : wr f n i x k = some r) : ∃ f2 : Nat → Int32, f2 = upd f i.toNatClampNeg x ∧ vp_in i n ∧ k f2 = some r := by
  unfold wr at h
  by_cases c : ¬ (i < 0 ∨ n ≤ i.toNatClampNeg)
  · rw [if_pos c] at h; exact ⟨_, rfl, c, h⟩
  · rw [if_neg c] at h; cases h
theorem nz_s {β : Type} {y : Int32} {k : Option β} {r : β} (h : nz y k = some r) : ¬ y = 0 ∧ k = some r := by
  unfold nz at h
  by_cases c : y = 0
  · rw [if_pos c] at h; cases h
  · rw [if_neg c] at h; exact ⟨c, h⟩
theorem if_t {c : Prop} [Decidable c] {β : Type} {a b : Option β} {r : β} (h : (if c then a else b) = some r) (hc : c) : a = some r := by rw [if_pos hc] at h; exact h
theorem if_f {c : Prop} [Decidable c] {β : Type} {a b : Option β} {r : β} (h : (if c then a else b) = some r) (hc : ¬ c) : b = some r := by rw [if_neg hc] at h; exact h
abbrev vwK : List vw_C := [(RX0, TX0, 3), (RX1, TX1, 9), (RX2, TX2, 3), (RX3, TX3, 8), (RX4, TX4, 4), (RX5, TX5, 6), (RX6, TX6, 11), (RX7, TX7, 22)]
/-- the ground: classes, the array classes, the constants' addresses -/
abbrev gG : Type := va_G × (Nat → ClassId) × (Nat → Nat)
abbrev tysG (g : gG) : List (ClassId × FieldType) := [(g.2.1 0, .int), (g.2.1 1, .object "RainVault$Sheet"), (g.2.1 2, .object "java/lang/String")]
def kLeast : Nat → Int32 := fun k => if k = 1 then 1 else if k = 4 then -1 else 0
def kMost : Nat → Int32 := fun k => match k with
  | 0 => 6
  | 1 => 40
  | 2 => 40
  | 3 => 9
  | 4 => 7
  | 5 => 1
  | 6 => 40
  | 7 => 9
  | 8 => 9
  | 9 => 9
  | 10 => 9
  | _ => 0
def kKinds : Nat → Int32 := fun k => match k with
  | 0 => 1
  | 1 => 3
  | 2 => 5
  | 3 => 11
  | 4 => 21
  | 5 => 33
  | 6 => 97
  | _ => 0
/-- the constants' rows -/
def tkG (g : gG) (A : Nat → Prop) (U : State) (H : Heap) : Prop := va_T .int (g.2.2 0) 11 (fun j => .int (kLeast j)) A U H ∧ va_T .int (g.2.2 1) 11 (fun j => .int (kMost j)) A U H ∧ va_T .int (g.2.2 2) 7 (fun j => .int (kKinds j)) A U H
theorem tkG.call {g : gG} {A B : Nat → Prop} {s U : State} {H : Heap} {locs : List Loc} (h : tkG g A s s.heap) (hS : va_S A s.heap H locs) (hv : s.vm.Alike U.vm) (hAB : ∀ q, B q → A q) : tkG g B U H := by
  have hq : ∀ a : Nat, a < s.heap.size → ¬ A a → H[a]? = s.heap[a]? := hS.2.1
  exact ⟨va_T.narrow (va_T.moved hv (va_T.kept h.1 hq)) hAB, va_T.narrow (va_T.moved hv (va_T.kept h.2.1 hq)) hAB, va_T.narrow (va_T.moved hv (va_T.kept h.2.2 hq)) hAB⟩
/-- links between nest mates -/
def NST : List Cond := [.fieldLinkNest "RainVault" 218 "RainVault$Roof" "spots" "[I" "RainVault",
  .fieldLinkNest "RainVault" 78 "RainVault$Roof" "cisterns" "I" "RainVault",
  .fieldLinkNest "RainVault$TextReader" 70 "RainVault$Roof" "cisterns" "I" "RainVault",
  .fieldLinkNest "RainVault$TextReader" 92 "RainVault$Roof" "conditions" "I" "RainVault",
  .fieldLinkNest "RainVault" 120 "RainVault$Roof" "conditions" "I" "RainVault",
  .fieldLinkNest "RainVault$TextReader" 64 "RainVault$Roof" "isCold" "Z" "RainVault",
  .fieldLinkNest "RainVault" 103 "RainVault$Roof" "isCold" "Z" "RainVault",
  .fieldLinkNest "RainVault" 270 "RainVault$Roof" "hour" "I" "RainVault",
  .fieldLinkNest "RainVault" 157 "RainVault$Roof" "ranOff" "I" "RainVault",
  .fieldLinkNest "RainVault" 208 "RainVault$Roof" "z" "I" "RainVault",
  .fieldLinkNest "RainVault" 175 "RainVault$Survey" "firstSigns" "[I" "RainVault",
  .fieldLinkNest "RainVault" 172 "RainVault$Survey" "opening" "I" "RainVault",
  .fieldLinkNest "RainVault" 182 "RainVault$Survey" "fewestWet" "I" "RainVault",
  .fieldLinkNest "RainVault" 185 "RainVault$Survey" "commonSides" "I" "RainVault",
  .fieldLinkNest "RainVault" 191 "RainVault$Carrier" "way" "[I" "RainVault",
  .fieldLinkNest "RainVault$TextReader" 51 "RainVault$Tokens" "sorts" "[I" "RainVault",
  .fieldLinkNest "RainVault$TextReader" 43 "RainVault$Tokens" "starts" "[I" "RainVault",
  .fieldLinkNest "RainVault$TextReader" 103 "RainVault$Tokens" "values" "[I" "RainVault",
  .fieldLinkNest "RainVault" 249 "RainVault$Sheet" "numbers" "[I" "RainVault",
  .fieldLinkNest "RainVault" 243 "RainVault$Sheet" "bits" "I" "RainVault",
  .fieldLinkNest "RainVault" 234 "RainVault$Sheet" "length" "I" "RainVault",
  .fieldLinkNest "RainVault$Roof" 72 "RainVault" "KINDS_OF" "[I" "RainVault",
  .fieldLinkNest "RainVault$Roof" 58 "RainVault" "LEAST_FACT" "[I" "RainVault",
  .fieldLinkNest "RainVault$Roof" 65 "RainVault" "MOST_FACT" "[I" "RainVault",
  .methodLinkNest "RainVault" 9 ⟨"RainVault$Roof", "<init>", "()V"⟩ "RainVault",
  .methodLinkNest "RainVault" 53 ⟨"RainVault$Sheet", "<init>", "()V"⟩ "RainVault",
  .methodLinkNest "RainVault$Roof" 61 ⟨"RainVault", "at", "([II)I"⟩ "RainVault",
  .methodLinkNest "RainVault$Roof" 68 ⟨"RainVault", "isWithin", "(III)Z"⟩ "RainVault",
  .methodLinkNest "RainVault$Roof" 126 ⟨"RainVault", "put", "([III)V"⟩ "RainVault",
  .methodLinkNest "RainVault$Roof" 122 ⟨"RainVault", "sideOf", "(I)I"⟩ "RainVault",
  .methodLinkNest "RainVault$Roof" 41 ⟨"RainVault", "copyRow", "([I[I)V"⟩ "RainVault",
  .methodLinkNest "RainVault$Survey" 48 ⟨"RainVault", "at", "([II)I"⟩ "RainVault",
  .methodLinkNest "RainVault$Survey" 52 ⟨"RainVault", "put", "([III)V"⟩ "RainVault",
  .methodLinkNest "RainVault$Survey" 59 ⟨"RainVault", "sideOf", "(I)I"⟩ "RainVault",
  .methodLinkNest "RainVault$Survey" 86 ⟨"RainVault", "copyRow", "([I[I)V"⟩ "RainVault",
  .methodLinkNest "RainVault$Carrier" 42 ⟨"RainVault", "at", "([II)I"⟩ "RainVault",
  .methodLinkNest "RainVault$Carrier" 49 ⟨"RainVault", "put", "([III)V"⟩ "RainVault",
  .methodLinkNest "RainVault$Tokens" 37 ⟨"RainVault", "at", "([II)I"⟩ "RainVault",
  .methodLinkNest "RainVault$Tokens" 45 ⟨"RainVault", "put", "([III)V"⟩ "RainVault",
  .methodLinkNest "RainVault$TextReader" 47 ⟨"RainVault", "at", "([II)I"⟩ "RainVault",
  .methodLinkNest "RainVault$TextReader" 106 ⟨"RainVault", "isWithin", "(III)Z"⟩ "RainVault",
  .methodLinkNest "RainVault$TextReader" 95 ⟨"RainVault", "mostRight", "(I)I"⟩ "RainVault",
  .methodLinkNest "RainVault$Sheet" 28 ⟨"RainVault", "put", "([III)V"⟩ "RainVault"]
def isNest : Cond → Bool
  | .fieldLinkNest _ _ _ _ _ _ => true
  | .methodLinkNest _ _ _ _ => true
  | _ => false
theorem NST_ok : NST.all isNest = true := by decide +kernel
def nN (U : State) : Prop := ∀ w ∈ NST, va_Nw w U
theorem nN_warm {s U : State} (hW : s.WarmedH U.vm) (h : nN s) : nN U := by
  intro w hw
  have h1 := List.all_eq_true.mp NST_ok w hw
  have h2 := h w hw
  cases w <;> first | exact va_Nw.warmF hW h2 | exact va_Nw.warmM hW h2 | cases h1
theorem nN_same {s U : State} (hv : s.vm = U.vm) (h : nN s) : nN U := by
  intro w hw
  have h1 := List.all_eq_true.mp NST_ok w hw
  have h2 := h w hw
  cases w <;> first | exact va_Nw.same rfl hv h2 | cases h1
def cZ (g : gG) (A : Nat → Prop) (U : State) (H : Heap) : Prop := va_Z "RainVault" "LEAST_FACT" "[I" (.ref (g.2.2 0)) A U H ∧ va_Z "RainVault" "MOST_FACT" "[I" (.ref (g.2.2 1)) A U H ∧ va_Z "RainVault" "KINDS_OF" "[I" (.ref (g.2.2 2)) A U H
/-- the texts: lengths, bytes, and where the classes name them -/
def sLen : List Nat := [7, 6, 4, 6, 5, 6, 3, 4, 5, 4, 2, 5, 4, 4, 4]
def sByt : List (List Int32) := [[99, 105, 115, 116, 101, 114, 110], [115, 105, 112, 104, 111, 110], [115, 108, 111, 119], [116, 105, 112, 112, 101, 100], [102, 97, 108, 115, 101], [102, 114, 111, 122, 101, 110], [105, 99, 101], [104, 105, 103, 104], [108, 101, 118, 101, 108], [108, 101, 97, 107], [116, 111], [99, 97, 116, 99, 104], [108, 111, 99, 107], [99, 111, 108, 100], [119, 97, 114, 109]]
def sTab : List (String × Nat × String × Nat) := [("RainVault$Tokens", 101, "lock", 12), ("RainVault$Tokens", 103, "cold", 13), ("RainVault$Tokens", 105, "warm", 14), ("RainVault$Tokens", 107, "cistern", 0), ("RainVault$Tokens", 79, "siphon", 1), ("RainVault$Tokens", 81, "slow", 2), ("RainVault$Tokens", 83, "tipped", 3), ("RainVault$Tokens", 85, "false", 4), ("RainVault$Tokens", 87, "frozen", 5), ("RainVault$Tokens", 89, "ice", 6), ("RainVault$Tokens", 91, "high", 7), ("RainVault$Tokens", 93, "level", 8), ("RainVault$Tokens", 95, "leak", 9), ("RainVault$Tokens", 97, "to", 10), ("RainVault$Tokens", 99, "catch", 11), ("RainVaultModel", 275, "catch", 11), ("RainVaultModel", 287, "lock", 12), ("RainVaultModel", 292, "cold", 13), ("RainVaultModel", 294, "warm", 14), ("RainVaultModel", 296, "high", 7), ("RainVaultModel", 30, "cistern", 0), ("RainVaultModel", 302, "level", 8), ("RainVaultModel", 304, "leak", 9), ("RainVaultModel", 306, "to", 10), ("RainVaultModel", 32, "siphon", 1), ("RainVaultModel", 34, "slow", 2), ("RainVaultModel", 36, "tipped", 3), ("RainVaultModel", 38, "false", 4), ("RainVaultModel", 40, "frozen", 5), ("RainVaultModel", 42, "ice", 6)]
def cS (g : gG) (A : Nat → Prop) (U : State) (H : Heap) : Prop := vk_S 15 sLen sByt (fun i => g.2.2 (10 + i)) (fun i => g.2.2 (30 + i)) A U H ∧ (∀ q ∈ sTab, vk_R q.1 q.2.1 q.2.2.1 (g.2.2 (10 + q.2.2.2)) U) ∧ va_Z "java/lang/String" "COMPACT_STRINGS" "Z" (.int 1) A U H ∧ va_Zq "jdk/internal/util/Preconditions" "SIOOBE_FORMATTER" "Ljava/util/function/BiFunction;" A U H
theorem cS.call {g : gG} {A B : Nat → Prop} {s U : State} {H : Heap} {locs : List Loc} (h : cS g A s s.heap) (hS : va_S A s.heap H locs) (hv : s.vm.Alike U.vm) (hR : ∀ (own : String) (k : Nat) (tx : String) (a : Nat), vk_R own k tx a s → vk_R own k tx a U) (hAB : ∀ q, B q → A q) : cS g B U H := by
  have hq : ∀ a : Nat, a < s.heap.size → ¬ A a → H[a]? = s.heap[a]? := hS.2.1
  exact ⟨vk_S.narrow (vk_S.moved hv (vk_S.kept h.1 hq)) hAB, fun q hq => hR _ _ _ _ (h.2.1 q hq), va_Z.narrow (va_Z.moved hv (va_Z.kept h.2.2.1 hq)) hAB, va_Zq.narrow (va_Zq.moved hv (va_Zq.kept h.2.2.2 hq)) hAB⟩
def EV (g : gG) (A : Nat → Prop) (U : State) : Prop := va_K g.1 vwK (tysG g) U ∧ nN U ∧ tkG g A U U.heap ∧ True ∧ cZ g A U U.heap ∧ cS g A U U.heap
theorem cZ.call {g : gG} {A B : Nat → Prop} {s U : State} {H : Heap} {locs : List Loc} (h : cZ g A s s.heap) (hS : va_S A s.heap H locs) (hv : s.vm.Alike U.vm) (hAB : ∀ q, B q → A q) : cZ g B U H := by
  have hq : ∀ a : Nat, a < s.heap.size → ¬ A a → H[a]? = s.heap[a]? := hS.2.1
  exact ⟨va_Z.narrow (va_Z.moved hv (va_Z.kept h.1 hq)) hAB, va_Z.narrow (va_Z.moved hv (va_Z.kept h.2.1 hq)) hAB, va_Z.narrow (va_Z.moved hv (va_Z.kept h.2.2 hq)) hAB⟩
theorem EV.call {g : gG} {A B : Nat → Prop} {s U : State} {H : Heap} {locs : List Loc} (h : EV g A s) (hS : va_S A s.heap H locs) (hU : U.heap = H) (hW : s.WarmedH U.vm) (hAB : ∀ q, B q → A q) : EV g B U :=
  ⟨va_K.moved hW.alike h.1, nN_warm hW h.2.1, by rw [hU]; exact h.2.2.1.call hS hW.alike hAB, trivial, by rw [hU]; exact h.2.2.2.2.1.call hS hW.alike hAB, by rw [hU]; exact h.2.2.2.2.2.call hS hW.alike (fun _ _ _ _ q => vk_R.warm hW q) hAB⟩
theorem EV.same {g : gG} {A : Nat → Prop} {s U : State} (h : EV g A s) (hv : s.vm = U.vm) (hh : s.heap = U.heap) : EV g A U :=
  ⟨va_K.moved (by rw [hv]; exact Vm.Alike.refl _) h.1, nN_same hv h.2.1, by rw [← hh]; exact h.2.2.1.call (locs := []) va_S.rf (by rw [hv]; exact Vm.Alike.refl _) (fun _ q => q), trivial, by rw [← hh]; exact h.2.2.2.2.1.call (locs := []) va_S.rf (by rw [hv]; exact Vm.Alike.refl _) (fun _ q => q), by rw [← hh]; exact h.2.2.2.2.2.call (locs := []) va_S.rf (by rw [hv]; exact Vm.Alike.refl _) (fun _ _ _ _ q => vk_R.same hv.symm q) (fun _ q => q)⟩
abbrev rmm (F L : Nat) : Room := { frames := F, cells := 0, slots := 0, locals := L }
abbrev PcG (g : gG) (wi : va_W) (av : List Value) (sz : Nat) : Array Value → State → Prop := va_Pc av (fun U => U.heap.size = sz ∧ va_P g.1 vwK wi U.heap ∧ EV g (va_A wi sz) U ∧ va_D (fun _ => True) wi)
abbrev QcG (g : gG) (wi wo : va_W) (ov : Option Value) (sz : Nat) : Array Value → State → Outcome → State → Prop := fun _ st oc t => oc = .returned ov ∧ va_P g.1 vwK wo t.heap ∧ va_D (va_A wi sz) wo ∧ va_F (va_A wi sz) st t
/-- a contract of a method that makes nothing: its world before and behind, its arguments, its answer -/
def Ct (l : Launch) (y : MethodName) (ws : List Cond) (rm : Room) (g : gG) (wi wo : va_W) (av : List Value) (ov : Option Value) : Prop := ∀ sz : Nat, Met l y ws rm (PcG g wi av sz) (QcG g wi wo ov sz) 0 0 (va_A wi sz)
theorem PcG_blind {g : gG} {wi : va_W} {av : List Value} {sz : Nat} : FrameBlind (PcG g wi av sz) := by
  intro a U gg mk h
  obtain ⟨h1, h2, h3, h4, h5⟩ := h
  exact ⟨h1, h2, h3, h4.same rfl rfl, h5⟩
theorem Ct.mk {l : Launch} {y : MethodName} {ws ws' : List Cond} {F L : Nat} {g : gG} {wi wo : va_W} {av : List Value} {ov : Option Value} {cc : ByteArray} {maxL : Nat} {ret : Option FieldType} (hy : plainName y.cls = true) (hw : ws = Cond.code y cc maxL ret :: ws') (hn : (lg_sl av).length ≤ maxL)
    (body : ∀ (p : Program) (e : Env) (s : State) (m : MethodId) (args : Array Value) (below : List Frame) (meth : Method) (c : Code) (A : Nat → Prop) (ls : Array Slot), p.tables.exec = Jvm.exec → c.code = cc → meth.sig.returnType = ret → c.maxLocals = maxL → (∀ w ∈ ws, w.before args s = true) → s.vm.findClass y.cls = some m.cls → meth.locks = false → (∀ q : Nat, s.heap.size ≤ q → A q) → EV g A s → va_P g.1 vwK wi s.heap → va_D A wi → va_S A s.heap s.heap [] → lv_has ls maxL (lv_args 0 av) → va_A wi s.heap.size = A →
      W p l e (rmm F L) s m args below meth c s.heap [] 0 0 (MQ below (QcG g wi wo ov s.heap.size) args s 0 0 A) (F0 m 0 ls [])) : Ct l y ws (rmm F L) g wi wo av ov := by
  intro sz
  refine Met.ofW (cc := cc) (maxL := maxL) (ret := ret) hy hw ?_
  intro p e s m args below meth c s₁ B hml hv
  obtain ⟨rfl, hsz, hP, hE, hD0⟩ := hv
  subst hsz
  have hts := atoms_spec (ws := ws) B.pre
  have hl := lv_entry av (n := maxL) hn
  rw [lg_entry_eq]
  exact body p e s m _ below meth c _ _ B.exec B.bytes B.returns hml hts (findClass_of_methodNamed B.named) B.notSynchronized (fun q h => Or.inr h) hE hP hD0.self va_S.rf hl rfl
theorem Ct.iret {p : Program} {l : Launch} {e : Env} {R : Room} {s : State} {m : MethodId} {args : Array Value} {below : List Frame} {meth : Method} {c : Code} {H : Heap} {locs : List Loc} {cc : ByteArray} {g : gG} {wi wo : va_W} {v : Int32} {A : Nat → Prop} (hx : p.tables.exec = Jvm.exec) (hb : c.code = cc) (hr : meth.sig.returnType = some .int) (hlocks : meth.locks = false) (hA : va_A wi s.heap.size = A) (hP : va_P g.1 vwK wo H) (hD : va_D A wo) (hS : va_S A s.heap H locs) {pc : Nat} {ls : Array Slot} (hdg : decode cc pc = .ok (.ireturn, 1)) :
    W p l e R s m args below meth c H locs 0 0 (MQ below (QcG g wi wo (some (.int v)) s.heap.size) args s 0 0 A) (F0 m pc ls [.int v]) := by
  subst hA
  exact W.iret hx hb hr (fun t ht hW => ⟨rfl, by rw [ht]; exact hP, hD, hS.F ht⟩) hS.2.2 hdg hlocks
theorem Ct.vret {p : Program} {l : Launch} {e : Env} {R : Room} {s : State} {m : MethodId} {args : Array Value} {below : List Frame} {meth : Method} {c : Code} {H : Heap} {locs : List Loc} {cc : ByteArray} {g : gG} {wi wo : va_W} {A : Nat → Prop} (hx : p.tables.exec = Jvm.exec) (hb : c.code = cc) (hr : meth.sig.returnType = none) (hlocks : meth.locks = false) (hA : va_A wi s.heap.size = A) (hP : va_P g.1 vwK wo H) (hD : va_D A wo) (hS : va_S A s.heap H locs) {pc : Nat} {ls : Array Slot} (hdg : decode cc pc = .ok (.return_, 1)) :
    W p l e R s m args below meth c H locs 0 0 (MQ below (QcG g wi wo none s.heap.size) args s 0 0 A) (F0 m pc ls []) := by
  subst hA
  exact W.vret hx hb hr (fun t ht hW => ⟨rfl, by rw [ht]; exact hP, hD, hS.F ht⟩) hS.2.2 hdg hlocks
