/-! ===== the words that go along with a call (TB), and the nest's (NB) ===== -/
def isNest (w : Cond) : Bool := match w with
  | .fieldLinkNest _ _ _ _ _ _ => true
  | .methodLinkNest _ _ _ _ => true
  | _ => false
def TB : List Cond := lw_tbl.filter goodWord
def NB : List Cond := tables_1.filter isNest
theorem tb_mem {w : Cond} (i : Nat) (h : lw_tbl[i]? = some w) (hg : goodWord w = true) : w ∈ TB := List.mem_filter.mpr ⟨List.mem_of_getElem? h, hg⟩
theorem nb_mem {w : Cond} (i : Nat) (h : tables_1[i]? = some w) (hg : isNest w = true) : w ∈ NB := List.mem_filter.mpr ⟨List.mem_of_getElem? h, hg⟩
theorem tb_goodIn {w : Cond} (h : w ∈ TB) : GoodIn TB (w :: TB) := by
  intro v hv
  have hv : v ∈ TB := by
    rcases List.mem_cons.mp hv with e | e
    · rw [e]; exact h
    · exact e
  exact ⟨hv, good_of_word (List.mem_filter.mp hv).2⟩
theorem nb_warm {s U : State} (hW : s.WarmedH U.vm) (h : ∀ w ∈ NB, va_Nw w s) : ∀ w ∈ NB, va_Nw w U := by
  intro w hw
  have h1 := h w hw
  have h2 := (List.mem_filter.mp hw).2
  unfold isNest at h2
  split at h2
  · exact va_Nw.warmF hW h1
  · exact va_Nw.warmM hW h1
  · cases h2
theorem nb_on {w : Cond} (hw : w ∈ NB) : w.onTables = true := by
  have h2 := (List.mem_filter.mp hw).2
  unfold isNest at h2
  split at h2
  · rfl
  · rfl
  · cases h2
/-! ===== the abstract store: the ints of cell k (fields by their slots, elements by their places), its long ===== -/
abbrev St : Type := (Nat → Nat → Int32) × (Nat → Int64)
def up (s : St) (k i : Nat) (v : Int32) : St := (va_up s.1 k (upd (s.1 k) i v), s.2)
def upL (s : St) (k : Nat) (v : Int64) : St := (s.1, va_up s.2 k v)
abbrev ib (i : Int32) (n : Nat) : Prop := ¬ (i < 0 ∨ n ≤ i.toNatClampNeg)
/-- an element is read; where its place is none of the row: no answer -/
def rd {α : Type} (s : St) (k n : Nat) (i : Int32) (c : Int32 → Option α) : Option α := if ib i n then c (s.1 k i.toNatClampNeg) else none
def wr {α : Type} (s : St) (k n : Nat) (i v : Int32) (c : St → Option α) : Option α := if ib i n then c (up s k i.toNatClampNeg v) else none
/-- an element of an array of scenes: the number of that scene's cell -/
def ra {α : Type} (k n : Nat) (i : Int32) (c : Nat → Option α) : Option α := if ib i n then c (k + 1 + 3 * i.toNatClampNeg) else none
def pu {α : Type} (s : St) (k i : Nat) (v : Int32) (c : St → Option α) : Option α := c (up s k i v)
/-- a boolean field -/
def puZ {α : Type} (s : St) (k i : Nat) (v : Int32) (c : St → Option α) : Option α := if v = 0 ∨ v = 1 then c (up s k i v) else none
def puL {α : Type} (s : St) (k : Nat) (v : Int64) (c : St → Option α) : Option α := c (upL s k v)
def cl {α : Type} (f : Option (Int32 × St)) (c : Int32 → St → Option α) : Option α := f.bind fun q => c q.1 q.2
def jn {α κ : Type} (k : κ) (f : κ → Option α) : Option α := f k
def dv {α : Type} (y : Int32) (c : Option α) : Option α := if y = 0 then none else c
def rz (v : Int32) (s : St) : Option (Int32 × St) := if v = 0 ∨ v = 1 then some (v, s) else none
/-! ===== the world: 80 cells from B on ===== -/
def kdL : List Nat := [6, 5, 9, 1, 8, 8, 8, 8, 8, 1, 8, 8, 8, 8, 8, 3, 8, 8, 3, 8, 8, 2, 11, 3, 8, 8, 3, 8, 8, 3, 8, 8, 3, 8, 8, 3, 8, 8, 3, 8, 8, 3, 8, 8, 3, 8, 8, 3, 8, 8, 3, 8, 8, 11, 3, 8, 8, 3, 8, 8, 10, 0, 8, 8, 4, 10, 8, 7, 8, 8, 8, 8, 8, 8, 10, 8, 8, 8, 8, 8]
def lnL : List Nat := [0, 0, 140, 0, 6, 6, 6, 6, 6, 0, 6, 6, 6, 6, 6, 0, 6, 6, 0, 6, 6, 0, 10, 0, 6, 6, 0, 6, 6, 0, 6, 6, 0, 6, 6, 0, 6, 6, 0, 6, 6, 0, 6, 6, 0, 6, 6, 0, 6, 6, 0, 6, 6, 2, 0, 6, 6, 0, 6, 6, 2, 0, 6, 6, 0, 147, 9, 0, 6, 6, 6, 14, 140, 28, 2, 18, 140, 30, 14, 6]
def kd (k : Nat) : Nat := kdL.getD k 99
def ln (k : Nat) : Nat := lnL.getD k 0
abbrev Ce : Type := Launch × Nat × va_G × ClassId × ClassId × ClassId × ClassId
def Ce.l (E : Ce) : Launch := E.1
def Ce.B (E : Ce) : Nat := E.2.1
def Ce.D (E : Ce) : va_G := E.2.2.1
def Ce.cI (E : Ce) : ClassId := E.2.2.2.1
def Ce.cC (E : Ce) : ClassId := E.2.2.2.2.1
def Ce.cZ (E : Ce) : ClassId := E.2.2.2.2.2.1
def Ce.cO (E : Ce) : ClassId := E.2.2.2.2.2.2
def f_0 (B : Nat) (f : Nat → Int32) : List Value := [.ref (B + 9), .int (f 1), .ref (B + 62), .ref (B + 63)]
def f_1 (B k : Nat) (f : Nat → Int32) : List Value := [.int (f 0), .ref (B + (k + 1)), .ref (B + (k + 2)), .ref (B + (k + 3)), .ref (B + (k + 4)), .ref (B + (k + 5))]
def f_2 (B : Nat) (f : Nat → Int32) : List Value := [.ref (B + 22), .int (f 1), .int (f 2)]
def f_3 (B k : Nat) (f : Nat → Int32) : List Value := [.ref (B + 9), .int (f 1), .int (f 2), .ref (B + (k + 1)), .ref (B + (k + 2))]
def f_4 (B : Nat) (f : Nat → Int32) : List Value := [.int (f 0), .ref (B + 65)]
def f_5 (B : Nat) (f : Nat → Int32) : List Value := [.ref (B + 2), .int (f 1), .int (f 2), .int (f 3), .int (f 4), .int (f 5)]
def f_6 (B : Nat) (t : Int64) : List Value := [.ref (B + 1), .ref (B + 3), .ref (B + 9), .ref (B + 15), .ref (B + 18), .ref (B + 21), .ref (B + 53), .ref (B + 60), .ref (B + 61), .ref (B + 64), .ref (B + 66), .long t]
def f_7 (B : Nat) (f : Nat → Int32) (t : Int64) : List Value := [.int (f 0), .ref (B + 68), .ref (B + 69), .ref (B + 70), .ref (B + 71), .ref (B + 72), .int (f 6), .ref (B + 73), .ref (B + 74), .int (f 9), .ref (B + 75), .long t, .ref (B + 76), .int (f 13), .int (f 14), .int (f 15), .int (f 16), .int (f 17), .int (f 18), .int (f 19), .int (f 20), .ref (B + 77), .ref (B + 78), .int (f 23), .ref (B + 79)]
def f_11 (B k : Nat) : Nat → Option Nat := fun i => some (B + (k + 1 + 3 * i))
def cellE (E : Ce) (k : Nat) (f : Nat → Int32) (t : Int64) : va_E :=
  if kd k = 8 then .inl (E.cI, ln k, .inl f) else if kd k = 9 then .inl (E.cC, ln k, .inl f) else if kd k = 10 then .inl (E.cZ, ln k, .inl f) else if kd k = 11 then .inl (E.cO, ln k, .inr (.inr (.inr (.inr (f_11 E.B k))))) else
  if kd k = 0 then .inr (0, f_0 E.B f) else if kd k = 1 then .inr (1, f_1 E.B k f) else if kd k = 2 then .inr (2, f_2 E.B f) else if kd k = 3 then .inr (3, f_3 E.B k f) else
  if kd k = 4 then .inr (4, f_4 E.B f) else if kd k = 5 then .inr (5, f_5 E.B f) else if kd k = 6 then .inr (6, f_6 E.B t) else .inr (7, f_7 E.B f t)
section
variable {E : Ce} {k : Nat} {f : Nat → Int32} {t : Int64}
theorem ce_0 (h : kd k = 0) : cellE E k f t = .inr (0, f_0 E.B f) := by simp [cellE, h]
theorem ce_1 (h : kd k = 1) : cellE E k f t = .inr (1, f_1 E.B k f) := by simp [cellE, h]
theorem ce_2 (h : kd k = 2) : cellE E k f t = .inr (2, f_2 E.B f) := by simp [cellE, h]
theorem ce_3 (h : kd k = 3) : cellE E k f t = .inr (3, f_3 E.B k f) := by simp [cellE, h]
theorem ce_4 (h : kd k = 4) : cellE E k f t = .inr (4, f_4 E.B f) := by simp [cellE, h]
theorem ce_5 (h : kd k = 5) : cellE E k f t = .inr (5, f_5 E.B f) := by simp [cellE, h]
theorem ce_6 (h : kd k = 6) : cellE E k f t = .inr (6, f_6 E.B t) := by simp [cellE, h]
theorem ce_7 (h : kd k = 7) : cellE E k f t = .inr (7, f_7 E.B f t) := by simp [cellE, h]
theorem ce_8 (h : kd k = 8) : cellE E k f t = .inl (E.cI, ln k, .inl f) := by simp [cellE, h]
theorem ce_9 (h : kd k = 9) : cellE E k f t = .inl (E.cC, ln k, .inl f) := by simp [cellE, h]
theorem ce_10 (h : kd k = 10) : cellE E k f t = .inl (E.cZ, ln k, .inl f) := by simp [cellE, h]
theorem ce_11 (h : kd k = 11) : cellE E k f t = .inl (E.cO, ln k, .inr (.inr (.inr (.inr (f_11 E.B k))))) := by simp [cellE, h]
end
def wl (E : Ce) (s : St) : va_W := (List.range 80).map fun k => (E.B + k, cellE E k (s.1 k) (s.2 k))
theorem wl_at (E : Ce) (s : St) {k : Nat} (hk : k < 80) : (wl E s)[k]? = some (E.B + k, cellE E k (s.1 k) (s.2 k)) := by simp [wl, hk]
theorem wl_set (E : Ce) (s s' : St) {k : Nat} (hk : k < 80) (h2 : ∀ j, j ≠ k → s'.1 j = s.1 j ∧ s'.2 j = s.2 j) : (wl E s).set k (E.B + k, cellE E k (s'.1 k) (s'.2 k)) = wl E s' := by
  apply List.ext_getElem?
  intro i
  rw [List.getElem?_set]
  by_cases hi : k = i
  · subst hi
    simp [wl, hk]
  · rw [if_neg hi]
    by_cases h8 : i < 80
    · rw [wl_at E s h8, wl_at E s' h8, (h2 i (Ne.symm hi)).1, (h2 i (Ne.symm hi)).2]
    · simp [wl, h8]
def AA (E : Ce) : Nat → Prop := fun q => E.B ≤ q
theorem wl_D (E : Ce) (s : St) : va_D (AA E) (wl E s) := by
  have h : ∀ (i : Nat) (p : Nat × va_E), (wl E s)[i]? = some p → p.1 = E.B + i := by
    intro i p hp
    by_cases h8 : i < 80
    · rw [wl_at E s h8] at hp
      cases hp; rfl
    · simp [wl, h8] at hp
  refine ⟨fun i j p q hp hq e => ?_, fun i p hp => ?_⟩
  · rw [h i p hp, h j q hq] at e; omega
  · show E.B ≤ p.1
    rw [h i p hp]; omega
def tys (E : Ce) : List (ClassId × FieldType) := [(E.cI, .int), (E.cC, .char), (E.cZ, .boolean), (E.cO, .object "ScytheKeepers$Scene")]
def rmD (d : Nat) : Room := { frames := d, cells := 0, slots := 0, locals := 40 * d }
def Wd (E : Ce) (s : St) (U : State) : Prop := va_P E.D vwCl (wl E s) U.heap ∧ va_K E.D vwCl (tys E) U ∧ ∀ w ∈ NB, va_Nw w U
/-! ===== locals, by place; .null: not told ===== -/
def LH (ls : Array Slot) (nL : Nat) (L : List Value) : Prop := ls.size = nL ∧ lv_wf ls ∧ ∀ (i : Nat) (v : Value), L[i]? = some v → v ≠ .null → v.category = 1 ∧ ls[i]? = some (.val v)
def asl (L : List Value) : List (Nat × Value) := (List.range L.length).filterMap fun j => match (L[j]? : Option Value) with
  | some Value.null => none
  | some w => some (j, w)
  | none => none
theorem asl_mem {L : List Value} {j : Nat} {w : Value} (h : L[j]? = some w) (hw : w ≠ .null) : (j, w) ∈ asl L := by
  unfold asl
  refine List.mem_filterMap.mpr ⟨j, List.mem_range.mpr (List.getElem?_eq_some_iff.mp h).1, ?_⟩
  rw [h]
  cases w <;> first | rfl | exact absurd rfl hw
theorem asl_of {L : List Value} {q : Nat × Value} (h : q ∈ asl L) : L[q.1]? = some q.2 ∧ q.2 ≠ .null := by
  unfold asl at h
  obtain ⟨j, -, hj⟩ := List.mem_filterMap.mp h
  split at hj
  · cases hj
  · rename_i w hw h2
    cases hj
    exact ⟨h2, fun e => hw e⟩
  · cases hj
theorem LH.has {ls : Array Slot} {nL : Nat} {L : List Value} (h : LH ls nL L) : lv_has ls nL (asl L) := ⟨h.1, h.2.1, fun q hq => (h.2.2 q.1 q.2 (asl_of hq).1 (asl_of hq).2).2⟩
theorem LH.set {ls ls' : Array Slot} {nL i : Nat} {L : List Value} {v : Value} (h : LH ls nL L) (hv : v.category = 1) (h' : lv_has ls' nL ((i, v) :: (asl L).filter (fun q => !(q.1 == i) && !(q.1 + 1 == i && q.2.category == 2)))) : LH ls' nL (L.set i v) := by
  refine ⟨h'.1, h'.2.1, fun j w hj hw => ?_⟩
  rw [List.getElem?_set] at hj
  by_cases hi : i = j
  · subst hi
    rw [if_pos rfl] at hj
    split at hj
    · cases hj
      exact ⟨hv, h'.2.2 (i, v) List.mem_cons_self⟩
    · cases hj
  · rw [if_neg hi] at hj
    have hc := (h.2.2 j w hj hw).1
    refine ⟨hc, h'.2.2 (j, w) (List.mem_cons_of_mem _ (List.mem_filter.mpr ⟨asl_mem hj hw, ?_⟩))⟩
    simp [Ne.symm hi, hc]
/-- fewer locals are told -/
def lsub : List Value → List Value → Prop
  | [], _ => True
  | .null :: l, _ :: l' => lsub l l'
  | v :: l, w :: l' => v = w ∧ lsub l l'
  | _ :: _, [] => False
theorem lsub_at : ∀ (l l' : List Value), lsub l l' → ∀ (i : Nat) (v : Value), l[i]? = some v → v ≠ .null → l'[i]? = some v
  | [], _, _, i, v, h, _ => by simp at h
  | x :: l, [], h, i, v, hi, hv => by
    cases x <;> simp [lsub] at h
  | x :: l, y :: l', h, i, v, hi, hv => by
    have h2 : (x = .null ∨ x = y) ∧ lsub l l' := by
      cases x <;> first | exact ⟨Or.inl rfl, h⟩ | exact ⟨Or.inr h.1, h.2⟩
    cases i with
    | zero =>
      simp at hi
      subst hi
      rcases h2.1 with e | e
      · exact absurd e hv
      · simp [e]
    | succ i =>
      simp at hi
      simpa using lsub_at l l' h2.2 i v hi hv
theorem LH.weak {ls : Array Slot} {nL : Nat} {L L' : List Value} (h : LH ls nL L) (hs : lsub L' L) : LH ls nL L' := ⟨h.1, h.2.1, fun i v hi hv => h.2.2 i v (lsub_at L' L hs i v hi hv) hv⟩
/-! ===== the judgement ===== -/
abbrev Cx : Type := Ce × Program × Env × Room × State × MethodId × Array Value × List Frame × Method × Code × (Int32 → St → State → Prop) × Nat × Nat
def Cx.E (X : Cx) : Ce := X.1
def Cx.p (X : Cx) : Program := X.2.1
def Cx.e (X : Cx) : Env := X.2.2.1
def Cx.R (X : Cx) : Room := X.2.2.2.1
def Cx.s (X : Cx) : State := X.2.2.2.2.1
def Cx.m (X : Cx) : MethodId := X.2.2.2.2.2.1
def Cx.args (X : Cx) : Array Value := X.2.2.2.2.2.2.1
def Cx.below (X : Cx) : List Frame := X.2.2.2.2.2.2.2.1
def Cx.meth (X : Cx) : Method := X.2.2.2.2.2.2.2.2.1
def Cx.c (X : Cx) : Code := X.2.2.2.2.2.2.2.2.2.1
def Cx.Q (X : Cx) : Int32 → St → State → Prop := X.2.2.2.2.2.2.2.2.2.2.1
def Cx.kc (X : Cx) : Nat := X.2.2.2.2.2.2.2.2.2.2.2.1
def Cx.ks (X : Cx) : Nat := X.2.2.2.2.2.2.2.2.2.2.2.2
abbrev Cx.B (X : Cx) : Nat := X.E.B
/-- from here (at pc, with these locals and this operand stack, the store being s) the method comes to the end that o tells -/
def G (X : Cx) (pc : Nat) (L S : List Value) (s : St) (o : Option (Int32 × St)) : Prop :=
  ∀ (r : Int32) (s' : St), o = some (r, s') → ∀ (H : Heap) (locs : List Loc) (ls : Array Slot), va_P X.E.D vwCl (wl X.E s) H → va_S (AA X.E) X.s.heap H locs → LH ls X.c.maxLocals L → W X.p X.E.l X.e X.R X.s X.m X.args X.below X.meth X.c H locs X.kc X.ks (X.Q r s') (F0 X.m pc ls S)
def Ok (X : Cx) (cc : ByteArray) (own : String) (nL d : Nat) : Prop :=
  X.p.tables.exec = Jvm.exec ∧ X.c.code = cc ∧ X.s.vm.findClass own = some X.m.cls ∧ (∀ w ∈ TB, w.before X.args X.s = true) ∧ (∀ w ∈ NB, va_Nw w X.s) ∧ va_K X.E.D vwCl (tys X.E) X.s ∧ X.c.maxLocals = nL ∧ d ≤ X.R.frames ∧ 40 * d ≤ X.R.locals ∧ X.kc ≤ X.R.cells ∧ X.ks ≤ X.R.slots
/-- what a return at its end means -/
def RI (X : Cx) (cc : ByteArray) : Prop := ∀ (pc : Nat) (v : Int32) (s : St) (H : Heap) (locs : List Loc) (ls : Array Slot), decode cc pc = .ok (.ireturn, 1) → va_P X.E.D vwCl (wl X.E s) H → va_S (AA X.E) X.s.heap H locs → W X.p X.E.l X.e X.R X.s X.m X.args X.below X.meth X.c H locs X.kc X.ks (X.Q v s) (F0 X.m pc ls [.int v])
def RZ (X : Cx) (cc : ByteArray) : Prop := ∀ (pc : Nat) (v : Int32) (s : St) (H : Heap) (locs : List Loc) (ls : Array Slot), v = 0 ∨ v = 1 → decode cc pc = .ok (.ireturn, 1) → va_P X.E.D vwCl (wl X.E s) H → va_S (AA X.E) X.s.heap H locs → W X.p X.E.l X.e X.R X.s X.m X.args X.below X.meth X.c H locs X.kc X.ks (X.Q v s) (F0 X.m pc ls [.int v])
def RV (X : Cx) (cc : ByteArray) : Prop := ∀ (pc : Nat) (s : St) (H : Heap) (locs : List Loc) (ls : Array Slot), decode cc pc = .ok (.return_, 1) → va_P X.E.D vwCl (wl X.E s) H → va_S (AA X.E) X.s.heap H locs → W X.p X.E.l X.e X.R X.s X.m X.args X.below X.meth X.c H locs X.kc X.ks (X.Q 0 s) (F0 X.m pc ls [])
section
variable {X : Cx} {cc : ByteArray} {own : String} {nL d pc : Nat} {L S : List Value} {s : St} {o o1 o2 : Option (Int32 × St)}
theorem g_none : G X pc L S s none := fun r s' e => by cases e
theorem g_weak {L' : List Value} (hs : lsub L' L) (h : G X pc L' S s o) : G X pc L S s o := fun r s' e H locs ls hP hS hL => h r s' e H locs ls hP hS (hL.weak hs)
theorem g_jn {κ : Type} {k : κ} {f : κ → Option (Int32 × St)} (P : κ → Prop) (hk : P k) (hf : ∀ k', P k' → G X pc L S s (f k')) : G X pc L S s (jn k f) := hf k hk
theorem g_if {c : Prop} [Decidable c] (h1 : c → G X pc L S s o1) (h2 : ¬ c → G X pc L S s o2) : G X pc L S s (if c then o1 else o2) := by
  by_cases q : c
  · rw [if_pos q]; exact h1 q
  · rw [if_neg q]; exact h2 q
theorem g_ir (h : RI X cc) {v : Int32} (hd : decode cc pc = .ok (.ireturn, 1)) : G X pc L [.int v] s (some (v, s)) := by
  intro r s' e H locs ls hP hS hL
  cases e
  exact h pc v s H locs ls hd hP hS
theorem g_zr (h : RZ X cc) {v : Int32} (hd : decode cc pc = .ok (.ireturn, 1)) : G X pc L [.int v] s (rz v s) := by
  intro r s' e H locs ls hP hS hL
  unfold rz at e
  split at e
  · cases e
    exact h pc v s H locs ls (by assumption) hd hP hS
  · cases e
theorem g_zr0 (h : RZ X cc) (hd : decode cc pc = .ok (.ireturn, 1)) : G X pc L [.int 0] s (some (0, s)) := by
  intro r s' e H locs ls hP hS hL
  cases e
  exact h pc 0 s H locs ls (Or.inl rfl) hd hP hS
theorem g_zr1 (h : RZ X cc) (hd : decode cc pc = .ok (.ireturn, 1)) : G X pc L [.int 1] s (some (1, s)) := by
  intro r s' e H locs ls hP hS hL
  cases e
  exact h pc 1 s H locs ls (Or.inr rfl) hd hP hS
theorem g_vr (h : RV X cc) (hd : decode cc pc = .ok (.return_, 1)) : G X pc L [] s (some (0, s)) := by
  intro r s' e H locs ls hP hS hL
  cases e
  exact h pc s H locs ls hd hP hS
theorem g_iconst (K : Ok X cc own nL d) {n : Int} (v : Int32) (hd : decode cc pc = .ok (.iconst n, 1)) (hv : Int32.ofInt n = v) (h : G X (pc + 1) L (.int v :: S) s o) : G X pc L S s o :=
  fun r s' e H locs ls hP hS hL => lv_iconst K.1 K.2.1 hd hv (h r s' e H locs ls hP hS hL)
theorem g_bipush (K : Ok X cc own nL d) {n : Int} (v : Int32) (hd : decode cc pc = .ok (.bipush n, 2)) (hv : (Int8.ofInt n).toInt32 = v) (h : G X (pc + 2) L (.int v :: S) s o) : G X pc L S s o :=
  fun r s' e H locs ls hP hS hL => lv_bipush K.1 K.2.1 hd hv (h r s' e H locs ls hP hS hL)
theorem g_sipush (K : Ok X cc own nL d) {n : Int} (v : Int32) (hd : decode cc pc = .ok (.sipush n, 3)) (hv : (Int16.ofInt n).toInt32 = v) (h : G X (pc + 3) L (.int v :: S) s o) : G X pc L S s o :=
  fun r s' e H locs ls hP hS hL => lv_sipush K.1 K.2.1 hd hv (h r s' e H locs ls hP hS hL)
theorem g_lconst (K : Ok X cc own nL d) {n : Fin 2} (v : Int64) (hd : decode cc pc = .ok (.lconst n, 1)) (hv : Int64.ofNat (n : Nat) = v) (h : G X (pc + 1) L (.long v :: S) s o) : G X pc L S s o :=
  fun r s' e H locs ls hP hS hL => lv_lconst K.1 K.2.1 hd hv (h r s' e H locs ls hP hS hL)
theorem g_ldc (K : Ok X cc own nL d) {ix : Nat} {v : Int32} (hw : Cond.constant own ix v ∈ TB) (hd : decode cc pc = .ok (.ldc ix, 2)) (h : G X (pc + 2) L (.int v :: S) s o) : G X pc L S s o :=
  fun r s' e H locs ls hP hS hL => lv_ldc K.1 K.2.1 K.2.2.1 (K.2.2.2.1 _ hw) hd (h r s' e H locs ls hP hS hL)
theorem g_ldcw (K : Ok X cc own nL d) {ix : Nat} {v : Int32} (hw : Cond.constant own ix v ∈ TB) (hd : decode cc pc = .ok (.ldc_w ix, 3)) (h : G X (pc + 3) L (.int v :: S) s o) : G X pc L S s o :=
  fun r s' e H locs ls hP hS hL => lv_ldcw K.1 K.2.1 K.2.2.1 (K.2.2.2.1 _ hw) hd (h r s' e H locs ls hP hS hL)
theorem g_ldc2 (K : Ok X cc own nL d) {ix : Nat} {v : Int64} (hw : Cond.constantLong own ix v ∈ TB) (hd : decode cc pc = .ok (.ldc2_w ix, 3)) (h : G X (pc + 3) L (.long v :: S) s o) : G X pc L S s o :=
  fun r s' e H locs ls hP hS hL => lv_ldc2 K.1 K.2.1 K.2.2.1 (K.2.2.2.1 _ hw) hd (h r s' e H locs ls hP hS hL)
theorem g_iload_n (K : Ok X cc own nL d) {k : Fin 4} (i : Nat) {x : Int32} (hd : decode cc pc = .ok (.iload_n k, 1)) (hi : (k : Nat) = i) (hl : L[i]? = some (.int x)) (h : G X (pc + 1) L (.int x :: S) s o) : G X pc L S s o :=
  fun r s' e H locs ls hP hS hL => lv_iload_n K.1 K.2.1 hd hi (hL.2.2 i _ hl (fun q => by cases q)).2 (h r s' e H locs ls hP hS hL)
theorem g_iload (K : Ok X cc own nL d) {i : Nat} {x : Int32} (hd : decode cc pc = .ok (.iload i, 2)) (hl : L[i]? = some (.int x)) (h : G X (pc + 2) L (.int x :: S) s o) : G X pc L S s o :=
  fun r s' e H locs ls hP hS hL => lv_iload K.1 K.2.1 hd (hL.2.2 i _ hl (fun q => by cases q)).2 (h r s' e H locs ls hP hS hL)
theorem g_aload_n (K : Ok X cc own nL d) {k : Fin 4} (i : Nat) {x : Nat} (hd : decode cc pc = .ok (.aload_n k, 1)) (hi : (k : Nat) = i) (hl : L[i]? = some (.ref x)) (h : G X (pc + 1) L (.ref x :: S) s o) : G X pc L S s o :=
  fun r s' e H locs ls hP hS hL => lv_aload_n K.1 K.2.1 hd hi (hL.2.2 i _ hl (fun q => by cases q)).2 (h r s' e H locs ls hP hS hL)
theorem g_aload (K : Ok X cc own nL d) {i : Nat} {x : Nat} (hd : decode cc pc = .ok (.aload i, 2)) (hl : L[i]? = some (.ref x)) (h : G X (pc + 2) L (.ref x :: S) s o) : G X pc L S s o :=
  fun r s' e H locs ls hP hS hL => lv_aload K.1 K.2.1 hd (hL.2.2 i _ hl (fun q => by cases q)).2 (h r s' e H locs ls hP hS hL)
theorem g_istore_n (K : Ok X cc own nL d) {k : Fin 4} (i : Nat) {x : Int32} (hd : decode cc pc = .ok (.istore_n k, 1)) (hi : (k : Nat) = i) (hn : i < nL) (h : G X (pc + 1) (L.set i (.int x)) S s o) : G X pc L (.int x :: S) s o :=
  fun r s' e H locs ls hP hS hL => lv_istore_n K.1 K.2.1 hd hi hL.has (by rw [K.2.2.2.2.2.2.1]; exact hn) rfl (fun ls' h' => h r s' e H locs ls' hP hS (hL.set rfl h'))
theorem g_istore (K : Ok X cc own nL d) {i : Nat} {x : Int32} (hd : decode cc pc = .ok (.istore i, 2)) (hn : i < nL) (h : G X (pc + 2) (L.set i (.int x)) S s o) : G X pc L (.int x :: S) s o :=
  fun r s' e H locs ls hP hS hL => lv_istore K.1 K.2.1 hd hL.has (by rw [K.2.2.2.2.2.2.1]; exact hn) rfl (fun ls' h' => h r s' e H locs ls' hP hS (hL.set rfl h'))
theorem g_iinc (K : Ok X cc own nL d) {i : Nat} {n : Int} {x : Int32} (v : Int32) (hd : decode cc pc = .ok (.iinc i n, 3)) (hl : L[i]? = some (.int x)) (hv : Int32.ofInt n = v) (hn : i < nL) (h : G X (pc + 3) (L.set i (.int (x + v))) S s o) : G X pc L S s o := by
  intro r s' e H locs ls hP hS hL
  obtain ⟨q, hq⟩ := List.getElem?_of_mem (asl_mem hl (fun q => by cases q))
  exact lv_iinc (v := x + v) K.1 K.2.1 hd hL.has hq (by rw [hv]) (by rw [K.2.2.2.2.2.2.1]; exact hn) rfl (fun ls' h' => h r s' e H locs ls' hP hS (hL.set rfl h'))
theorem g_dup (K : Ok X cc own nL d) {v : Value} (hd : decode cc pc = .ok (.dup, 1)) (hv : v.category = 1) (h : G X (pc + 1) L (v :: v :: S) s o) : G X pc L (v :: S) s o :=
  fun r s' e H locs ls hP hS hL => lv_dup K.1 K.2.1 hd hv (h r s' e H locs ls hP hS hL)
theorem g_dup2 (K : Ok X cc own nL d) {v w : Value} (hd : decode cc pc = .ok (.dup2, 1)) (hv : v.category = 1) (hw : w.category = 1) (h : G X (pc + 1) L (v :: w :: v :: w :: S) s o) : G X pc L (v :: w :: S) s o :=
  fun r s' e H locs ls hP hS hL => lv_dup2_11 K.1 K.2.1 hd hv hw (h r s' e H locs ls hP hS hL)
theorem g_pop (K : Ok X cc own nL d) {v : Value} (hd : decode cc pc = .ok (.pop, 1)) (hv : v.category = 1) (h : G X (pc + 1) L S s o) : G X pc L (v :: S) s o :=
  fun r s' e H locs ls hP hS hL => lv_pop K.1 K.2.1 hd hv (h r s' e H locs ls hP hS hL)
theorem g_goto (K : Ok X cc own nL d) {off : Int} (tgt : Nat) (hd : decode cc pc = .ok (.goto off, 3)) (ht : (pc : Int) + off = (tgt : Int)) (h : G X tgt L S s o) : G X pc L S s o :=
  fun r s' e H locs ls hP hS hL => lv_goto K.1 K.2.1 hd ht (h r s' e H locs ls hP hS hL)
theorem g_iadd (K : Ok X cc own nL d) {x y : Int32} (hd : decode cc pc = .ok (.iadd, 1)) (h : G X (pc + 1) L (.int (x + y) :: S) s o) : G X pc L (.int y :: .int x :: S) s o :=
  fun r s' e H locs ls hP hS hL => lv_iadd K.1 K.2.1 hd (h r s' e H locs ls hP hS hL)
theorem g_isub (K : Ok X cc own nL d) {x y : Int32} (hd : decode cc pc = .ok (.isub, 1)) (h : G X (pc + 1) L (.int (x - y) :: S) s o) : G X pc L (.int y :: .int x :: S) s o :=
  fun r s' e H locs ls hP hS hL => lv_isub K.1 K.2.1 hd (h r s' e H locs ls hP hS hL)
theorem g_imul (K : Ok X cc own nL d) {x y : Int32} (hd : decode cc pc = .ok (.imul, 1)) (h : G X (pc + 1) L (.int (x * y) :: S) s o) : G X pc L (.int y :: .int x :: S) s o :=
  fun r s' e H locs ls hP hS hL => lv_imul K.1 K.2.1 hd (h r s' e H locs ls hP hS hL)
theorem g_iand (K : Ok X cc own nL d) {x y : Int32} (hd : decode cc pc = .ok (.iand, 1)) (h : G X (pc + 1) L (.int (x &&& y) :: S) s o) : G X pc L (.int y :: .int x :: S) s o :=
  fun r s' e H locs ls hP hS hL => lv_iand K.1 K.2.1 hd (h r s' e H locs ls hP hS hL)
theorem g_ior (K : Ok X cc own nL d) {x y : Int32} (hd : decode cc pc = .ok (.ior, 1)) (h : G X (pc + 1) L (.int (x ||| y) :: S) s o) : G X pc L (.int y :: .int x :: S) s o :=
  fun r s' e H locs ls hP hS hL => lv_ior K.1 K.2.1 hd (h r s' e H locs ls hP hS hL)
theorem g_ixor (K : Ok X cc own nL d) {x y : Int32} (hd : decode cc pc = .ok (.ixor, 1)) (h : G X (pc + 1) L (.int (x ^^^ y) :: S) s o) : G X pc L (.int y :: .int x :: S) s o :=
  fun r s' e H locs ls hP hS hL => lv_ixor K.1 K.2.1 hd (h r s' e H locs ls hP hS hL)
theorem g_ishl (K : Ok X cc own nL d) {x y : Int32} (hd : decode cc pc = .ok (.ishl, 1)) (h : G X (pc + 1) L (.int (x <<< (y &&& 31)) :: S) s o) : G X pc L (.int y :: .int x :: S) s o :=
  fun r s' e H locs ls hP hS hL => lv_ishl K.1 K.2.1 hd (h r s' e H locs ls hP hS hL)
theorem g_ishr (K : Ok X cc own nL d) {x y : Int32} (hd : decode cc pc = .ok (.ishr, 1)) (h : G X (pc + 1) L (.int (x >>> (y &&& 31)) :: S) s o) : G X pc L (.int y :: .int x :: S) s o :=
  fun r s' e H locs ls hP hS hL => lv_ishr K.1 K.2.1 hd (h r s' e H locs ls hP hS hL)
theorem g_ineg (K : Ok X cc own nL d) {x : Int32} (hd : decode cc pc = .ok (.ineg, 1)) (h : G X (pc + 1) L (.int (-x) :: S) s o) : G X pc L (.int x :: S) s o :=
  fun r s' e H locs ls hP hS hL => lv_ineg K.1 K.2.1 hd (h r s' e H locs ls hP hS hL)
theorem g_ladd (K : Ok X cc own nL d) {x y : Int64} (hd : decode cc pc = .ok (.ladd, 1)) (h : G X (pc + 1) L (.long (x + y) :: S) s o) : G X pc L (.long y :: .long x :: S) s o :=
  fun r s' e H locs ls hP hS hL => lv_ladd K.1 K.2.1 hd (h r s' e H locs ls hP hS hL)
theorem g_icmp_eq (K : Ok X cc own nL d) {x y : Int32} {off : Int} (tgt : Nat) (hd : decode cc pc = .ok (.if_icmp .eq off, 3)) (ht : (pc : Int) + off = (tgt : Int)) (h1 : G X tgt L S s o1) (h2 : G X (pc + 3) L S s o2) : G X pc L (.int y :: .int x :: S) s (if x = y then o1 else o2) :=
  fun r s' e H locs ls hP hS hL => lv_icmp_eq K.1 K.2.1 hd ht (fun q => h1 r s' (by rw [if_pos (by first | exact q | exact (fun z => q z))] at e; exact e) H locs ls hP hS hL) (fun q => h2 r s' (by rw [if_neg q] at e; exact e) H locs ls hP hS hL)
theorem g_if_eq (K : Ok X cc own nL d) {x : Int32} {off : Int} (tgt : Nat) (hd : decode cc pc = .ok (.ifCond .eq off, 3)) (ht : (pc : Int) + off = (tgt : Int)) (h1 : G X tgt L S s o1) (h2 : G X (pc + 3) L S s o2) : G X pc L (.int x :: S) s (if x = 0 then o1 else o2) :=
  fun r s' e H locs ls hP hS hL => lv_if_eq K.1 K.2.1 hd ht (fun q => h1 r s' (by rw [if_pos (by first | exact q | exact (fun z => q z))] at e; exact e) H locs ls hP hS hL) (fun q => h2 r s' (by rw [if_neg q] at e; exact e) H locs ls hP hS hL)
theorem g_icmp_lt (K : Ok X cc own nL d) {x y : Int32} {off : Int} (tgt : Nat) (hd : decode cc pc = .ok (.if_icmp .lt off, 3)) (ht : (pc : Int) + off = (tgt : Int)) (h1 : G X tgt L S s o1) (h2 : G X (pc + 3) L S s o2) : G X pc L (.int y :: .int x :: S) s (if x < y then o1 else o2) :=
  fun r s' e H locs ls hP hS hL => lv_icmp_lt K.1 K.2.1 hd ht (fun q => h1 r s' (by rw [if_pos (by first | exact q | exact (fun z => q z))] at e; exact e) H locs ls hP hS hL) (fun q => h2 r s' (by rw [if_neg q] at e; exact e) H locs ls hP hS hL)
theorem g_if_lt (K : Ok X cc own nL d) {x : Int32} {off : Int} (tgt : Nat) (hd : decode cc pc = .ok (.ifCond .lt off, 3)) (ht : (pc : Int) + off = (tgt : Int)) (h1 : G X tgt L S s o1) (h2 : G X (pc + 3) L S s o2) : G X pc L (.int x :: S) s (if x < 0 then o1 else o2) :=
  fun r s' e H locs ls hP hS hL => lv_if_lt K.1 K.2.1 hd ht (fun q => h1 r s' (by rw [if_pos (by first | exact q | exact (fun z => q z))] at e; exact e) H locs ls hP hS hL) (fun q => h2 r s' (by rw [if_neg q] at e; exact e) H locs ls hP hS hL)
theorem g_icmp_ge (K : Ok X cc own nL d) {x y : Int32} {off : Int} (tgt : Nat) (hd : decode cc pc = .ok (.if_icmp .ge off, 3)) (ht : (pc : Int) + off = (tgt : Int)) (h1 : G X tgt L S s o1) (h2 : G X (pc + 3) L S s o2) : G X pc L (.int y :: .int x :: S) s (if y ≤ x then o1 else o2) :=
  fun r s' e H locs ls hP hS hL => lv_icmp_ge K.1 K.2.1 hd ht (fun q => h1 r s' (by rw [if_pos (by first | exact q | exact (fun z => q z))] at e; exact e) H locs ls hP hS hL) (fun q => h2 r s' (by rw [if_neg q] at e; exact e) H locs ls hP hS hL)
theorem g_if_ge (K : Ok X cc own nL d) {x : Int32} {off : Int} (tgt : Nat) (hd : decode cc pc = .ok (.ifCond .ge off, 3)) (ht : (pc : Int) + off = (tgt : Int)) (h1 : G X tgt L S s o1) (h2 : G X (pc + 3) L S s o2) : G X pc L (.int x :: S) s (if 0 ≤ x then o1 else o2) :=
  fun r s' e H locs ls hP hS hL => lv_if_ge K.1 K.2.1 hd ht (fun q => h1 r s' (by rw [if_pos (by first | exact q | exact (fun z => q z))] at e; exact e) H locs ls hP hS hL) (fun q => h2 r s' (by rw [if_neg q] at e; exact e) H locs ls hP hS hL)
theorem g_icmp_gt (K : Ok X cc own nL d) {x y : Int32} {off : Int} (tgt : Nat) (hd : decode cc pc = .ok (.if_icmp .gt off, 3)) (ht : (pc : Int) + off = (tgt : Int)) (h1 : G X tgt L S s o1) (h2 : G X (pc + 3) L S s o2) : G X pc L (.int y :: .int x :: S) s (if y < x then o1 else o2) :=
  fun r s' e H locs ls hP hS hL => lv_icmp_gt K.1 K.2.1 hd ht (fun q => h1 r s' (by rw [if_pos (by first | exact q | exact (fun z => q z))] at e; exact e) H locs ls hP hS hL) (fun q => h2 r s' (by rw [if_neg q] at e; exact e) H locs ls hP hS hL)
theorem g_if_gt (K : Ok X cc own nL d) {x : Int32} {off : Int} (tgt : Nat) (hd : decode cc pc = .ok (.ifCond .gt off, 3)) (ht : (pc : Int) + off = (tgt : Int)) (h1 : G X tgt L S s o1) (h2 : G X (pc + 3) L S s o2) : G X pc L (.int x :: S) s (if 0 < x then o1 else o2) :=
  fun r s' e H locs ls hP hS hL => lv_if_gt K.1 K.2.1 hd ht (fun q => h1 r s' (by rw [if_pos (by first | exact q | exact (fun z => q z))] at e; exact e) H locs ls hP hS hL) (fun q => h2 r s' (by rw [if_neg q] at e; exact e) H locs ls hP hS hL)
theorem g_icmp_le (K : Ok X cc own nL d) {x y : Int32} {off : Int} (tgt : Nat) (hd : decode cc pc = .ok (.if_icmp .le off, 3)) (ht : (pc : Int) + off = (tgt : Int)) (h1 : G X tgt L S s o1) (h2 : G X (pc + 3) L S s o2) : G X pc L (.int y :: .int x :: S) s (if x ≤ y then o1 else o2) :=
  fun r s' e H locs ls hP hS hL => lv_icmp_le K.1 K.2.1 hd ht (fun q => h1 r s' (by rw [if_pos (by first | exact q | exact (fun z => q z))] at e; exact e) H locs ls hP hS hL) (fun q => h2 r s' (by rw [if_neg q] at e; exact e) H locs ls hP hS hL)
theorem g_if_le (K : Ok X cc own nL d) {x : Int32} {off : Int} (tgt : Nat) (hd : decode cc pc = .ok (.ifCond .le off, 3)) (ht : (pc : Int) + off = (tgt : Int)) (h1 : G X tgt L S s o1) (h2 : G X (pc + 3) L S s o2) : G X pc L (.int x :: S) s (if x ≤ 0 then o1 else o2) :=
  fun r s' e H locs ls hP hS hL => lv_if_le K.1 K.2.1 hd ht (fun q => h1 r s' (by rw [if_pos (by first | exact q | exact (fun z => q z))] at e; exact e) H locs ls hP hS hL) (fun q => h2 r s' (by rw [if_neg q] at e; exact e) H locs ls hP hS hL)
theorem g_icmp_ne (K : Ok X cc own nL d) {x y : Int32} {off : Int} (tgt : Nat) (hd : decode cc pc = .ok (.if_icmp .ne off, 3)) (ht : (pc : Int) + off = (tgt : Int)) (h1 : G X tgt L S s o1) (h2 : G X (pc + 3) L S s o2) : G X pc L (.int y :: .int x :: S) s (if x = y then o2 else o1) :=
  fun r s' e H locs ls hP hS hL => lv_icmp_ne K.1 K.2.1 hd ht (fun q => h1 r s' (by rw [if_neg q] at e; exact e) H locs ls hP hS hL) (fun q => h2 r s' (by rw [if_pos q] at e; exact e) H locs ls hP hS hL)
theorem g_if_ne (K : Ok X cc own nL d) {x : Int32} {off : Int} (tgt : Nat) (hd : decode cc pc = .ok (.ifCond .ne off, 3)) (ht : (pc : Int) + off = (tgt : Int)) (h1 : G X tgt L S s o1) (h2 : G X (pc + 3) L S s o2) : G X pc L (.int x :: S) s (if x = 0 then o2 else o1) :=
  fun r s' e H locs ls hP hS hL => lv_if_ne K.1 K.2.1 hd ht (fun q => h1 r s' (by rw [if_neg q] at e; exact e) H locs ls hP hS hL) (fun q => h2 r s' (by rw [if_pos q] at e; exact e) H locs ls hP hS hL)
theorem g_idiv (K : Ok X cc own nL d) {x y : Int32} (hd : decode cc pc = .ok (.idiv, 1)) (h : G X (pc + 1) L (.int (x / y) :: S) s o) : G X pc L (.int y :: .int x :: S) s (dv y o) := by
  intro r s' e H locs ls hP hS hL
  unfold dv at e
  split at e
  · cases e
  · rename_i hne
    exact lv_idiv K.1 K.2.1 hd hne (h r s' e H locs ls hP hS hL)
theorem g_irem (K : Ok X cc own nL d) {x y : Int32} (hd : decode cc pc = .ok (.irem, 1)) (h : G X (pc + 1) L (.int (x - x / y * y) :: S) s o) : G X pc L (.int y :: .int x :: S) s (dv y o) := by
  intro r s' e H locs ls hP hS hL
  unfold dv at e
  split at e
  · cases e
  · rename_i hne
    exact lv_irem K.1 K.2.1 hd hne (h r s' e H locs ls hP hS hL)
theorem g_i2c (K : Ok X cc own nL d) {x : Int32} (hd : decode cc pc = .ok (.i2c, 1)) (h : G X (pc + 1) L (.int (x.toUInt32 % 65536).toInt32 :: S) s o) : G X pc L (.int x :: S) s o :=
  fun r s' e H locs ls hP hS hL => lv_i2c K.1 K.2.1 hd rfl (h r s' e H locs ls hP hS hL)
theorem g_iushr (K : Ok X cc own nL d) {x y : Int32} (hd : decode cc pc = .ok (.iushr, 1)) (h : G X (pc + 1) L (.int (x.toUInt32 >>> (y.toUInt32 &&& Int32.toUInt32 31)).toInt32 :: S) s o) : G X pc L (.int y :: .int x :: S) s o :=
  fun r s' e H locs ls hP hS hL => lv_iushr K.1 K.2.1 hd rfl (h r s' e H locs ls hP hS hL)
/-! arrays -/
theorem g_iaload (K : Ok X cc own nL d) {k n : Nat} {i : Int32} (hk : k < 80) (hkd : kd k = 8) (hn : ln k = n) {c : Int32 → Option (Int32 × St)} (hd : decode cc pc = .ok (.iaload, 1)) (h : ∀ v, G X (pc + 1) L (.int v :: S) s (c v)) : G X pc L (.int i :: .ref (X.B + k) :: S) s (rd s k n i c) := by
  intro r s' e H locs ls hP hS hL
  unfold rd at e
  split at e
  · rename_i hin
    have hat := wl_at X.E s hk
    rw [ce_8 hkd] at hat
    exact va_iald K.1 K.2.1 K.2.2.2.2.2.1 hP k 0 hat rfl (by rw [hn]; exact hin) hd (h _ r s' e H locs ls hP hS hL)
  · cases e
theorem g_caload (K : Ok X cc own nL d) {k n : Nat} {i : Int32} (hk : k < 80) (hkd : kd k = 9) (hn : ln k = n) {c : Int32 → Option (Int32 × St)} (hd : decode cc pc = .ok (.caload, 1)) (h : ∀ v, G X (pc + 1) L (.int v :: S) s (c v)) : G X pc L (.int i :: .ref (X.B + k) :: S) s (rd s k n i c) := by
  intro r s' e H locs ls hP hS hL
  unfold rd at e
  split at e
  · rename_i hin
    have hat := wl_at X.E s hk
    rw [ce_9 hkd] at hat
    exact va_cald K.1 K.2.1 K.2.2.2.2.2.1 hP k 1 hat rfl (by rw [hn]; exact hin) hd (h _ r s' e H locs ls hP hS hL)
  · cases e
theorem g_baload (K : Ok X cc own nL d) {k n : Nat} {i : Int32} (hk : k < 80) (hkd : kd k = 10) (hn : ln k = n) {c : Int32 → Option (Int32 × St)} (hd : decode cc pc = .ok (.baload, 1)) (h : ∀ v, G X (pc + 1) L (.int v :: S) s (c v)) : G X pc L (.int i :: .ref (X.B + k) :: S) s (rd s k n i c) := by
  intro r s' e H locs ls hP hS hL
  unfold rd at e
  split at e
  · rename_i hin
    have hat := wl_at X.E s hk
    rw [ce_10 hkd] at hat
    exact va_zald K.1 K.2.1 K.2.2.2.2.2.1 hP k 2 hat rfl (by rw [hn]; exact hin) hd (h _ r s' e H locs ls hP hS hL)
  · cases e
theorem g_iastore (K : Ok X cc own nL d) {k n : Nat} {i v : Int32} (hk : k < 80) (hkd : kd k = 8) (hn : ln k = n) {c : St → Option (Int32 × St)} (hd : decode cc pc = .ok (.iastore, 1)) (h : ∀ s1, G X (pc + 1) L S s1 (c s1)) : G X pc L (.int v :: .int i :: .ref (X.B + k) :: S) s (wr s k n i v c) := by
  intro r s' e H locs ls hP hS hL
  unfold wr at e
  split at e
  · rename_i hin
    have hat := wl_at X.E s hk
    rw [ce_8 hkd] at hat
    have hset := wl_set X.E s (up s k i.toNatClampNeg v) hk (fun j hj => ⟨by simp [up, va_up, hj], rfl⟩)
    rw [ce_8 hkd] at hset
    have hf : (up s k i.toNatClampNeg v).1 k = upd (s.1 k) i.toNatClampNeg v := by simp [up, va_up]
    rw [hf] at hset
    exact va_iast K.1 K.2.1 K.2.2.2.2.2.1 hP (wl_D X.E s) hS k 0 hat rfl (by rw [hn]; exact hin) hd (fun H1 locs1 hP1 _ hS1 => h _ r s' e H1 locs1 ls (by rw [hset] at hP1; exact hP1) hS1 hL)
  · cases e
theorem g_castore (K : Ok X cc own nL d) {k n : Nat} {i v : Int32} (hk : k < 80) (hkd : kd k = 9) (hn : ln k = n) {c : St → Option (Int32 × St)} (hd : decode cc pc = .ok (.castore, 1)) (h : ∀ s1, G X (pc + 1) L S s1 (c s1)) : G X pc L (.int v :: .int i :: .ref (X.B + k) :: S) s (wr s k n i (vp_nar .char v) c) := by
  intro r s' e H locs ls hP hS hL
  unfold wr at e
  split at e
  · rename_i hin
    have hat := wl_at X.E s hk
    rw [ce_9 hkd] at hat
    have hset := wl_set X.E s (up s k i.toNatClampNeg (vp_nar .char v)) hk (fun j hj => ⟨by simp [up, va_up, hj], rfl⟩)
    rw [ce_9 hkd] at hset
    have hf : (up s k i.toNatClampNeg (vp_nar .char v)).1 k = upd (s.1 k) i.toNatClampNeg (vp_nar .char v) := by simp [up, va_up]
    rw [hf] at hset
    exact va_cast K.1 K.2.1 K.2.2.2.2.2.1 hP (wl_D X.E s) hS k 1 hat rfl (by rw [hn]; exact hin) hd (fun H1 locs1 hP1 _ hS1 => h _ r s' e H1 locs1 ls (by rw [hset] at hP1; exact hP1) hS1 hL)
  · cases e
theorem g_bastore (K : Ok X cc own nL d) {k n : Nat} {i v : Int32} (hk : k < 80) (hkd : kd k = 10) (hn : ln k = n) {c : St → Option (Int32 × St)} (hd : decode cc pc = .ok (.bastore, 1)) (h : ∀ s1, G X (pc + 1) L S s1 (c s1)) : G X pc L (.int v :: .int i :: .ref (X.B + k) :: S) s (wr s k n i (vp_nar .boolean v) c) := by
  intro r s' e H locs ls hP hS hL
  unfold wr at e
  split at e
  · rename_i hin
    have hat := wl_at X.E s hk
    rw [ce_10 hkd] at hat
    have hset := wl_set X.E s (up s k i.toNatClampNeg (vp_nar .boolean v)) hk (fun j hj => ⟨by simp [up, va_up, hj], rfl⟩)
    rw [ce_10 hkd] at hset
    have hf : (up s k i.toNatClampNeg (vp_nar .boolean v)).1 k = upd (s.1 k) i.toNatClampNeg (vp_nar .boolean v) := by simp [up, va_up]
    rw [hf] at hset
    exact va_zast K.1 K.2.1 K.2.2.2.2.2.1 hP (wl_D X.E s) hS k 2 hat rfl (by rw [hn]; exact hin) hd (fun H1 locs1 hP1 _ hS1 => h _ r s' e H1 locs1 ls (by rw [hset] at hP1; exact hP1) hS1 hL)
  · cases e
theorem g_aald (K : Ok X cc own nL d) {k n : Nat} {i : Int32} (hk : k < 80) (hkd : kd k = 11) (hn : ln k = n) (P : Nat → Prop) (hP0 : ∀ j, j < n → P (k + 1 + 3 * j)) {c : Nat → Option (Int32 × St)} (hd : decode cc pc = .ok (.aaload, 1)) (h : ∀ j, P j → G X (pc + 1) L (.ref (X.B + j) :: S) s (c j)) : G X pc L (.int i :: .ref (X.B + k) :: S) s (ra k n i c) := by
  intro r s' e H locs ls hP hS hL
  unfold ra at e
  split at e
  · rename_i hin
    have hat := wl_at X.E s hk
    rw [ce_11 hkd] at hat
    exact va_aldq K.1 K.2.1 K.2.2.2.2.2.1 hP k 3 hat rfl (by rw [hn]; exact hin) hd (h _ (hP0 _ (Nat.not_le.mp fun q => hin (Or.inr q))) r s' e H locs ls hP hS hL)
  · cases e
/-! fields -/
def lk (own : String) (ix : Nat) (ref n dd : String) : Prop := Cond.fieldLink own ix ref n dd ∈ TB ∨ ∃ host, Cond.fieldLinkNest own ix ref n dd host ∈ NB
theorem g_get (K : Ok X cc own nL d) {k : Nat} (hk : k < 80) {C : String} {T : u_T} {N ci : Nat} {fs : List Value} (hc : vwCl[ci]? = some (C, T, N)) (hin : ∀ w ∈ u_ws C T N, w ∈ TB) (he : cellE X.E k (s.1 k) (s.2 k) = .inr (ci, fs)) (fi : Nat) (hfi : fi < N) {v : Value} (hv : fs[fi]? = some v) {ix : Nat} (hl : lk own ix (T fi).1 (T fi).2.1 (T fi).2.2.1) (hd : decode cc pc = .ok (.getfield ix, 3))
    (h : G X (pc + 3) L (v :: S) s o) : G X pc L (.ref (X.B + k) :: S) s o := by
  intro r s' e H locs ls hP hS hL
  have hat := wl_at X.E s hk
  rw [he] at hat
  rcases hl with hl | ⟨host, hl⟩
  · exact va_get K.1 K.2.1 K.2.2.2.1 hin K.2.2.1 K.2.2.2.2.2.1 hP k hat hc fi hfi (K.2.2.2.1 _ hl) (fun _ q => q) hv hd (h r s' e H locs ls hP hS hL)
  · exact va_getN K.1 K.2.1 K.2.2.2.1 hin K.2.2.1 K.2.2.2.2.2.1 hP k hat hc fi hfi (va_Nw.use (nb_on hl) (K.2.2.2.2.1 _ hl)) (fun _ q => q) hv hd (h r s' e H locs ls hP hS hL)
theorem g_putv (K : Ok X cc own nL d) {k : Nat} (hk : k < 80) {C : String} {T : u_T} {N ci : Nat} {fs : List Value} (hc : vwCl[ci]? = some (C, T, N)) (hin : ∀ w ∈ u_ws C T N, w ∈ TB) (ty0 : Nat → FieldType) (hty : ∀ k, k < N → parseFieldDescriptor (T k).2.2.1 = some (ty0 k)) (hnm : ∀ a, a < N → ∀ b, b < N → a ≠ b → (T a).2.1 ≠ (T b).2.1) (he : cellE X.E k (s.1 k) (s.2 k) = .inr (ci, fs)) (fi : Nat) (hfi : fi < N) {v : Value} (hfin : (T fi).2.2.2 = false) (hlen : fi < fs.length) (hn : narrow (ty0 fi) v = v) (hfit : fits (ty0 fi) v = true)
    {s1 : St} (he1 : cellE X.E k (s1.1 k) (s1.2 k) = .inr (ci, fs.set fi v)) (ho : ∀ j, j ≠ k → s1.1 j = s.1 j ∧ s1.2 j = s.2 j) {ix : Nat} (hl : lk own ix (T fi).1 (T fi).2.1 (T fi).2.2.1) (hd : decode cc pc = .ok (.putfield ix, 3))
    (h : G X (pc + 3) L S s1 o) : G X pc L (v :: .ref (X.B + k) :: S) s o := by
  intro r s' e H locs ls hP hS hL
  have hat := wl_at X.E s hk
  rw [he] at hat
  have hset := wl_set X.E s s1 hk ho
  rw [he1] at hset
  rcases hl with hl | ⟨host, hl⟩
  · exact va_put K.1 K.2.1 K.2.2.2.1 hin ty0 hty hnm K.2.2.1 K.2.2.2.2.2.1 hP (wl_D X.E s) hS k hat hc fi hfi (K.2.2.2.1 _ hl) (fun _ q => q) hfin (hty fi hfi) hn hfit hlen hd (fun H1 locs1 hP1 _ hS1 => h r s' e H1 locs1 ls (by rw [hset] at hP1; exact hP1) hS1 hL)
  · exact va_putN K.1 K.2.1 K.2.2.2.1 hin ty0 hty hnm K.2.2.1 K.2.2.2.2.2.1 hP (wl_D X.E s) hS k hat hc fi hfi (va_Nw.use (nb_on hl) (K.2.2.2.2.1 _ hl)) (fun _ q => q) hfin (hty fi hfi) hn hfit hlen hd (fun H1 locs1 hP1 _ hS1 => h r s' e H1 locs1 ls (by rw [hset] at hP1; exact hP1) hS1 hL)
end
/-! ===== contracts ===== -/
def oc (ret : Option FieldType) (r : Int32) : Outcome := match ret with
  | none => .returned none
  | some _ => .returned (some (.int r))
def Qm (E : Ce) (ret : Option FieldType) (r : Int32) (s' : St) : Array Value → State → Outcome → State → Prop := fun _ st o t => o = oc ret r ∧ va_P E.D vwCl (wl E s') t.heap ∧ va_F (AA E) st t
def Con (E : Ce) (y : MethodName) (cc : ByteArray) (mL : Nat) (ret : Option FieldType) (d : Nat) (as : List Value) (f : St → Option (Int32 × St)) : Prop :=
  ∀ (s : St) (r : Int32) (s' : St), f s = some (r, s') → Met E.l y (.code y cc mL ret :: TB) (rmD d) (va_Pc as (Wd E s)) (Qm E ret r s') 0 0 (AA E)
theorem lv_args_cat : ∀ (as : List Value) (i : Nat), (∀ v ∈ as, v.category = 1) → ∀ (j : Nat) (v : Value), as[j]? = some v → (i + j, v) ∈ lv_args i as
  | [], i, h, j, v, hj => by simp at hj
  | a :: as, i, h, j, v, hj => by
    have ha : a.category = 1 := h a List.mem_cons_self
    cases j with
    | zero =>
      simp at hj
      subst hj
      exact List.mem_cons_self
    | succ j =>
      simp at hj
      refine List.mem_cons_of_mem _ ?_
      rw [if_neg (by rw [ha]; decide)]
      have := lv_args_cat as (i + 1) (fun v hv => h v (List.mem_cons_of_mem _ hv)) j v hj
      rw [show i + (j + 1) = i + 1 + j by omega]
      exact this
theorem LH.entry {as : List Value} {n : Nat} {L : List Value} (hc : ∀ v ∈ as, v.category = 1) (h : (lg_sl as).length ≤ n) (hL : lsub L (as ++ List.replicate L.length .null)) : LH ((lg_sl as ++ List.replicate (n - (lg_sl as).length) Slot.unset).toArray) n L := by
  obtain ⟨h1, h2, h3⟩ := lv_entry as h
  refine ⟨h1, h2, fun i v hi hv => ?_⟩
  have h4 := lsub_at _ _ hL i v hi hv
  have h5 : as[i]? = some v := by
    by_cases hlt : i < as.length
    · rw [List.getElem?_append_left hlt] at h4; exact h4
    · rw [List.getElem?_append_right (by omega), List.getElem?_replicate] at h4
      split at h4
      · cases h4; exact absurd rfl hv
      · cases h4
  have h6 := lv_args_cat as 0 hc i v h5
  rw [Nat.zero_add] at h6
  exact ⟨hc v (List.mem_of_getElem? h5), h3 (i, v) h6⟩
theorem Con.of {E : Ce} {y : MethodName} {cc : ByteArray} {mL : Nat} {ret : Option FieldType} {d : Nat} {as : List Value} {f : St → Option (Int32 × St)} (hy : plainName y.cls = true) (hc : ∀ v ∈ as, v.category = 1) (hl : (lg_sl as).length ≤ mL) (hret : ret = none ∨ ret = some .int ∨ ret = some .boolean) (L : List Value) (hL : lsub L (as ++ List.replicate L.length .null))
    (h : ∀ (X : Cx) (s : St), X.E = E → Ok X cc y.cls mL d → (ret = some .int → RI X cc) → (ret = some .boolean → RZ X cc) → (ret = none → RV X cc) → G X 0 L [] s (f s)) : Con E y cc mL ret d as f := by
  intro s0 r0 s0' e0
  refine Met.ofW (cc := cc) (maxL := mL) (ret := ret) hy rfl ?_
  intro p e s m args below meth c s₁ B hml hv
  obtain ⟨rfl, hP, hK, hN⟩ := hv
  have hx := B.exec
  have hb := B.bytes
  have hr := B.returns
  have hts := atoms_spec (ws := .code y cc mL ret :: TB) B.pre
  have hown : s.vm.findClass y.cls = some m.cls := findClass_of_methodNamed B.named
  have hlocks := B.notSynchronized
  have hS : va_S (AA E) s.heap s.heap [] := va_S.rf
  rw [lg_entry_eq]
  let X : Cx := (E, p, e, rmD d, s, m, as.toArray, below, meth, c, fun r s' => MQ below (Qm E ret r s') as.toArray s 0 0 (AA E), 0, 0)
  have hok : Ok X cc y.cls mL d := ⟨hx, hb, hown, fun w hw => hts w (List.mem_cons_of_mem _ hw), hN, hK, hml, Nat.le_refl _, Nat.le_refl _, Nat.le_refl _, Nat.le_refl _⟩
  have hg := h X s0 rfl hok
    (fun hre => by
      subst hre
      intro pc v s2 H locs ls hd hP2 hS2
      exact W.iret (v := v) hx hb hr (fun t ht hW => ⟨rfl, by rw [ht]; exact hP2, hS2.F ht⟩) hS2.2.2 hd)
    (fun hre => by
      subst hre
      intro pc v s2 H locs ls hv hd hP2 hS2
      exact W.zret (v := v) hx hb hr (by rcases hv with rfl | rfl <;> rfl) (fun t ht hW => ⟨rfl, by rw [ht]; exact hP2, hS2.F ht⟩) hS2.2.2 hd)
    (fun hre => by
      subst hre
      intro pc s2 H locs ls hd hP2 hS2
      exact W.vret hx hb hr (fun t ht hW => ⟨rfl, by rw [ht]; exact hP2, hS2.F ht⟩) hS2.2.2 hd)
  exact hg r0 s0' e0 s.heap [] _ hP hS (by
    show LH _ c.maxLocals L
    rw [hml]
    exact LH.entry hc hl hL)
/-! ===== calls ===== -/
section
variable {X : Cx} {cc : ByteArray} {own : String} {nL d pc : Nat} {L S : List Value} {s : St}
def psh (ret : Option FieldType) (r : Int32) : List Value := match ret with
  | none => []
  | some _ => [.int r]
theorem wd_blind {E : Ce} {s : St} {as : List Value} : FrameBlind (va_Pc as (Wd E s)) := by
  intro a U g mk q
  obtain ⟨q0, qP, qK, qN⟩ := q
  exact ⟨q0, qP, va_K.moved (u := U) (U := U.calling g mk a) (Vm.Alike.refl U.vm) qK, fun w hw => va_Nw.same (nb_on hw) (rfl : U.vm = (U.calling g mk a).vm) (qN w hw)⟩
theorem wd_pre {E : Ce} {s0 : State} {s : St} {as : List Value} {H : Heap} (hP : va_P E.D vwCl (wl E s) H) (hK : va_K E.D vwCl (tys E) s0) (hN : ∀ w ∈ NB, va_Nw w s0) : ∀ U : State, U.heap = H → s0.WarmedH U.vm → va_Pc as (Wd E s) as.toArray U := fun U hU hW => ⟨rfl, by rw [hU]; exact hP, va_K.moved hW.alike hK, nb_warm hW hN⟩
theorem g_back {p : Program} {l : Launch} {e : Env} {R : Room} {s0 : State} {m : MethodId} {args : Array Value} {below : List Frame} {meth : Method} {c : Code} {H : Heap} {locs : List Loc} {cells slots : Nat} {Q : State → Prop} {ls : Array Slot} {st0 rest : List Value} {a : Array Value} {E : Ce} {ret : Option FieldType} {r1 : Int32} {s1 : St}
    (hr : va_Run p l e R s0 m args below meth c H locs cells slots 0 0 (F0 m pc ls st0) rest (Qm E ret r1 s1 a) (AA E)) (hS : va_S (AA E) s0.heap H locs)
    (kk : ∀ (H1 : Heap) (locs1 : List Loc), va_P E.D vwCl (wl E s1) H1 → va_S (AA E) s0.heap H1 locs1 → W p l e R s0 m args below meth c H1 locs1 cells slots Q (F0 m (pc + 3) ls (psh ret r1 ++ rest))) : W p l e R s0 m args below meth c H locs cells slots Q (F0 m pc ls st0) := by
  intro T hT X
  obtain ⟨v, st₀, t, T', L, h0, X', hL, e1, e2, ⟨hv, hP1, hz, hk⟩, st⟩ := hr T hT X
  rw [h0] at hz hk
  obtain ⟨t2, a1, b1⟩ := kk T'.heap (locs ++ L) (by rw [e1]; exact hP1)
    ⟨Nat.le_trans hS.1 (by rw [e1]; exact hz), fun q h1 h2 => by rw [e1, hk q (Nat.lt_of_lt_of_le h1 hS.1) h2]; exact hS.2.1 q h1 h2, fun q hq => by
      rcases List.mem_append.mp hq with h | h
      · exact hS.2.2 q h
      · exact hL q h⟩ T' rfl X'
  refine ⟨t2, st t2 ?_, b1⟩
  have hvv : v.toList = psh ret r1 := by
    cases ret with
    | none => cases hv; rfl
    | some ty => cases hv; rfl
  rw [hvv]
  exact a1
theorem g_cl {f : Option (Int32 × St)} {c : Int32 → St → Option (Int32 × St)} {r : Int32} {s' : St} (h : cl f c = some (r, s')) : ∃ r1 s1, f = some (r1, s1) ∧ c r1 s1 = some (r, s') := by
  unfold cl at h
  cases f with
  | none => cases h
  | some q => exact ⟨q.1, q.2, rfl, h⟩
theorem g_cb (K : Ok X cc own nL d) {y : MethodName} {cc' : ByteArray} {mL d' n ix : Nat} {ret : Option FieldType} (hd' : d' < d) (hm : mL ≤ 21) (hcode : Cond.code y cc' mL ret ∈ TB) (hini : Cond.initialized y.cls ∈ TB) (hlink : Cond.methodLink own ix y ∈ TB) (hy : y.cls ≠ "java/lang/invoke/MethodHandle" ∧ y.cls ≠ "java/lang/invoke/VarHandle" ∧ (parseMethodDescriptor y.desc).map (fun d => d.parameters.length) = some n) :
    CallB X.R X.s X.args own ix y cc' mL ret (.code y cc' mL ret :: TB) (rmD d') 0 0 n :=
  callB_of n K.2.2.2.1 (tb_goodIn hcode) rfl rfl rfl (K.2.2.2.1 _ hini) (K.2.2.2.1 _ hlink) hy ⟨by have := K.2.2.2.2.2.2.2.1; show d' + 1 ≤ _; omega, by have := K.2.2.2.2.2.2.2.2.1; show 8 + (mL + 11) + 40 * d' ≤ _; omega⟩
theorem g_callS (K : Ok X cc own nL d) {y : MethodName} {cc' : ByteArray} {mL d' n ix : Nat} {ret : Option FieldType} {As : List Value} {f : St → Option (Int32 × St)} (hcon : Con X.E y cc' mL ret d' As f) (hd' : d' < d) (hm : mL ≤ 21) (hcode : Cond.code y cc' mL ret ∈ TB) (hini : Cond.initialized y.cls ∈ TB) (hlink : Cond.methodLink own ix y ∈ TB) (hst : Cond.static y ∈ TB)
    (hy : y.cls ≠ "java/lang/invoke/MethodHandle" ∧ y.cls ≠ "java/lang/invoke/VarHandle" ∧ (parseMethodDescriptor y.desc).map (fun d => d.parameters.length) = some n) (hn : As.length = n) {S0 : List Value} (hS0 : S0 = As.reverse ++ S) (hrm : (S.map fun v => v.category).sum ≤ 8) (hd : decode cc pc = .ok (.invokestatic ix, 3)) {c : Int32 → St → Option (Int32 × St)}
    (h : ∀ r1 s1, G X (pc + 3) L (psh ret r1 ++ S) s1 (c r1 s1)) : G X pc L S0 s (cl (f s) c) := by
  intro r s' e H locs ls hP hS hL
  obtain ⟨r1, s1, e1, e2⟩ := g_cl e
  subst hS0
  refine g_back (va_runS (Ts := TB) (As := As) (rest := S) ⟨K.1, K.2.1, rfl, K.2.2.1, K.2.2.2.1⟩ (hcon s r1 s1 e1) ⟨g_cb K hd' hm hcode hini hlink hy, K.2.2.2.1 _ hst⟩ ⟨wd_blind, wd_pre hP K.2.2.2.2.2.1 K.2.2.2.2.1⟩ rfl hn hL.1 rfl (lv_room hrm) hd ⟨K.2.2.2.2.2.2.2.2.2.1, K.2.2.2.2.2.2.2.2.2.2⟩) hS (fun H1 locs1 hP1 hS1 => h r1 s1 r s' e2 H1 locs1 ls hP1 hS1 hL)
theorem g_rcv (K : Ok X cc own nL d) {H : Heap} (hP : va_P X.E.D vwCl (wl X.E s) H) {k ci : Nat} {fs : List Value} {q : vw_C} (hk : k < 80) (hc : vwCl[ci]? = some q) (he : cellE X.E k (s.1 k) (s.2 k) = .inr (ci, fs)) : ∃ cell : Cell, H[X.B + k]? = some cell ∧ cell.vm.isStatics = false ∧ X.s.vm.findClass q.1 = some cell.cls := by
  have hat := wl_at X.E s hk
  rw [he] at hat
  exact va_recv K.2.2.2.2.2.1 hP hc hat
theorem g_callV (K : Ok X cc own nL d) {y : MethodName} {cc' : ByteArray} {mL d' n ix k ci : Nat} {ret : Option FieldType} {As : List Value} {f : St → Option (Int32 × St)} (hcon : Con X.E y cc' mL ret d' (.ref (X.B + k) :: As) f) {T : u_T} {N : Nat} (hk : k < 80) (hc : vwCl[ci]? = some (y.cls, T, N)) (he : ∀ s : St, ∃ fs, cellE X.E k (s.1 k) (s.2 k) = .inr (ci, fs)) (hd' : d' < d) (hm : mL ≤ 21) (hcode : Cond.code y cc' mL ret ∈ TB) (hini : Cond.initialized y.cls ∈ TB) (hlink : Cond.methodLink own ix y ∈ TB) (hin : Cond.instanceMethod y ∈ TB) (hse : Cond.selects y.cls y y ∈ TB)
    (hy : y.cls ≠ "java/lang/invoke/MethodHandle" ∧ y.cls ≠ "java/lang/invoke/VarHandle" ∧ (parseMethodDescriptor y.desc).map (fun d => d.parameters.length) = some n) (hn : As.length = n) {S0 : List Value} (hS0 : S0 = As.reverse ++ .ref (X.B + k) :: S) (hrm : (S.map fun v => v.category).sum ≤ 8) (hd : decode cc pc = .ok (.invokevirtual ix, 3)) {c : Int32 → St → Option (Int32 × St)}
    (h : ∀ r1 s1, G X (pc + 3) L (psh ret r1 ++ S) s1 (c r1 s1)) : G X pc L S0 s (cl (f s) c) := by
  intro r s' e H locs ls hP hS hL
  obtain ⟨r1, s1, e1, e2⟩ := g_cl e
  obtain ⟨fs, he⟩ := he s
  subst hS0
  refine g_back (va_runV (Ts := TB) (C := y.cls) (As := As) (rest := S) ⟨K.1, K.2.1, rfl, K.2.2.1, K.2.2.2.1⟩ (hcon s r1 s1 e1) ⟨g_cb K hd' hm hcode hini hlink hy, K.2.2.2.1 _ hin, K.2.2.2.1 _ hse⟩ ⟨wd_blind, g_rcv K hP hk hc he, wd_pre hP K.2.2.2.2.2.1 K.2.2.2.2.1⟩ rfl hn hL.1 rfl (lv_room hrm) hd ⟨K.2.2.2.2.2.2.2.2.2.1, K.2.2.2.2.2.2.2.2.2.2⟩) hS (fun H1 locs1 hP1 hS1 => h r1 s1 r s' e2 H1 locs1 ls hP1 hS1 hL)
theorem g_callVN (K : Ok X cc own nL d) {y : MethodName} {cc' : ByteArray} {mL d' n ix k ci : Nat} {ret : Option FieldType} {As : List Value} {f : St → Option (Int32 × St)} (hcon : Con X.E y cc' mL ret d' (.ref (X.B + k) :: As) f) {T : u_T} {N : Nat} (hk : k < 80) (hc : vwCl[ci]? = some (y.cls, T, N)) (he : ∀ s : St, ∃ fs, cellE X.E k (s.1 k) (s.2 k) = .inr (ci, fs)) (hd' : d' < d) (hm : mL ≤ 21) (hcode : Cond.code y cc' mL ret ∈ TB) (hini : Cond.initialized y.cls ∈ TB) {host : String} (hlink : Cond.methodLinkNest own ix y host ∈ NB) (hin : Cond.instanceMethod y ∈ TB) (hse : Cond.selects y.cls y y ∈ TB)
    (hy : y.cls ≠ "java/lang/invoke/MethodHandle" ∧ y.cls ≠ "java/lang/invoke/VarHandle" ∧ (parseMethodDescriptor y.desc).map (fun d => d.parameters.length) = some n) (hn : As.length = n) {S0 : List Value} (hS0 : S0 = As.reverse ++ .ref (X.B + k) :: S) (hrm : (S.map fun v => v.category).sum ≤ 8) (hd : decode cc pc = .ok (.invokevirtual ix, 3)) {c : Int32 → St → Option (Int32 × St)}
    (h : ∀ r1 s1, G X (pc + 3) L (psh ret r1 ++ S) s1 (c r1 s1)) : G X pc L S0 s (cl (f s) c) := by
  intro r s' e H locs ls hP hS hL
  obtain ⟨r1, s1, e1, e2⟩ := g_cl e
  obtain ⟨fs, he⟩ := he s
  subst hS0
  refine g_back (va_runVN (Ts := TB) (C := y.cls) (host := host) (As := As) (rest := S) ⟨K.1, K.2.1, rfl, K.2.2.1, K.2.2.2.1⟩ (hcon s r1 s1 e1) ⟨va_cnB n K.2.2.2.1 (tb_goodIn hcode) rfl rfl rfl (K.2.2.2.2.1 _ hlink) (K.2.2.2.1 _ hini) hy ⟨by have := K.2.2.2.2.2.2.2.1; show d' + 1 ≤ _; omega, by have := K.2.2.2.2.2.2.2.2.1; show 8 + (mL + 11) + 40 * d' ≤ _; omega⟩, K.2.2.2.1 _ hin, K.2.2.2.1 _ hse⟩ ⟨wd_blind, g_rcv K hP hk hc he, wd_pre hP K.2.2.2.2.2.1 K.2.2.2.2.1⟩ rfl hn hL.1 rfl (lv_room hrm) hd ⟨K.2.2.2.2.2.2.2.2.2.1, K.2.2.2.2.2.2.2.2.2.2⟩) hS (fun H1 locs1 hP1 hS1 => h r1 s1 r s' e2 H1 locs1 ls hP1 hS1 hL)
end
