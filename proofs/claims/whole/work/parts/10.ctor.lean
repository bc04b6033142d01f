theorem wObj1 : Cond.instanceMethod Lib.objectInit ∈ TB := tb_mem 80 (by decide +kernel) (by decide +kernel)
theorem wObj2 : Cond.code Lib.objectInit ⟨#[0xb1]⟩ 1 none ∈ TB := tb_mem 81 (by decide +kernel) (by decide +kernel)
/-! ===== the heap from B on, cell by cell ===== -/
def cw (E : Ce) (ws : List va_E) : va_W := ws.mapIdx fun k e => (E.B + k, e)
theorem cw_at (E : Ce) {ws : List va_E} {k : Nat} {e : va_E} (h : ws[k]? = some e) : (cw E ws)[k]? = some (E.B + k, e) := by simp [cw, h]
theorem cw_len (E : Ce) (ws : List va_E) : (cw E ws).length = ws.length := by simp [cw]
theorem cw_set (E : Ce) (ws : List va_E) (k : Nat) (e : va_E) : (cw E ws).set k (E.B + k, e) = cw E (ws.set k e) := by
  apply List.ext_getElem?
  intro i
  simp only [cw, List.getElem?_set, List.getElem?_mapIdx, List.length_mapIdx]
  by_cases hi : k = i
  · subst hi
    simp only [if_pos rfl]
    split <;> simp
  · simp [hi]
theorem cw_app (E : Ce) (ws : List va_E) (e : va_E) : cw E ws ++ [(E.B + ws.length, e)] = cw E (ws ++ [e]) := by simp [cw, List.mapIdx_append]
theorem cw_D (E : Ce) (ws : List va_E) : va_D (AA E) (cw E ws) := by
  have h : ∀ (i : Nat) (p : Nat × va_E), (cw E ws)[i]? = some p → p.1 = E.B + i := by
    intro i p hp
    simp only [cw, List.getElem?_mapIdx] at hp
    cases hw : ws[i]? with
    | none => rw [hw] at hp; cases hp
    | some e => rw [hw] at hp; cases hp; rfl
  refine ⟨fun i j p q hp hq e => ?_, fun i p hp => ?_⟩
  · rw [h i p hp, h j q hq] at e; omega
  · show E.B ≤ p.1
    rw [h i p hp]; omega
def PW (E : Ce) (ws : List va_E) (H : Heap) : Prop := H.size = E.B + ws.length ∧ va_P E.D vwCl (cw E ws) H
def AO (U : State) : Prop := va_AO "ScytheKeepers$Scene" U
def GC (X : Cx) (pc : Nat) (L S : List Value) (ws : List va_E) (kc ks : Nat) (Q : State → Prop) : Prop :=
  ∀ (H : Heap) (locs : List Loc) (ls : Array Slot), PW X.E ws H → va_S (AA X.E) X.s.heap H locs → LH ls X.c.maxLocals L → W X.p X.E.l X.e X.R X.s X.m X.args X.below X.meth X.c H locs kc ks Q (F0 X.m pc ls S)
def OkC (X : Cx) (cc : ByteArray) (own : String) (nL d : Nat) : Prop :=
  X.p.tables.exec = Jvm.exec ∧ X.c.code = cc ∧ X.s.vm.findClass own = some X.m.cls ∧ (∀ w ∈ TB, w.before X.args X.s = true) ∧ (∀ w ∈ NB, va_Nw w X.s) ∧ va_K X.E.D vwCl (tys X.E) X.s ∧ X.c.maxLocals = nL ∧ d ≤ X.R.frames ∧ 40 * d ≤ X.R.locals ∧ AO X.s ∧ X.E.B ≤ X.s.heap.size
def WdC (E : Ce) (ws : List va_E) (U : State) : Prop := PW E ws U.heap ∧ va_K E.D vwCl (tys E) U ∧ (∀ w ∈ NB, va_Nw w U) ∧ AO U
def QmC (E : Ce) (ws' : List va_E) : Array Value → State → Outcome → State → Prop := fun _ st o t => o = .returned none ∧ PW E ws' t.heap ∧ va_F (AA E) st t
def rmC (d mc ms : Nat) : Room := { frames := d, cells := mc, slots := ms, locals := 40 * d }
def ConC (E : Ce) (y : MethodName) (cc : ByteArray) (mL d mc ms : Nat) (as : List Value) (ws ws' : List va_E) : Prop :=
  Met E.l y (.code y cc mL none :: TB) (rmC d mc ms) (va_Pc as (WdC E ws)) (QmC E ws') mc ms (AA E)
def QC (X : Cx) (ws' : List va_E) (mc ms : Nat) : State → Prop := MQ X.below (QmC X.E ws') X.args X.s mc ms (AA X.E)
section
variable {X : Cx} {cc : ByteArray} {own : String} {nL d pc kc ks : Nat} {L S : List Value} {ws ws' : List va_E} {Q : State → Prop}
theorem gc_iconst (K : OkC X cc own nL d) {n : Int} (v : Int32) (hd : decode cc pc = .ok (.iconst n, 1)) (hv : Int32.ofInt n = v) (h : GC X (pc + 1) L (.int v :: S) ws kc ks Q) : GC X pc L S ws kc ks Q :=
  fun H locs ls hP hS hL => lv_iconst K.1 K.2.1 hd hv (h H locs ls hP hS hL)
theorem gc_bipush (K : OkC X cc own nL d) {n : Int} (v : Int32) (hd : decode cc pc = .ok (.bipush n, 2)) (hv : (Int8.ofInt n).toInt32 = v) (h : GC X (pc + 2) L (.int v :: S) ws kc ks Q) : GC X pc L S ws kc ks Q :=
  fun H locs ls hP hS hL => lv_bipush K.1 K.2.1 hd hv (h H locs ls hP hS hL)
theorem gc_sipush (K : OkC X cc own nL d) {n : Int} (v : Int32) (hd : decode cc pc = .ok (.sipush n, 3)) (hv : (Int16.ofInt n).toInt32 = v) (h : GC X (pc + 3) L (.int v :: S) ws kc ks Q) : GC X pc L S ws kc ks Q :=
  fun H locs ls hP hS hL => lv_sipush K.1 K.2.1 hd hv (h H locs ls hP hS hL)
theorem gc_aload_n (K : OkC X cc own nL d) {k : Fin 4} (i : Nat) {x : Nat} (hd : decode cc pc = .ok (.aload_n k, 1)) (hi : (k : Nat) = i) (hl : L[i]? = some (.ref x)) (h : GC X (pc + 1) L (.ref x :: S) ws kc ks Q) : GC X pc L S ws kc ks Q :=
  fun H locs ls hP hS hL => lv_aload_n K.1 K.2.1 hd hi (hL.2.2 i _ hl (fun q => by cases q)).2 (h H locs ls hP hS hL)
theorem gc_astore_n (K : OkC X cc own nL d) {k : Fin 4} (i : Nat) {x : Nat} (hd : decode cc pc = .ok (.astore_n k, 1)) (hi : (k : Nat) = i) (hn : i < nL) (h : GC X (pc + 1) (L.set i (.ref x)) S ws kc ks Q) : GC X pc L (.ref x :: S) ws kc ks Q :=
  fun H locs ls hP hS hL => lv_astore_n K.1 K.2.1 hd hi hL.has (by rw [K.2.2.2.2.2.2.1]; exact hn) rfl (fun ls' h' => h H locs ls' hP hS (hL.set rfl h'))
theorem gc_iload_n (K : OkC X cc own nL d) {k : Fin 4} (i : Nat) {x : Int32} (hd : decode cc pc = .ok (.iload_n k, 1)) (hi : (k : Nat) = i) (hl : L[i]? = some (.int x)) (h : GC X (pc + 1) L (.int x :: S) ws kc ks Q) : GC X pc L S ws kc ks Q :=
  fun H locs ls hP hS hL => lv_iload_n K.1 K.2.1 hd hi (hL.2.2 i _ hl (fun q => by cases q)).2 (h H locs ls hP hS hL)
theorem gc_istore_n (K : OkC X cc own nL d) {k : Fin 4} (i : Nat) {x : Int32} (hd : decode cc pc = .ok (.istore_n k, 1)) (hi : (k : Nat) = i) (hn : i < nL) (h : GC X (pc + 1) (L.set i (.int x)) S ws kc ks Q) : GC X pc L (.int x :: S) ws kc ks Q :=
  fun H locs ls hP hS hL => lv_istore_n K.1 K.2.1 hd hi hL.has (by rw [K.2.2.2.2.2.2.1]; exact hn) rfl (fun ls' h' => h H locs ls' hP hS (hL.set rfl h'))
theorem gc_iinc (K : OkC X cc own nL d) {i : Nat} {n : Int} {x : Int32} (v : Int32) (hd : decode cc pc = .ok (.iinc i n, 3)) (hl : L[i]? = some (.int x)) (hv : x + Int32.ofInt n = v) (hn : i < nL) (h : GC X (pc + 3) (L.set i (.int v)) S ws kc ks Q) : GC X pc L S ws kc ks Q := by
  intro H locs ls hP hS hL
  obtain ⟨q, hq⟩ := List.getElem?_of_mem (asl_mem hl (fun q => by cases q))
  exact lv_iinc (v := v) K.1 K.2.1 hd hL.has hq hv (by rw [K.2.2.2.2.2.2.1]; exact hn) rfl (fun ls' h' => h H locs ls' hP hS (hL.set rfl h'))
theorem gc_dup (K : OkC X cc own nL d) {v : Value} (hd : decode cc pc = .ok (.dup, 1)) (hv : v.category = 1) (h : GC X (pc + 1) L (v :: v :: S) ws kc ks Q) : GC X pc L (v :: S) ws kc ks Q :=
  fun H locs ls hP hS hL => lv_dup K.1 K.2.1 hd hv (h H locs ls hP hS hL)
theorem gc_goto (K : OkC X cc own nL d) {off : Int} (tgt : Nat) (hd : decode cc pc = .ok (.goto off, 3)) (ht : (pc : Int) + off = (tgt : Int)) (h : GC X tgt L S ws kc ks Q) : GC X pc L S ws kc ks Q :=
  fun H locs ls hP hS hL => lv_goto K.1 K.2.1 hd ht (h H locs ls hP hS hL)
theorem gc_ge_t (K : OkC X cc own nL d) {x y : Int32} {off : Int} (tgt : Nat) (hd : decode cc pc = .ok (.if_icmp .ge off, 3)) (ht : (pc : Int) + off = (tgt : Int)) (hxy : y ≤ x) (h : GC X tgt L S ws kc ks Q) : GC X pc L (.int y :: .int x :: S) ws kc ks Q :=
  fun H locs ls hP hS hL => lv_icmp_ge K.1 K.2.1 hd ht (fun _ => h H locs ls hP hS hL) (fun q => absurd hxy q)
theorem gc_ge_f (K : OkC X cc own nL d) {x y : Int32} {off : Int} (tgt : Nat) (hd : decode cc pc = .ok (.if_icmp .ge off, 3)) (ht : (pc : Int) + off = (tgt : Int)) (hxy : ¬ y ≤ x) (h : GC X (pc + 3) L S ws kc ks Q) : GC X pc L (.int y :: .int x :: S) ws kc ks Q :=
  fun H locs ls hP hS hL => lv_icmp_ge K.1 K.2.1 hd ht (fun q => absurd q hxy) (fun _ => h H locs ls hP hS hL)
theorem gc_obj (K : OkC X cc own nL d) (hd0 : 1 ≤ d) {ix a : Nat} (hl : Cond.methodLink own ix Lib.objectInit ∈ TB) (hrm : (S.map fun v => v.category).sum ≤ 8) (hd : decode cc pc = .ok (.invokespecial ix, 3)) (h : GC X (pc + 3) L S ws kc ks Q) : GC X pc L (.ref a :: S) ws kc ks Q := by
  intro H locs ls hP hS hL
  have h1 := K.2.2.2.2.2.2.2.1
  have h2 := K.2.2.2.2.2.2.2.2.1
  refine W.objInit K.1 K.2.1 K.2.2.1 (K.2.2.2.1 _ hl) (K.2.2.2.1 _ wObj1) (K.2.2.2.1 _ wObj2) rfl hL.1 rfl hd (by omega) ?_ (h H locs ls hP hS hL)
  show 2 * 0 + _ + 12 ≤ _
  omega
theorem gc_new (K : OkC X cc own nL d) {C : String} {Tt : u_T} {N ci ix : Nat} (hc : vwCl[ci]? = some (C, Tt, N)) (hin : ∀ w ∈ u_ws C Tt N, w ∈ TB) (ty : Nat → FieldType) (hty : ∀ k, k < N → parseFieldDescriptor (Tt k).2.2.1 = some (ty k)) (hcl : Cond.classLink own ix C ∈ TB) (hinst : Cond.instantiable C N ∈ TB) (hini : Cond.initialized C ∈ TB) {fs : List Value} (hfs : ∀ j, j < N → defaultValue (ty j) = vp_V fs j) (hk : kc + 1 ≤ X.R.cells) (hs : ks + N ≤ X.R.slots) (hd : decode cc pc = .ok (.new ix, 3)) {n : Nat} (hn : ws.length = n)
    (h : GC X (pc + 3) L (.ref (X.B + n) :: S) (ws ++ [.inr (ci, fs)]) (kc + 1) (ks + N) Q) : GC X pc L S ws kc ks Q := by
  intro H locs ls hPW hS hL
  subst hn
  have hK := K.2.2.2.2.2.1
  have hKn := hK.1 ci _ hc
  obtain ⟨hsz, hP⟩ := hPW
  refine W.newcK K.1 K.2.1 K.2.2.1 (K.2.2.2.1 _ hcl) (K.2.2.2.1 _ hinst) (K.2.2.2.1 _ hini) rfl hd hk hs hKn.2.1 hsz fun H1 kC hkC e1 z1 o1 => ?_
  have hkk : ∀ (k : Nat) (x : Nat × va_E), (cw X.E ws)[k]? = some x → H1[x.1]? = H[x.1]? := fun k x hx => o1 x.1 (by rw [← hsz]; exact (hP k x hx).lt)
  refine h H1 locs ls ⟨by rw [z1, List.length_append]; rfl, ?_⟩ ⟨Nat.le_trans hS.1 (by omega), fun x h1 h2 => (o1 x (by rw [← hsz]; exact Nat.lt_of_lt_of_le h1 hS.1)).trans (hS.2.1 x h1 h2), hS.2.2⟩ hL
  rw [← cw_app]
  refine (hP.kept hkk).app (fun k x hx => ?_)
  have hz : k < 1 := (List.getElem?_eq_some_iff.mp hx).1
  rw [show k = 0 by omega] at hx
  cases hx
  exact ⟨_, hc, (u_born ty K.2.2.2.1 hin hKn hkC e1 hty).to hfs⟩
theorem gc_newa (K : OkC X cc own nL d) {atype : ArrayType} {ty : FieldType} (hty : newarray.typeOf atype = ty) (hw : Cond.arrayClass ty ∈ TB) (t0 : Nat) {cA : ClassId} (ht : (tys X.E)[t0]? = some (cA, ty)) (hRA : ∀ U c, va_RA U c ty = (U.vm.findClass ("[" ++ ty.toString) = some c)) (hdef : defaultValue ty = .int 0) (hb4 : componentBytes ty ≤ 4) {v : Int32} {n N : Nat} (hv : v.toNatClampNeg = N) (hv0 : ¬ v < 0) (hN : N ≤ 1000) (hk : kc + 1 ≤ X.R.cells) (hs : ks + N ≤ X.R.slots) (hd : decode cc pc = .ok (.newarray atype, 2)) (hn : ws.length = n)
    (h : GC X (pc + 2) L (.ref (X.B + n) :: S) (ws ++ [.inl (cA, N, .inl (fun _ => 0))]) (kc + 1) (ks + N) Q) : GC X pc L (.int v :: S) ws kc ks Q := by
  intro H locs ls hPW hS hL
  subst hn
  subst hty
  have hK := K.2.2.2.2.2.1
  obtain ⟨hsz, hP⟩ := hPW
  refine va_newaK K.1 K.2.1 (K.2.2.2.1 _ hw) rfl hd rfl hv0 hv (Nat.le_trans (Nat.mul_le_mul hN hb4) (by decide)) hk hs hsz fun H1 cA' e1 z1 o1 hAr hNm => ?_
  have hcA : cA' = cA := by
    have h1 := (hK.2 t0 _ ht).2
    rw [hRA] at h1
    exact Option.some.inj (hNm.symm.trans h1)
  subst hcA
  have hkk : ∀ (k : Nat) (x : Nat × va_E), (cw X.E ws)[k]? = some x → H1[x.1]? = H[x.1]? := fun k x hx => o1 x.1 (by rw [← hsz]; exact (hP k x hx).lt)
  refine h H1 locs ls ⟨by rw [z1, List.length_append]; rfl, ?_⟩ ⟨Nat.le_trans hS.1 (by omega), fun x h1 h2 => (o1 x (by rw [← hsz]; exact Nat.lt_of_lt_of_le h1 hS.1)).trans (hS.2.1 x h1 h2), hS.2.2⟩ hL
  rw [← cw_app]
  refine (hP.kept hkk).app (fun k x hx => ?_)
  have hz : k < 1 := (List.getElem?_eq_some_iff.mp hx).1
  rw [show k = 0 by omega] at hx
  cases hx
  show H1[X.E.B + ws.length]? = some (vp_cell _ _)
  rw [e1, hdef]
  rfl
theorem gc_newq (K : OkC X cc own nL d) {ix n N : Nat} {v : Int32} (hcl : Cond.classLink own ix "ScytheKeepers$Scene" ∈ TB) (hv : v.toNatClampNeg = N) (hv0 : ¬ v < 0) (hN : N ≤ 1000) (hk : kc + 1 ≤ X.R.cells) (hs : ks + N ≤ X.R.slots) (hd : decode cc pc = .ok (.anewarray ix, 3)) (hn : ws.length = n)
    (h : GC X (pc + 3) L (.ref (X.B + n) :: S) (ws ++ [.inl (X.E.cO, N, .inr (.inr (.inr (.inr (fun _ => none)))))]) (kc + 1) (ks + N) Q) : GC X pc L (.int v :: S) ws kc ks Q := by
  intro H locs ls hPW hS hL
  subst hn
  subst hv
  have hK := K.2.2.2.2.2.1
  obtain ⟨hsz, hP⟩ := hPW
  refine W.anew K.1 K.2.1 K.2.2.1 (K.2.2.2.1 _ hcl) (va_AO.use K.2.2.2.2.2.2.2.2.2.1) rfl hd rfl hv0 (Nat.le_trans (Nat.mul_le_mul hN (Nat.le_refl 4)) (by decide)) hk hs fun cA kA comp f1 f2 f3 f4 => ?_
  have hcA : cA = X.E.cO := by
    obtain ⟨_, _, _, _, _, h1⟩ := (hK.2 3 _ rfl).2
    exact Option.some.inj (f1.symm.trans h1)
  subst hcA
  generalize hH1 : H.push ({ cls := X.E.cO, slots := Array.replicate v.toNatClampNeg .null, vm := .none } : Cell) = H1
  have z1 : H1.size = H.size + 1 := by rw [← hH1, Array.size_push]
  have e1 : H1[H.size]? = some (arrV X.E.cO v.toNatClampNeg (fun _ => .null)) := by rw [← hH1, Array.getElem?_push_size, ← arrV_new]
  have o1 : ∀ q : Nat, q < H.size → H1[q]? = H[q]? := fun q hq => by rw [← hH1, Array.getElem?_push, if_neg (Nat.ne_of_lt hq)]
  have hkk : ∀ (k : Nat) (x : Nat × va_E), (cw X.E ws)[k]? = some x → H1[x.1]? = H[x.1]? := fun k x hx => o1 x.1 ((hP k x hx).lt)
  have hh : W X.p X.E.l X.e X.R X.s X.m X.args X.below X.meth X.c H1 locs (kc + 1) (ks + v.toNatClampNeg) Q (F0 X.m (pc + 3) ls (.ref H.size :: S)) := by
    rw [hsz]
    refine h H1 locs ls ⟨by rw [z1, hsz, List.length_append]; rfl, ?_⟩ ⟨Nat.le_trans hS.1 (by omega), fun x h1 h2 => (o1 x (Nat.lt_of_lt_of_le h1 hS.1)).trans (hS.2.1 x h1 h2), hS.2.2⟩ hL
    rw [← cw_app]
    refine (hP.kept hkk).app (fun k x hx => ?_)
    have hz : k < 1 := (List.getElem?_eq_some_iff.mp hx).1
    rw [show k = 0 by omega] at hx
    cases hx
    show H1[X.E.B + ws.length]? = some (vp_cell _ _)
    rw [← hsz, e1, vp_cell_q]
    rfl
  exact hh
theorem gc_get (K : OkC X cc own nL d) {k : Nat} {C : String} {Tt : u_T} {N ci : Nat} {fs : List Value} (hc : vwCl[ci]? = some (C, Tt, N)) (hin : ∀ w ∈ u_ws C Tt N, w ∈ TB) (he : ws[k]? = some (.inr (ci, fs))) (fi : Nat) (hfi : fi < N) {v : Value} (hv : fs[fi]? = some v) {ix : Nat} (hl : lk own ix (Tt fi).1 (Tt fi).2.1 (Tt fi).2.2.1) (hd : decode cc pc = .ok (.getfield ix, 3))
    (h : GC X (pc + 3) L (v :: S) ws kc ks Q) : GC X pc L (.ref (X.B + k) :: S) ws kc ks Q := by
  intro H locs ls hPW hS hL
  rcases hl with hl | ⟨host, hl⟩
  · exact va_get K.1 K.2.1 K.2.2.2.1 hin K.2.2.1 K.2.2.2.2.2.1 hPW.2 k (cw_at X.E he) hc fi hfi (K.2.2.2.1 _ hl) (fun _ q => q) hv hd (h H locs ls hPW hS hL)
  · exact va_getN K.1 K.2.1 K.2.2.2.1 hin K.2.2.1 K.2.2.2.2.2.1 hPW.2 k (cw_at X.E he) hc fi hfi (va_Nw.use (nb_on hl) (K.2.2.2.2.1 _ hl)) (fun _ q => q) hv hd (h H locs ls hPW hS hL)
theorem gc_put (K : OkC X cc own nL d) (hini : X.meth.name = "<init>") {k : Nat} {C : String} {Tt : u_T} {N ci : Nat} {fs : List Value} (hc : vwCl[ci]? = some (C, Tt, N)) (hin : ∀ w ∈ u_ws C Tt N, w ∈ TB) (ty0 : Nat → FieldType) (hty : ∀ k, k < N → parseFieldDescriptor (Tt k).2.2.1 = some (ty0 k)) (hnm : ∀ a, a < N → ∀ b, b < N → a ≠ b → (Tt a).2.1 ≠ (Tt b).2.1) (he : ws[k]? = some (.inr (ci, fs))) (fi : Nat) (hfi : fi < N) {v : Value} (hfin : (Tt fi).2.2.2 = true) (hdecl : (Tt fi).1 = own) (hlen : fi < fs.length) (hn : narrow (ty0 fi) v = v) (hfit : fits (ty0 fi) v = true)
    {ix : Nat} (hl : Cond.fieldLink own ix (Tt fi).1 (Tt fi).2.1 (Tt fi).2.2.1 ∈ TB) (hd : decode cc pc = .ok (.putfield ix, 3)) (h : GC X (pc + 3) L S (ws.set k (.inr (ci, fs.set fi v))) kc ks Q) : GC X pc L (v :: .ref (X.B + k) :: S) ws kc ks Q := by
  intro H locs ls hPW hS hL
  obtain ⟨hsz, hP⟩ := hPW
  have hK := K.2.2.2.2.2.1
  have hts := K.2.2.2.1
  have hap := va_apart (own := own) hts hin ty0 hty hnm hK hc
  obtain ⟨r, h1, cell, q1, q2, q3, q4⟩ := hP k _ (cw_at X.E he)
  have hr : r = (C, Tt, N) := Option.some.inj (h1.symm.trans hc)
  subst hr
  obtain ⟨hSl, hfc, kC, hkC, hkind⟩ := hK.1 ci _ hc
  obtain ⟨cf, kf, fx, f, hi, hsl⟩ := hSl fi hfi
  have hlay := hts _ (hin _ (u_in_lay hfi))
  unfold u_lay at hlay
  rw [if_pos hfin] at hlay
  have hst := (u_facts hfc hkC (u_lays hts hin hfi) hi).1
  have hcf : X.m.cls = cf := by
    obtain ⟨_, _, c', _, _, _, -, -, hf', -, -, -, hown2, -⟩ := Cond.laysFinal_spec hlay
    have e1 : c' = cf := by have := hi.symm.trans hf'; simp at this; exact this.1.symm
    rw [hdecl] at hown2
    rw [← e1]; exact Option.some.inj (K.2.2.1.symm.trans hown2)
  have h6 := u_fits hfc hkC hkind (Or.inr hlay) hi (hty fi hfi) hn hfit
  refine W.putFinK K.1 K.2.1 K.2.2.1 (hts _ hl) hi hst hcf hini (by rw [q2]; exact h6) q1 q3 (by rw [hsl]; exact k2_hasslot (q4 fi hfi)) rfl rfl hd fun H' e1 e2 e3 => ?_
  rw [hsl] at e1 ⊢
  refine h H' _ ls ⟨by rw [e2, hsz, List.length_set], ?_⟩ (hS.put e2 e3 ((cw_D X.E ws).2 k _ (cw_at X.E he))) hL
  rw [← cw_set]
  exact hP.set (cw_D X.E ws) (cw_at X.E he) ⟨_, hc, t_OB.to (V := updV (vp_V fs) fi v) ⟨_, e1, q2, q3, t_set q4 hap hfi v⟩ (fun j _ => vp_updV_set hlen v j)⟩ e3
theorem gc_aast (K : OkC X cc own nL d) {q0 qk n : Nat} {vs : List Value} {f : Nat → Option Nat} (ha : ws[q0]? = some (.inl (X.E.cO, n, .inr (.inr (.inr (.inr f)))))) (hv : ws[qk]? = some (.inr (3, vs))) {i : Int32} {j : Nat} (hj : i.toNatClampNeg = j) (hjn : j < n) (h0 : ¬ i < 0) (hd : decode cc pc = .ok (.aastore, 1))
    (h : GC X (pc + 1) L S (ws.set q0 (.inl (X.E.cO, n, .inr (.inr (.inr (.inr (va_up f j (some (X.B + qk)))))))) ) kc ks Q) : GC X pc L (.ref (X.B + qk) :: .int i :: .ref (X.B + q0) :: S) ws kc ks Q := by
  intro H locs ls hPW hS hL
  obtain ⟨hsz, hP⟩ := hPW
  subst hj
  have hK := K.2.2.2.2.2.1
  obtain ⟨r', hr', cellV, g1, g2, g3, -⟩ := hP qk _ (cw_at X.E hv)
  have hcls := (hK.1 3 (RX3, TX3, 5) rfl).2
  obtain ⟨kA, comp, k1, k2, k3, -⟩ := (hK.2 3 _ rfl).2
  have hcomp : comp = X.E.D.1 3 := Option.some.inj (k3.symm.trans hcls.1)
  subst hcomp
  obtain ⟨kC, hkC, -⟩ := hcls.2
  refine W.aast K.1 K.2.1 (hP q0 _ (cw_at X.E ha)) (fun q h => by cases h) (fun h => by cases h) k1 k2 rfl hkC ⟨h0, by show _ < (arrV _ _ _).slots.size; rw [arrV_size]; exact hjn⟩ g1 (fun q h => by rw [g3] at h; cases h) (by rw [g2]; exact hkC) (by rw [g2]; exact va_assign hcls) rfl rfl hd fun H1 e z oq => ?_
  refine h H1 _ ls ⟨by rw [z, hsz, List.length_set], ?_⟩ (hS.put z oq ((cw_D X.E ws).2 q0 _ (cw_at X.E ha))) hL
  rw [← cw_set]
  refine hP.set (cw_D X.E ws) (cw_at X.E ha) ?_ oq
  show H1[X.E.B + q0]? = some (vp_cell _ _)
  rw [e]
  rw [vp_cell_q, vp_cell_q, arrV_store]
  congr 2
  funext q
  by_cases hq : q = i.toNatClampNeg
  · subst hq
    simp [updV, va_up, va_rf]
  · simp [updV, va_up, hq]
def RVC (X : Cx) (cc : ByteArray) : Prop := ∀ (pc kc ks : Nat) (ws : List va_E) (H : Heap) (locs : List Loc) (ls : Array Slot), decode cc pc = .ok (.return_, 1) → PW X.E ws H → va_S (AA X.E) X.s.heap H locs → W X.p X.E.l X.e X.R X.s X.m X.args X.below X.meth X.c H locs kc ks (QC X ws kc ks) (F0 X.m pc ls [])
theorem gc_ret (hR : RVC X cc) (hd : decode cc pc = .ok (.return_, 1)) : GC X pc L [] ws kc ks (QC X ws kc ks) := fun H locs ls hP hS _ => hR pc kc ks ws H locs ls hd hP hS
/-! a constructor's contract, from its own base; the caller's cells ahead of it stay -/
def sh (E : Ce) (n : Nat) : Ce := (E.l, E.B + n, E.D, E.cI, E.cC, E.cZ, E.cO)
theorem cw_sh (E : Ce) (pre suf : List va_E) : cw E (pre ++ suf) = cw E pre ++ cw (sh E pre.length) suf := by
  simp only [cw, List.mapIdx_append]
  congr 1
  apply List.ext_getElem?
  intro i
  simp only [List.getElem?_mapIdx]
  cases suf[i]? with
  | none => rfl
  | some e =>
    show some (E.B + (i + pre.length), e) = some (E.B + pre.length + i, e)
    rw [show E.B + (i + pre.length) = E.B + pre.length + i by omega]
theorem pw_suf {E : Ce} {pre suf : List va_E} {H : Heap} (h : PW E (pre ++ suf) H) : PW (sh E pre.length) suf H := by
  refine ⟨by rw [h.1, List.length_append]; show _ = E.B + pre.length + suf.length; omega, fun k q hk => ?_⟩
  have h2 := h.2
  rw [cw_sh] at h2
  exact h2 ((cw E pre).length + k) q (by rw [List.getElem?_append_right (by omega)]; rw [show (cw E pre).length + k - (cw E pre).length = k by omega]; exact hk)
theorem pw_join {E : Ce} {pre suf suf' : List va_E} {H H1 : Heap} (h : PW E (pre ++ suf) H) (h1 : PW (sh E pre.length) suf' H1) (hk : ∀ q : Nat, q < H.size → ¬ AA (sh E pre.length) q → H1[q]? = H[q]?) : PW E (pre ++ suf') H1 := by
  refine ⟨by rw [h1.1, List.length_append]; show E.B + pre.length + suf'.length = _; omega, ?_⟩
  rw [cw_sh]
  have h2 := h.2
  rw [cw_sh] at h2
  refine va_P.app (fun k q hq => ?_) h1.2
  have hl : k < (cw E pre).length := (List.getElem?_eq_some_iff.mp hq).1
  have h3 : va_at E.D vwCl q H := h2 k q (by rw [List.getElem?_append_left hl]; exact hq)
  refine h3.kept (hk q.1 h3.lt ?_)
  show ¬ E.B + pre.length ≤ q.1
  have h4 : q.1 = E.B + k := by
    simp only [cw, List.getElem?_mapIdx] at hq
    cases hw : pre[k]? with
    | none => rw [hw] at hq; cases hq
    | some e => rw [hw] at hq; cases hq; rfl
  rw [cw_len] at hl
  omega
theorem wdC_blind {E : Ce} {ws : List va_E} {as : List Value} : FrameBlind (va_Pc as (WdC E ws)) := by
  intro a U g mk q
  obtain ⟨q0, qP, qK, qN, qA⟩ := q
  exact ⟨q0, qP, va_K.moved (u := U) (U := U.calling g mk a) (Vm.Alike.refl U.vm) qK, fun w hw => va_Nw.same (nb_on hw) (rfl : U.vm = (U.calling g mk a).vm) (qN w hw), va_AO.moved (u := U) (U := U.calling g mk a) (Vm.Alike.refl U.vm) qA⟩
theorem gc_call (K : OkC X cc own nL d) {y : MethodName} {cc' : ByteArray} {mL d' mc ms n ix k np : Nat} {As : List Value} {pre suf suf' : List va_E} (hcon : ConC (sh X.E np) y cc' mL d' mc ms (.ref (X.B + k) :: As) suf suf') (hnp : pre.length = np) (hws : ws = pre ++ suf) (hws' : ws' = pre ++ suf') (hd' : d' < d) (hm : mL ≤ 21) (hcode : Cond.code y cc' mL none ∈ TB) (hini : Cond.initialized y.cls ∈ TB) (hlink : Cond.methodLink own ix y ∈ TB ∨ ∃ host, Cond.methodLinkNest own ix y host ∈ NB) (hin : Cond.instanceMethod y ∈ TB) (hyi : y.name = "<init>")
    (hy : y.cls ≠ "java/lang/invoke/MethodHandle" ∧ y.cls ≠ "java/lang/invoke/VarHandle" ∧ (parseMethodDescriptor y.desc).map (fun d => d.parameters.length) = some n) (hn : As.length = n) {S0 : List Value} (hS0 : S0 = As.reverse ++ .ref (X.B + k) :: S) (hrm : (S.map fun v => v.category).sum ≤ 8) (hd : decode cc pc = .ok (.invokespecial ix, 3)) (hk : kc + mc ≤ X.R.cells) (hs : ks + ms ≤ X.R.slots)
    (h : GC X (pc + 3) L S ws' (kc + mc) (ks + ms) Q) : GC X pc L S0 ws kc ks Q := by
  intro H locs ls hPW hS hL
  subst hS0
  subst hws
  subst hws'
  subst hnp
  have hP0 : ∀ U : State, U.heap = H → X.s.WarmedH U.vm → va_Pc (.ref (X.B + k) :: As) (WdC (sh X.E pre.length) suf) (.ref (X.B + k) :: As).toArray U := fun U hU hW => ⟨rfl, by rw [hU]; exact pw_suf hPW, va_K.moved hW.alike K.2.2.2.2.2.1, nb_warm hW K.2.2.2.2.1, va_AO.moved hW.alike K.2.2.2.2.2.2.2.2.2.1⟩
  have hR : (rmC d' mc ms).frames + 1 ≤ X.R.frames ∧ 8 + (mL + 11) + (rmC d' mc ms).locals ≤ X.R.locals := ⟨by have := K.2.2.2.2.2.2.2.1; show d' + 1 ≤ _; omega, by have := K.2.2.2.2.2.2.2.2.1; show 8 + (mL + 11) + 40 * d' ≤ _; omega⟩
  have hrun : va_Run X.p X.E.l X.e X.R X.s X.m X.args X.below X.meth X.c H locs kc ks mc ms (F0 X.m pc ls (As.reverse ++ .ref (X.B + k) :: S)) S (QmC (sh X.E pre.length) suf' (Value.ref (X.B + k) :: As).toArray) (AA (sh X.E pre.length)) := by
    rcases hlink with hl | ⟨host, hl⟩
    · exact va_runI (Ts := TB) (As := As) (rest := S) ⟨K.1, K.2.1, rfl, K.2.2.1, K.2.2.2.1⟩ hcon ⟨callB_of n K.2.2.2.1 (tb_goodIn hcode) rfl rfl rfl (K.2.2.2.1 _ hini) (K.2.2.2.1 _ hl) hy hR, hyi, K.2.2.2.1 _ hin⟩ ⟨wdC_blind, hP0⟩ rfl hn hL.1 rfl (lv_room hrm) hd ⟨hk, hs⟩
    · exact va_runIN (Ts := TB) (host := host) (As := As) (rest := S) ⟨K.1, K.2.1, rfl, K.2.2.1, K.2.2.2.1⟩ hcon ⟨va_cnB n K.2.2.2.1 (tb_goodIn hcode) rfl rfl rfl (K.2.2.2.2.1 _ hl) (K.2.2.2.1 _ hini) hy hR, hyi, K.2.2.2.1 _ hin⟩ ⟨wdC_blind, hP0⟩ rfl hn hL.1 rfl (lv_room hrm) hd ⟨hk, hs⟩
  intro T hT X0
  obtain ⟨v, st₀, t, T', Lc, h0, X', hLc, e1, e2, ⟨hv, hP1, hz, hkk⟩, st⟩ := hrun T hT X0
  rw [h0] at hz hkk
  have hpw : PW X.E (pre ++ suf') T'.heap := pw_join hPW (by rw [e1]; exact hP1) (fun q h1 h2 => by rw [e1]; exact hkk q h1 h2)
  obtain ⟨t2, a1, b1⟩ := h T'.heap (locs ++ Lc) ls hpw
    ⟨Nat.le_trans hS.1 (by rw [e1]; exact hz), fun q h1 h2 => by rw [e1, hkk q (Nat.lt_of_lt_of_le h1 hS.1) (fun z => h2 (by show X.E.B ≤ q; have z2 : X.E.B + pre.length ≤ q := z; omega))]; exact hS.2.1 q h1 h2, fun q hq => by
      rcases List.mem_append.mp hq with h | h
      · exact hS.2.2 q h
      · have z2 : X.E.B + pre.length ≤ q.base := hLc q h
        show X.E.B ≤ q.base
        omega⟩ hL T' rfl X'
  refine ⟨t2, st t2 ?_, b1⟩
  cases hv
  exact a1
end
theorem ConC.of {E : Ce} {y : MethodName} {cc : ByteArray} {mL d mc ms : Nat} {as : List Value} {ws ws' : List va_E} (hy : plainName y.cls = true) (hyi : y.name = "<init>") (hc : ∀ v ∈ as, v.category = 1) (hl : (lg_sl as).length ≤ mL) (L : List Value) (hL : lsub L (as ++ List.replicate L.length .null))
    (h : ∀ X : Cx, X.E = E → X.R = rmC d mc ms → X.meth.name = "<init>" → OkC X cc y.cls mL d → RVC X cc → GC X 0 L [] ws 0 0 (QC X ws' mc ms)) : ConC E y cc mL d mc ms as ws ws' := by
  refine Met.ofW (cc := cc) (maxL := mL) (ret := none) hy rfl ?_
  intro p e s m args below meth c s₁ B hml hv
  obtain ⟨rfl, hP, hK, hN, hA⟩ := hv
  have hx := B.exec
  have hb := B.bytes
  have hr := B.returns
  have hts := atoms_spec (ws := .code y cc mL none :: TB) B.pre
  have hown : s.vm.findClass y.cls = some m.cls := findClass_of_methodNamed B.named
  have hlocks := B.notSynchronized
  have hnm : meth.name = y.name := (name_of_methodNamed B.named B.method).1
  have hS : va_S (AA E) s.heap s.heap [] := va_S.rf
  rw [lg_entry_eq]
  let X : Cx := (E, p, e, rmC d mc ms, s, m, as.toArray, below, meth, c, fun _ _ _ => True, 0, 0)
  have hok : OkC X cc y.cls mL d := ⟨hx, hb, hown, fun w hw => hts w (List.mem_cons_of_mem _ hw), hN, hK, hml, Nat.le_refl _, Nat.le_refl _, hA, by show E.B ≤ s.heap.size; rw [hP.1]; omega⟩
  have hg := h X rfl rfl (hnm.trans hyi) hok
    (fun pc kc ks ws2 H locs ls hd hP2 hS2 => W.vret hx hb hr (fun t ht hW => ⟨rfl, by rw [ht]; exact hP2, hS2.F ht⟩) hS2.2.2 hd)
  exact hg s.heap [] _ hP hS (by
    show LH _ c.maxLocals L
    rw [hml]
    exact LH.entry hc hl hL)

