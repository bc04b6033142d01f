theorem wcM_max : Cond.code Lib.Math.max.name Lib.Math.max.code 2 (some .int) ∈ TB := tb_mem 511 (by decide +kernel) (by decide +kernel)
theorem wtM_max : Cond.static Lib.Math.max.name ∈ TB := tb_mem 510 (by decide +kernel) (by decide +kernel)
theorem g_mmax {X : Cx} {cc : ByteArray} {own : String} {nL d pc : Nat} {L S : List Value} {s : St} {o : Option (Int32 × St)} (K : Ok X cc own nL d) (hd0 : 1 ≤ d) {x y : Int32} {ix : Nat} (hl : Cond.methodLink own ix Lib.Math.max.name ∈ TB) (hrm : (S.map fun v => v.category).sum ≤ 8) (hd : decode cc pc = .ok (.invokestatic ix, 3)) (h : G X (pc + 3) L (.int (if x < y then y else x) :: S) s o) : G X pc L (.int y :: .int x :: S) s o := by
  intro r s' e H locs ls hP hS hL
  have h1 := K.2.2.2.2.2.2.2.1
  have h2 := K.2.2.2.2.2.2.2.2.1
  exact va_mmax K.1 K.2.1 hL.1.symm K.2.2.1 (K.2.2.2.1 _ hl) (K.2.2.2.1 _ wtM_max) (K.2.2.2.1 _ wiJ9) (K.2.2.2.1 _ wcM_max) (by omega) (by omega) K.2.2.2.2.2.2.2.2.2.1 K.2.2.2.2.2.2.2.2.2.2 hd (h r s' e H locs ls hP hS hL)
theorem wcM_min : Cond.code Lib.Math.min.name Lib.Math.min.code 2 (some .int) ∈ TB := tb_mem 306 (by decide +kernel) (by decide +kernel)
theorem wtM_min : Cond.static Lib.Math.min.name ∈ TB := tb_mem 305 (by decide +kernel) (by decide +kernel)
theorem g_mmin {X : Cx} {cc : ByteArray} {own : String} {nL d pc : Nat} {L S : List Value} {s : St} {o : Option (Int32 × St)} (K : Ok X cc own nL d) (hd0 : 1 ≤ d) {x y : Int32} {ix : Nat} (hl : Cond.methodLink own ix Lib.Math.min.name ∈ TB) (hrm : (S.map fun v => v.category).sum ≤ 8) (hd : decode cc pc = .ok (.invokestatic ix, 3)) (h : G X (pc + 3) L (.int (if y < x then y else x) :: S) s o) : G X pc L (.int y :: .int x :: S) s o := by
  intro r s' e H locs ls hP hS hL
  have h1 := K.2.2.2.2.2.2.2.1
  have h2 := K.2.2.2.2.2.2.2.2.1
  exact va_mmin K.1 K.2.1 hL.1.symm K.2.2.1 (K.2.2.2.1 _ hl) (K.2.2.2.1 _ wtM_min) (K.2.2.2.1 _ wiJ9) (K.2.2.2.1 _ wcM_min) (by omega) (by omega) K.2.2.2.2.2.2.2.2.2.1 K.2.2.2.2.2.2.2.2.2.2 hd (h r s' e H locs ls hP hS hL)
theorem wcM_abs : Cond.code Lib.Math.abs.name Lib.Math.abs.code 1 (some .int) ∈ TB := tb_mem 456 (by decide +kernel) (by decide +kernel)
theorem wtM_abs : Cond.static Lib.Math.abs.name ∈ TB := tb_mem 455 (by decide +kernel) (by decide +kernel)
theorem g_mabs {X : Cx} {cc : ByteArray} {own : String} {nL d pc : Nat} {L S : List Value} {s : St} {o : Option (Int32 × St)} (K : Ok X cc own nL d) (hd0 : 1 ≤ d) {x : Int32} {ix : Nat} (hl : Cond.methodLink own ix Lib.Math.abs.name ∈ TB) (hrm : (S.map fun v => v.category).sum ≤ 8) (hd : decode cc pc = .ok (.invokestatic ix, 3)) (h : G X (pc + 3) L (.int (if 0 ≤ x then x else 0 - x) :: S) s o) : G X pc L (.int x :: S) s o := by
  intro r s' e H locs ls hP hS hL
  have h1 := K.2.2.2.2.2.2.2.1
  have h2 := K.2.2.2.2.2.2.2.2.1
  exact va_mabs K.1 K.2.1 hL.1.symm K.2.2.1 (K.2.2.2.1 _ hl) (K.2.2.2.1 _ wtM_abs) (K.2.2.2.1 _ wiJ9) (K.2.2.2.1 _ wcM_abs) (by omega) (by omega) K.2.2.2.2.2.2.2.2.2.1 K.2.2.2.2.2.2.2.2.2.2 hd (h r s' e H locs ls hP hS hL)
theorem g_wk {X : Cx} {pc : Nat} {L L' S : List Value} {s : St} {o : Option (Int32 × St)} (h : G X pc L' S s o) (hs : lsub L' L) : G X pc L S s o := g_weak hs h
theorem Con.ofF {E : Ce} {y : MethodName} {cc : ByteArray} {mL : Nat} {ret : Option FieldType} {d : Nat} {as : List Value} {f : St → Option (Int32 × St)} (hy : plainFor y = true) (hc : ∀ v ∈ as, v.category = 1) (hl : (lg_sl as).length ≤ mL) (hret : ret = some .int) (L : List Value) (hL : lsub L (as ++ List.replicate L.length .null))
    (h : ∀ (X : Cx) (s : St), X.E = E → Ok X cc y.cls mL d → (ret = some .int → RI X cc) → G X 0 L [] s (f s)) : Con E y cc mL ret d as f := by
  intro s0 r0 s0' e0
  refine va_MetF (cc := cc) (maxL := mL) (ret := ret) hy rfl ?_
  intro p e s m args below meth c s₁ B hml hv
  obtain ⟨rfl, hP, hK, hN⟩ := hv
  have hx := B.exec
  have hb := B.bytes
  have hr := B.returns
  have hts := atoms_spec (ws := .code y cc mL ret :: TB) B.pre
  have hown : s.vm.findClass y.cls = some m.cls := findClass_of_methodNamed B.named
  have hlocks := B.notSynchronized
  have hS : va_S (AA E) s.heap s.heap [] := va_S.rf
  rw [lg_entry_eq]
  let X : Cx := (E, p, e, rmD d, s, m, as.toArray, below, meth, c, fun r s' => MQ below (Qm E ret r s') as.toArray s 0 0 (AA E), 0, 0)
  have hok : Ok X cc y.cls mL d := ⟨hx, hb, hown, fun w hw => hts w (List.mem_cons_of_mem _ hw), hN, hK, hml, Nat.le_refl _, Nat.le_refl _, Nat.le_refl _, Nat.le_refl _⟩
  have hg := h X s0 rfl hok
    (fun hre => by
      subst hre
      intro pc v s2 H locs ls hd hP2 hS2
      exact W.iret (v := v) hx hb hr (fun t ht hW => ⟨rfl, by rw [ht]; exact hP2, hS2.F ht⟩) hS2.2.2 hd)
  exact hg r0 s0' e0 s.heap [] _ hP hS (by
    show LH _ c.maxLocals L
    rw [hml]
    exact LH.entry hc hl hL)
theorem plain_bitCount : plainFor yJ6_bitCount_0f7a4 = true := by decide +kernel
