/-! THE CLAIM OUT OF ONE WALK OF THE LAW'S BODY. Your part is whole_start (and what it stands on); all else here is the same for every law, but numbers. -/
def R_law : String := "ScytheKeepersLaw"
def lw_P (b : Addr) (xs : List Int32) (args : Array Value) (s : State) : Prop := args = #[.ref b] ∧ s.IntsAt b xs ∧ xs.length ≤ 2560 ∧ (Jvm.Cond.and given_1 narrow_1).before args s = true
def lw_Q (_ : Array Value) (s : State) (o : Outcome) (t : State) : Prop := o = .returned (some (.int 1)) ∧ Framed s o t [] 600000 7302249
def lw_Z (below : List Frame) (a : Array Value) (s : State) : State → Prop := fun t => ∃ o, t.status = .running ∧ Ended t below o ∧ lw_Q a s o t
/-- the law's own end, with 1 on the stack, nothing written that was there before, its room as the claim has it -/
theorem lw_ret {p : Program} {l : Launch} {e : Env} {s : State} {m : MethodId} {below : List Frame} {meth : Method} {c : Code} {b : Nat} (hx : p.tables.exec = Jvm.exec) (hb : c.code = code) (hr : meth.sig.returnType = ret) (hlocks : meth.locks = false) {pc : Nat} {H : Heap} {ls : Array Slot} (hdg : decode code pc = .ok (.ireturn, 1)) : W p l e room_1 s m #[Value.ref b] below meth c H [] 600000 7302249 (lw_Z below #[Value.ref b] s) (F0 m pc ls [.int 1]) := by
  intro T hT X
  obtain ⟨fs, hret, hrun, hended, hW, hframe⟩ := X.leave (v := some (.int 1)) (hlocks := hlocks) (fun h => by rw [hr] at h; cases h)
  have hmeth' : T.vm.method? m = some meth := X.method'
  refine ⟨T.setFrames fs, ?_, .returned (some (.int 1)), hrun, hended, rfl, ⟨_, rfl⟩, hW, hframe⟩
  jvm_step X.here [X.here.top, hx, hb, hdg, hmeth', hr, ret, narrow_b1]
  (try refine ⟨rfl, ?_⟩); (try refine ⟨rfl, ?_⟩)
  first | (intro acts; rw [hret _ acts rfl rfl rfl]) | rw [hret _ _ rfl rfl rfl]
  exact Steps.refl _
/-- what holds at the law's entry: the machine, the code, the tables' words (any of lw_tbl by 'hts w (by decide +kernel)'), the script of L ints xs at the cell b, what the Statement gives of the start (any of its parts by flat_of_before) -/
def lw_At (p : Program) (s : State) (m : MethodId) (meth : Method) (c : Code) (b L : Nat) (xs : Nat → Int32) : Prop :=
  p.tables.exec = Jvm.exec ∧ c.code = code ∧ meth.sig.returnType = ret ∧ c.maxLocals = 4 ∧ s.vm.findClass R_law = some m.cls ∧ (∀ w ∈ lw_tbl, w.before #[Value.ref b] s = true) ∧ va_X b L xs s s.heap ∧ b < s.heap.size ∧ meth.locks = false ∧ (Jvm.Cond.and given_1 narrow_1).before #[Value.ref b] s = true
def s0 : St := (fun _ _ => 0, fun _ => 0)
def ws67 (E : Ce) : List va_E := [.inr (6, [.ref (E.B + 1), .ref (E.B + 3), .ref (E.B + 9), .ref (E.B + 15), .ref (E.B + 18), .ref (E.B + 21), .ref (E.B + 53), .ref (E.B + 60), .ref (E.B + 61), .ref (E.B + 64), .ref (E.B + 66), .long 0]), .inr (5, [.ref (E.B + 2), .int 0, .int 0, .int 0, .int 0, .int 0]), c_ E 140, .inr (1, [.int 0, .ref (E.B + 4), .ref (E.B + 5), .ref (E.B + 6), .ref (E.B + 7), .ref (E.B + 8)]), i_ E 6, i_ E 6, i_ E 6, i_ E 6, i_ E 6, .inr (1, [.int 0, .ref (E.B + 10), .ref (E.B + 11), .ref (E.B + 12), .ref (E.B + 13), .ref (E.B + 14)]), i_ E 6, i_ E 6, i_ E 6, i_ E 6, i_ E 6, .inr (3, [.ref (E.B + 9), .int 0, .int 0, .ref (E.B + 16), .ref (E.B + 17)]), i_ E 6, i_ E 6, .inr (3, [.ref (E.B + 9), .int 0, .int 0, .ref (E.B + 19), .ref (E.B + 20)]), i_ E 6, i_ E 6, .inr (2, [.ref (E.B + 22), .int 0, .int 0]), o_ E 10 (va_up (va_up (va_up (va_up (va_up (va_up (va_up (va_up (va_up (va_up (fun _ => none) 0 (some (E.B + 23))) 1 (some (E.B + 26))) 2 (some (E.B + 29))) 3 (some (E.B + 32))) 4 (some (E.B + 35))) 5 (some (E.B + 38))) 6 (some (E.B + 41))) 7 (some (E.B + 44))) 8 (some (E.B + 47))) 9 (some (E.B + 50))), .inr (3, [.ref (E.B + 9), .int 0, .int 0, .ref (E.B + 24), .ref (E.B + 25)]), i_ E 6, i_ E 6, .inr (3, [.ref (E.B + 9), .int 0, .int 0, .ref (E.B + 27), .ref (E.B + 28)]), i_ E 6, i_ E 6, .inr (3, [.ref (E.B + 9), .int 0, .int 0, .ref (E.B + 30), .ref (E.B + 31)]), i_ E 6, i_ E 6, .inr (3, [.ref (E.B + 9), .int 0, .int 0, .ref (E.B + 33), .ref (E.B + 34)]), i_ E 6, i_ E 6, .inr (3, [.ref (E.B + 9), .int 0, .int 0, .ref (E.B + 36), .ref (E.B + 37)]), i_ E 6, i_ E 6, .inr (3, [.ref (E.B + 9), .int 0, .int 0, .ref (E.B + 39), .ref (E.B + 40)]), i_ E 6, i_ E 6, .inr (3, [.ref (E.B + 9), .int 0, .int 0, .ref (E.B + 42), .ref (E.B + 43)]), i_ E 6, i_ E 6, .inr (3, [.ref (E.B + 9), .int 0, .int 0, .ref (E.B + 45), .ref (E.B + 46)]), i_ E 6, i_ E 6, .inr (3, [.ref (E.B + 9), .int 0, .int 0, .ref (E.B + 48), .ref (E.B + 49)]), i_ E 6, i_ E 6, .inr (3, [.ref (E.B + 9), .int 0, .int 0, .ref (E.B + 51), .ref (E.B + 52)]), i_ E 6, i_ E 6, o_ E 2 (va_up (va_up (fun _ => none) 0 (some (E.B + 54))) 1 (some (E.B + 57))), .inr (3, [.ref (E.B + 9), .int 0, .int 0, .ref (E.B + 55), .ref (E.B + 56)]), i_ E 6, i_ E 6, .inr (3, [.ref (E.B + 9), .int 0, .int 0, .ref (E.B + 58), .ref (E.B + 59)]), i_ E 6, i_ E 6, z_ E 2, .inr (0, [.ref (E.B + 9), .int 0, .ref (E.B + 62), .ref (E.B + 63)]), i_ E 6, i_ E 6, .inr (4, [.int 0, .ref (E.B + 65)]), z_ E 147, i_ E 9]
def ws80 (E : Ce) : List va_E := [.inr (6, [.ref (E.B + 1), .ref (E.B + 3), .ref (E.B + 9), .ref (E.B + 15), .ref (E.B + 18), .ref (E.B + 21), .ref (E.B + 53), .ref (E.B + 60), .ref (E.B + 61), .ref (E.B + 64), .ref (E.B + 66), .long 0]), .inr (5, [.ref (E.B + 2), .int 0, .int 0, .int 0, .int 0, .int 0]), c_ E 140, .inr (1, [.int 0, .ref (E.B + 4), .ref (E.B + 5), .ref (E.B + 6), .ref (E.B + 7), .ref (E.B + 8)]), i_ E 6, i_ E 6, i_ E 6, i_ E 6, i_ E 6, .inr (1, [.int 0, .ref (E.B + 10), .ref (E.B + 11), .ref (E.B + 12), .ref (E.B + 13), .ref (E.B + 14)]), i_ E 6, i_ E 6, i_ E 6, i_ E 6, i_ E 6, .inr (3, [.ref (E.B + 9), .int 0, .int 0, .ref (E.B + 16), .ref (E.B + 17)]), i_ E 6, i_ E 6, .inr (3, [.ref (E.B + 9), .int 0, .int 0, .ref (E.B + 19), .ref (E.B + 20)]), i_ E 6, i_ E 6, .inr (2, [.ref (E.B + 22), .int 0, .int 0]), o_ E 10 (va_up (va_up (va_up (va_up (va_up (va_up (va_up (va_up (va_up (va_up (fun _ => none) 0 (some (E.B + 23))) 1 (some (E.B + 26))) 2 (some (E.B + 29))) 3 (some (E.B + 32))) 4 (some (E.B + 35))) 5 (some (E.B + 38))) 6 (some (E.B + 41))) 7 (some (E.B + 44))) 8 (some (E.B + 47))) 9 (some (E.B + 50))), .inr (3, [.ref (E.B + 9), .int 0, .int 0, .ref (E.B + 24), .ref (E.B + 25)]), i_ E 6, i_ E 6, .inr (3, [.ref (E.B + 9), .int 0, .int 0, .ref (E.B + 27), .ref (E.B + 28)]), i_ E 6, i_ E 6, .inr (3, [.ref (E.B + 9), .int 0, .int 0, .ref (E.B + 30), .ref (E.B + 31)]), i_ E 6, i_ E 6, .inr (3, [.ref (E.B + 9), .int 0, .int 0, .ref (E.B + 33), .ref (E.B + 34)]), i_ E 6, i_ E 6, .inr (3, [.ref (E.B + 9), .int 0, .int 0, .ref (E.B + 36), .ref (E.B + 37)]), i_ E 6, i_ E 6, .inr (3, [.ref (E.B + 9), .int 0, .int 0, .ref (E.B + 39), .ref (E.B + 40)]), i_ E 6, i_ E 6, .inr (3, [.ref (E.B + 9), .int 0, .int 0, .ref (E.B + 42), .ref (E.B + 43)]), i_ E 6, i_ E 6, .inr (3, [.ref (E.B + 9), .int 0, .int 0, .ref (E.B + 45), .ref (E.B + 46)]), i_ E 6, i_ E 6, .inr (3, [.ref (E.B + 9), .int 0, .int 0, .ref (E.B + 48), .ref (E.B + 49)]), i_ E 6, i_ E 6, .inr (3, [.ref (E.B + 9), .int 0, .int 0, .ref (E.B + 51), .ref (E.B + 52)]), i_ E 6, i_ E 6, o_ E 2 (va_up (va_up (fun _ => none) 0 (some (E.B + 54))) 1 (some (E.B + 57))), .inr (3, [.ref (E.B + 9), .int 0, .int 0, .ref (E.B + 55), .ref (E.B + 56)]), i_ E 6, i_ E 6, .inr (3, [.ref (E.B + 9), .int 0, .int 0, .ref (E.B + 58), .ref (E.B + 59)]), i_ E 6, i_ E 6, z_ E 2, .inr (0, [.ref (E.B + 9), .int 0, .ref (E.B + 62), .ref (E.B + 63)]), i_ E 6, i_ E 6, .inr (4, [.int 0, .ref (E.B + 65)]), z_ E 147, i_ E 9, .inr (7, [.int 0, .ref (E.B + 68), .ref (E.B + 69), .ref (E.B + 70), .ref (E.B + 71), .ref (E.B + 72), .int 0, .ref (E.B + 73), .ref (E.B + 74), .int 0, .ref (E.B + 75), .long 0, .ref (E.B + 76), .int 0, .int 0, .int 0, .int 0, .int 0, .int 0, .int 0, .int 0, .ref (E.B + 77), .ref (E.B + 78), .int 0, .ref (E.B + 79)]), i_ E 6, i_ E 6, i_ E 6, i_ E 14, i_ E 140, i_ E 28, z_ E 2, i_ E 18, i_ E 140, i_ E 30, i_ E 14, i_ E 6]
theorem va_arr {D : va_G} {a n : Nat} {cA : ClassId} {f g : Nat → Option Nat} {H : Heap} (h : va_at D vwCl (a, .inl (cA, n, .inr (.inr (.inr (.inr f))))) H) (hfg : ∀ j, j < n → f j = g j) : va_at D vwCl (a, .inl (cA, n, .inr (.inr (.inr (.inr g))))) H := by
  have h1 : H[a]? = some (vp_cell cA (n, .inr (.inr (.inr (.inr f))))) := h
  show H[a]? = some (vp_cell cA (n, .inr (.inr (.inr (.inr g)))))
  rw [h1, vp_cell_q, vp_cell_q]
  unfold arrV
  congr 3
  funext j
  show va_rf (f j.val) = va_rf (g j.val)
  rw [hfg j.val j.isLt]
theorem cv_0 (E : Ce) (H : Heap) (h : va_at E.D vwCl (E.B + 0, .inr (6, [.ref (E.B + 1), .ref (E.B + 3), .ref (E.B + 9), .ref (E.B + 15), .ref (E.B + 18), .ref (E.B + 21), .ref (E.B + 53), .ref (E.B + 60), .ref (E.B + 61), .ref (E.B + 64), .ref (E.B + 66), .long 0])) H) : va_at E.D vwCl (E.B + 0, cellE E 0 (fun _ => 0) 0) H := by rw [ce_6 kd_0]; exact h
theorem cv_1 (E : Ce) (H : Heap) (h : va_at E.D vwCl (E.B + 1, .inr (5, [.ref (E.B + 2), .int 0, .int 0, .int 0, .int 0, .int 0])) H) : va_at E.D vwCl (E.B + 1, cellE E 1 (fun _ => 0) 0) H := by rw [ce_5 kd_1]; exact h
theorem cv_2 (E : Ce) (H : Heap) (h : va_at E.D vwCl (E.B + 2, c_ E 140) H) : va_at E.D vwCl (E.B + 2, cellE E 2 (fun _ => 0) 0) H := by rw [ce_9 kd_2, ln_2]; exact h
theorem cv_3 (E : Ce) (H : Heap) (h : va_at E.D vwCl (E.B + 3, .inr (1, [.int 0, .ref (E.B + 4), .ref (E.B + 5), .ref (E.B + 6), .ref (E.B + 7), .ref (E.B + 8)])) H) : va_at E.D vwCl (E.B + 3, cellE E 3 (fun _ => 0) 0) H := by rw [ce_1 kd_3]; exact h
theorem cv_4 (E : Ce) (H : Heap) (h : va_at E.D vwCl (E.B + 4, i_ E 6) H) : va_at E.D vwCl (E.B + 4, cellE E 4 (fun _ => 0) 0) H := by rw [ce_8 kd_4, ln_4]; exact h
theorem cv_5 (E : Ce) (H : Heap) (h : va_at E.D vwCl (E.B + 5, i_ E 6) H) : va_at E.D vwCl (E.B + 5, cellE E 5 (fun _ => 0) 0) H := by rw [ce_8 kd_5, ln_5]; exact h
theorem cv_6 (E : Ce) (H : Heap) (h : va_at E.D vwCl (E.B + 6, i_ E 6) H) : va_at E.D vwCl (E.B + 6, cellE E 6 (fun _ => 0) 0) H := by rw [ce_8 kd_6, ln_6]; exact h
theorem cv_7 (E : Ce) (H : Heap) (h : va_at E.D vwCl (E.B + 7, i_ E 6) H) : va_at E.D vwCl (E.B + 7, cellE E 7 (fun _ => 0) 0) H := by rw [ce_8 kd_7, ln_7]; exact h
theorem cv_8 (E : Ce) (H : Heap) (h : va_at E.D vwCl (E.B + 8, i_ E 6) H) : va_at E.D vwCl (E.B + 8, cellE E 8 (fun _ => 0) 0) H := by rw [ce_8 kd_8, ln_8]; exact h
theorem cv_9 (E : Ce) (H : Heap) (h : va_at E.D vwCl (E.B + 9, .inr (1, [.int 0, .ref (E.B + 10), .ref (E.B + 11), .ref (E.B + 12), .ref (E.B + 13), .ref (E.B + 14)])) H) : va_at E.D vwCl (E.B + 9, cellE E 9 (fun _ => 0) 0) H := by rw [ce_1 kd_9]; exact h
theorem cv_10 (E : Ce) (H : Heap) (h : va_at E.D vwCl (E.B + 10, i_ E 6) H) : va_at E.D vwCl (E.B + 10, cellE E 10 (fun _ => 0) 0) H := by rw [ce_8 kd_10, ln_10]; exact h
theorem cv_11 (E : Ce) (H : Heap) (h : va_at E.D vwCl (E.B + 11, i_ E 6) H) : va_at E.D vwCl (E.B + 11, cellE E 11 (fun _ => 0) 0) H := by rw [ce_8 kd_11, ln_11]; exact h
theorem cv_12 (E : Ce) (H : Heap) (h : va_at E.D vwCl (E.B + 12, i_ E 6) H) : va_at E.D vwCl (E.B + 12, cellE E 12 (fun _ => 0) 0) H := by rw [ce_8 kd_12, ln_12]; exact h
theorem cv_13 (E : Ce) (H : Heap) (h : va_at E.D vwCl (E.B + 13, i_ E 6) H) : va_at E.D vwCl (E.B + 13, cellE E 13 (fun _ => 0) 0) H := by rw [ce_8 kd_13, ln_13]; exact h
theorem cv_14 (E : Ce) (H : Heap) (h : va_at E.D vwCl (E.B + 14, i_ E 6) H) : va_at E.D vwCl (E.B + 14, cellE E 14 (fun _ => 0) 0) H := by rw [ce_8 kd_14, ln_14]; exact h
theorem cv_15 (E : Ce) (H : Heap) (h : va_at E.D vwCl (E.B + 15, .inr (3, [.ref (E.B + 9), .int 0, .int 0, .ref (E.B + 16), .ref (E.B + 17)])) H) : va_at E.D vwCl (E.B + 15, cellE E 15 (fun _ => 0) 0) H := by rw [ce_3 kd_15]; exact h
theorem cv_16 (E : Ce) (H : Heap) (h : va_at E.D vwCl (E.B + 16, i_ E 6) H) : va_at E.D vwCl (E.B + 16, cellE E 16 (fun _ => 0) 0) H := by rw [ce_8 kd_16, ln_16]; exact h
theorem cv_17 (E : Ce) (H : Heap) (h : va_at E.D vwCl (E.B + 17, i_ E 6) H) : va_at E.D vwCl (E.B + 17, cellE E 17 (fun _ => 0) 0) H := by rw [ce_8 kd_17, ln_17]; exact h
theorem cv_18 (E : Ce) (H : Heap) (h : va_at E.D vwCl (E.B + 18, .inr (3, [.ref (E.B + 9), .int 0, .int 0, .ref (E.B + 19), .ref (E.B + 20)])) H) : va_at E.D vwCl (E.B + 18, cellE E 18 (fun _ => 0) 0) H := by rw [ce_3 kd_18]; exact h
theorem cv_19 (E : Ce) (H : Heap) (h : va_at E.D vwCl (E.B + 19, i_ E 6) H) : va_at E.D vwCl (E.B + 19, cellE E 19 (fun _ => 0) 0) H := by rw [ce_8 kd_19, ln_19]; exact h
theorem cv_20 (E : Ce) (H : Heap) (h : va_at E.D vwCl (E.B + 20, i_ E 6) H) : va_at E.D vwCl (E.B + 20, cellE E 20 (fun _ => 0) 0) H := by rw [ce_8 kd_20, ln_20]; exact h
theorem cv_21 (E : Ce) (H : Heap) (h : va_at E.D vwCl (E.B + 21, .inr (2, [.ref (E.B + 22), .int 0, .int 0])) H) : va_at E.D vwCl (E.B + 21, cellE E 21 (fun _ => 0) 0) H := by rw [ce_2 kd_21]; exact h
theorem cv_22 (E : Ce) (H : Heap) (h : va_at E.D vwCl (E.B + 22, o_ E 10 (va_up (va_up (va_up (va_up (va_up (va_up (va_up (va_up (va_up (va_up (fun _ => none) 0 (some (E.B + 23))) 1 (some (E.B + 26))) 2 (some (E.B + 29))) 3 (some (E.B + 32))) 4 (some (E.B + 35))) 5 (some (E.B + 38))) 6 (some (E.B + 41))) 7 (some (E.B + 44))) 8 (some (E.B + 47))) 9 (some (E.B + 50)))) H) : va_at E.D vwCl (E.B + 22, cellE E 22 (fun _ => 0) 0) H := by
  rw [ce_11 kd_22, ln_22]
  refine va_arr h (fun j hj => ?_)
  match j, hj with
  | 0, _ => rfl
  | 1, _ => rfl
  | 2, _ => rfl
  | 3, _ => rfl
  | 4, _ => rfl
  | 5, _ => rfl
  | 6, _ => rfl
  | 7, _ => rfl
  | 8, _ => rfl
  | 9, _ => rfl
  | j + 10, hj => exact absurd hj (by omega)
theorem cv_23 (E : Ce) (H : Heap) (h : va_at E.D vwCl (E.B + 23, .inr (3, [.ref (E.B + 9), .int 0, .int 0, .ref (E.B + 24), .ref (E.B + 25)])) H) : va_at E.D vwCl (E.B + 23, cellE E 23 (fun _ => 0) 0) H := by rw [ce_3 kd_23]; exact h
theorem cv_24 (E : Ce) (H : Heap) (h : va_at E.D vwCl (E.B + 24, i_ E 6) H) : va_at E.D vwCl (E.B + 24, cellE E 24 (fun _ => 0) 0) H := by rw [ce_8 kd_24, ln_24]; exact h
theorem cv_25 (E : Ce) (H : Heap) (h : va_at E.D vwCl (E.B + 25, i_ E 6) H) : va_at E.D vwCl (E.B + 25, cellE E 25 (fun _ => 0) 0) H := by rw [ce_8 kd_25, ln_25]; exact h
theorem cv_26 (E : Ce) (H : Heap) (h : va_at E.D vwCl (E.B + 26, .inr (3, [.ref (E.B + 9), .int 0, .int 0, .ref (E.B + 27), .ref (E.B + 28)])) H) : va_at E.D vwCl (E.B + 26, cellE E 26 (fun _ => 0) 0) H := by rw [ce_3 kd_26]; exact h
theorem cv_27 (E : Ce) (H : Heap) (h : va_at E.D vwCl (E.B + 27, i_ E 6) H) : va_at E.D vwCl (E.B + 27, cellE E 27 (fun _ => 0) 0) H := by rw [ce_8 kd_27, ln_27]; exact h
theorem cv_28 (E : Ce) (H : Heap) (h : va_at E.D vwCl (E.B + 28, i_ E 6) H) : va_at E.D vwCl (E.B + 28, cellE E 28 (fun _ => 0) 0) H := by rw [ce_8 kd_28, ln_28]; exact h
theorem cv_29 (E : Ce) (H : Heap) (h : va_at E.D vwCl (E.B + 29, .inr (3, [.ref (E.B + 9), .int 0, .int 0, .ref (E.B + 30), .ref (E.B + 31)])) H) : va_at E.D vwCl (E.B + 29, cellE E 29 (fun _ => 0) 0) H := by rw [ce_3 kd_29]; exact h
theorem cv_30 (E : Ce) (H : Heap) (h : va_at E.D vwCl (E.B + 30, i_ E 6) H) : va_at E.D vwCl (E.B + 30, cellE E 30 (fun _ => 0) 0) H := by rw [ce_8 kd_30, ln_30]; exact h
theorem cv_31 (E : Ce) (H : Heap) (h : va_at E.D vwCl (E.B + 31, i_ E 6) H) : va_at E.D vwCl (E.B + 31, cellE E 31 (fun _ => 0) 0) H := by rw [ce_8 kd_31, ln_31]; exact h
theorem cv_32 (E : Ce) (H : Heap) (h : va_at E.D vwCl (E.B + 32, .inr (3, [.ref (E.B + 9), .int 0, .int 0, .ref (E.B + 33), .ref (E.B + 34)])) H) : va_at E.D vwCl (E.B + 32, cellE E 32 (fun _ => 0) 0) H := by rw [ce_3 kd_32]; exact h
theorem cv_33 (E : Ce) (H : Heap) (h : va_at E.D vwCl (E.B + 33, i_ E 6) H) : va_at E.D vwCl (E.B + 33, cellE E 33 (fun _ => 0) 0) H := by rw [ce_8 kd_33, ln_33]; exact h
theorem cv_34 (E : Ce) (H : Heap) (h : va_at E.D vwCl (E.B + 34, i_ E 6) H) : va_at E.D vwCl (E.B + 34, cellE E 34 (fun _ => 0) 0) H := by rw [ce_8 kd_34, ln_34]; exact h
theorem cv_35 (E : Ce) (H : Heap) (h : va_at E.D vwCl (E.B + 35, .inr (3, [.ref (E.B + 9), .int 0, .int 0, .ref (E.B + 36), .ref (E.B + 37)])) H) : va_at E.D vwCl (E.B + 35, cellE E 35 (fun _ => 0) 0) H := by rw [ce_3 kd_35]; exact h
theorem cv_36 (E : Ce) (H : Heap) (h : va_at E.D vwCl (E.B + 36, i_ E 6) H) : va_at E.D vwCl (E.B + 36, cellE E 36 (fun _ => 0) 0) H := by rw [ce_8 kd_36, ln_36]; exact h
theorem cv_37 (E : Ce) (H : Heap) (h : va_at E.D vwCl (E.B + 37, i_ E 6) H) : va_at E.D vwCl (E.B + 37, cellE E 37 (fun _ => 0) 0) H := by rw [ce_8 kd_37, ln_37]; exact h
theorem cv_38 (E : Ce) (H : Heap) (h : va_at E.D vwCl (E.B + 38, .inr (3, [.ref (E.B + 9), .int 0, .int 0, .ref (E.B + 39), .ref (E.B + 40)])) H) : va_at E.D vwCl (E.B + 38, cellE E 38 (fun _ => 0) 0) H := by rw [ce_3 kd_38]; exact h
theorem cv_39 (E : Ce) (H : Heap) (h : va_at E.D vwCl (E.B + 39, i_ E 6) H) : va_at E.D vwCl (E.B + 39, cellE E 39 (fun _ => 0) 0) H := by rw [ce_8 kd_39, ln_39]; exact h
theorem cv_40 (E : Ce) (H : Heap) (h : va_at E.D vwCl (E.B + 40, i_ E 6) H) : va_at E.D vwCl (E.B + 40, cellE E 40 (fun _ => 0) 0) H := by rw [ce_8 kd_40, ln_40]; exact h
theorem cv_41 (E : Ce) (H : Heap) (h : va_at E.D vwCl (E.B + 41, .inr (3, [.ref (E.B + 9), .int 0, .int 0, .ref (E.B + 42), .ref (E.B + 43)])) H) : va_at E.D vwCl (E.B + 41, cellE E 41 (fun _ => 0) 0) H := by rw [ce_3 kd_41]; exact h
theorem cv_42 (E : Ce) (H : Heap) (h : va_at E.D vwCl (E.B + 42, i_ E 6) H) : va_at E.D vwCl (E.B + 42, cellE E 42 (fun _ => 0) 0) H := by rw [ce_8 kd_42, ln_42]; exact h
theorem cv_43 (E : Ce) (H : Heap) (h : va_at E.D vwCl (E.B + 43, i_ E 6) H) : va_at E.D vwCl (E.B + 43, cellE E 43 (fun _ => 0) 0) H := by rw [ce_8 kd_43, ln_43]; exact h
theorem cv_44 (E : Ce) (H : Heap) (h : va_at E.D vwCl (E.B + 44, .inr (3, [.ref (E.B + 9), .int 0, .int 0, .ref (E.B + 45), .ref (E.B + 46)])) H) : va_at E.D vwCl (E.B + 44, cellE E 44 (fun _ => 0) 0) H := by rw [ce_3 kd_44]; exact h
theorem cv_45 (E : Ce) (H : Heap) (h : va_at E.D vwCl (E.B + 45, i_ E 6) H) : va_at E.D vwCl (E.B + 45, cellE E 45 (fun _ => 0) 0) H := by rw [ce_8 kd_45, ln_45]; exact h
theorem cv_46 (E : Ce) (H : Heap) (h : va_at E.D vwCl (E.B + 46, i_ E 6) H) : va_at E.D vwCl (E.B + 46, cellE E 46 (fun _ => 0) 0) H := by rw [ce_8 kd_46, ln_46]; exact h
theorem cv_47 (E : Ce) (H : Heap) (h : va_at E.D vwCl (E.B + 47, .inr (3, [.ref (E.B + 9), .int 0, .int 0, .ref (E.B + 48), .ref (E.B + 49)])) H) : va_at E.D vwCl (E.B + 47, cellE E 47 (fun _ => 0) 0) H := by rw [ce_3 kd_47]; exact h
theorem cv_48 (E : Ce) (H : Heap) (h : va_at E.D vwCl (E.B + 48, i_ E 6) H) : va_at E.D vwCl (E.B + 48, cellE E 48 (fun _ => 0) 0) H := by rw [ce_8 kd_48, ln_48]; exact h
theorem cv_49 (E : Ce) (H : Heap) (h : va_at E.D vwCl (E.B + 49, i_ E 6) H) : va_at E.D vwCl (E.B + 49, cellE E 49 (fun _ => 0) 0) H := by rw [ce_8 kd_49, ln_49]; exact h
theorem cv_50 (E : Ce) (H : Heap) (h : va_at E.D vwCl (E.B + 50, .inr (3, [.ref (E.B + 9), .int 0, .int 0, .ref (E.B + 51), .ref (E.B + 52)])) H) : va_at E.D vwCl (E.B + 50, cellE E 50 (fun _ => 0) 0) H := by rw [ce_3 kd_50]; exact h
theorem cv_51 (E : Ce) (H : Heap) (h : va_at E.D vwCl (E.B + 51, i_ E 6) H) : va_at E.D vwCl (E.B + 51, cellE E 51 (fun _ => 0) 0) H := by rw [ce_8 kd_51, ln_51]; exact h
theorem cv_52 (E : Ce) (H : Heap) (h : va_at E.D vwCl (E.B + 52, i_ E 6) H) : va_at E.D vwCl (E.B + 52, cellE E 52 (fun _ => 0) 0) H := by rw [ce_8 kd_52, ln_52]; exact h
theorem cv_53 (E : Ce) (H : Heap) (h : va_at E.D vwCl (E.B + 53, o_ E 2 (va_up (va_up (fun _ => none) 0 (some (E.B + 54))) 1 (some (E.B + 57)))) H) : va_at E.D vwCl (E.B + 53, cellE E 53 (fun _ => 0) 0) H := by
  rw [ce_11 kd_53, ln_53]
  refine va_arr h (fun j hj => ?_)
  match j, hj with
  | 0, _ => rfl
  | 1, _ => rfl
  | j + 2, hj => exact absurd hj (by omega)
theorem cv_54 (E : Ce) (H : Heap) (h : va_at E.D vwCl (E.B + 54, .inr (3, [.ref (E.B + 9), .int 0, .int 0, .ref (E.B + 55), .ref (E.B + 56)])) H) : va_at E.D vwCl (E.B + 54, cellE E 54 (fun _ => 0) 0) H := by rw [ce_3 kd_54]; exact h
theorem cv_55 (E : Ce) (H : Heap) (h : va_at E.D vwCl (E.B + 55, i_ E 6) H) : va_at E.D vwCl (E.B + 55, cellE E 55 (fun _ => 0) 0) H := by rw [ce_8 kd_55, ln_55]; exact h
theorem cv_56 (E : Ce) (H : Heap) (h : va_at E.D vwCl (E.B + 56, i_ E 6) H) : va_at E.D vwCl (E.B + 56, cellE E 56 (fun _ => 0) 0) H := by rw [ce_8 kd_56, ln_56]; exact h
theorem cv_57 (E : Ce) (H : Heap) (h : va_at E.D vwCl (E.B + 57, .inr (3, [.ref (E.B + 9), .int 0, .int 0, .ref (E.B + 58), .ref (E.B + 59)])) H) : va_at E.D vwCl (E.B + 57, cellE E 57 (fun _ => 0) 0) H := by rw [ce_3 kd_57]; exact h
theorem cv_58 (E : Ce) (H : Heap) (h : va_at E.D vwCl (E.B + 58, i_ E 6) H) : va_at E.D vwCl (E.B + 58, cellE E 58 (fun _ => 0) 0) H := by rw [ce_8 kd_58, ln_58]; exact h
theorem cv_59 (E : Ce) (H : Heap) (h : va_at E.D vwCl (E.B + 59, i_ E 6) H) : va_at E.D vwCl (E.B + 59, cellE E 59 (fun _ => 0) 0) H := by rw [ce_8 kd_59, ln_59]; exact h
theorem cv_60 (E : Ce) (H : Heap) (h : va_at E.D vwCl (E.B + 60, z_ E 2) H) : va_at E.D vwCl (E.B + 60, cellE E 60 (fun _ => 0) 0) H := by rw [ce_10 kd_60, ln_60]; exact h
theorem cv_61 (E : Ce) (H : Heap) (h : va_at E.D vwCl (E.B + 61, .inr (0, [.ref (E.B + 9), .int 0, .ref (E.B + 62), .ref (E.B + 63)])) H) : va_at E.D vwCl (E.B + 61, cellE E 61 (fun _ => 0) 0) H := by rw [ce_0 kd_61]; exact h
theorem cv_62 (E : Ce) (H : Heap) (h : va_at E.D vwCl (E.B + 62, i_ E 6) H) : va_at E.D vwCl (E.B + 62, cellE E 62 (fun _ => 0) 0) H := by rw [ce_8 kd_62, ln_62]; exact h
theorem cv_63 (E : Ce) (H : Heap) (h : va_at E.D vwCl (E.B + 63, i_ E 6) H) : va_at E.D vwCl (E.B + 63, cellE E 63 (fun _ => 0) 0) H := by rw [ce_8 kd_63, ln_63]; exact h
theorem cv_64 (E : Ce) (H : Heap) (h : va_at E.D vwCl (E.B + 64, .inr (4, [.int 0, .ref (E.B + 65)])) H) : va_at E.D vwCl (E.B + 64, cellE E 64 (fun _ => 0) 0) H := by rw [ce_4 kd_64]; exact h
theorem cv_65 (E : Ce) (H : Heap) (h : va_at E.D vwCl (E.B + 65, z_ E 147) H) : va_at E.D vwCl (E.B + 65, cellE E 65 (fun _ => 0) 0) H := by rw [ce_10 kd_65, ln_65]; exact h
theorem cv_66 (E : Ce) (H : Heap) (h : va_at E.D vwCl (E.B + 66, i_ E 9) H) : va_at E.D vwCl (E.B + 66, cellE E 66 (fun _ => 0) 0) H := by rw [ce_8 kd_66, ln_66]; exact h
theorem cv_67 (E : Ce) (H : Heap) (h : va_at E.D vwCl (E.B + 67, .inr (7, [.int 0, .ref (E.B + 68), .ref (E.B + 69), .ref (E.B + 70), .ref (E.B + 71), .ref (E.B + 72), .int 0, .ref (E.B + 73), .ref (E.B + 74), .int 0, .ref (E.B + 75), .long 0, .ref (E.B + 76), .int 0, .int 0, .int 0, .int 0, .int 0, .int 0, .int 0, .int 0, .ref (E.B + 77), .ref (E.B + 78), .int 0, .ref (E.B + 79)])) H) : va_at E.D vwCl (E.B + 67, cellE E 67 (fun _ => 0) 0) H := by rw [ce_7 kd_67]; exact h
theorem cv_68 (E : Ce) (H : Heap) (h : va_at E.D vwCl (E.B + 68, i_ E 6) H) : va_at E.D vwCl (E.B + 68, cellE E 68 (fun _ => 0) 0) H := by rw [ce_8 kd_68, ln_68]; exact h
theorem cv_69 (E : Ce) (H : Heap) (h : va_at E.D vwCl (E.B + 69, i_ E 6) H) : va_at E.D vwCl (E.B + 69, cellE E 69 (fun _ => 0) 0) H := by rw [ce_8 kd_69, ln_69]; exact h
theorem cv_70 (E : Ce) (H : Heap) (h : va_at E.D vwCl (E.B + 70, i_ E 6) H) : va_at E.D vwCl (E.B + 70, cellE E 70 (fun _ => 0) 0) H := by rw [ce_8 kd_70, ln_70]; exact h
theorem cv_71 (E : Ce) (H : Heap) (h : va_at E.D vwCl (E.B + 71, i_ E 14) H) : va_at E.D vwCl (E.B + 71, cellE E 71 (fun _ => 0) 0) H := by rw [ce_8 kd_71, ln_71]; exact h
theorem cv_72 (E : Ce) (H : Heap) (h : va_at E.D vwCl (E.B + 72, i_ E 140) H) : va_at E.D vwCl (E.B + 72, cellE E 72 (fun _ => 0) 0) H := by rw [ce_8 kd_72, ln_72]; exact h
theorem cv_73 (E : Ce) (H : Heap) (h : va_at E.D vwCl (E.B + 73, i_ E 28) H) : va_at E.D vwCl (E.B + 73, cellE E 73 (fun _ => 0) 0) H := by rw [ce_8 kd_73, ln_73]; exact h
theorem cv_74 (E : Ce) (H : Heap) (h : va_at E.D vwCl (E.B + 74, z_ E 2) H) : va_at E.D vwCl (E.B + 74, cellE E 74 (fun _ => 0) 0) H := by rw [ce_10 kd_74, ln_74]; exact h
theorem cv_75 (E : Ce) (H : Heap) (h : va_at E.D vwCl (E.B + 75, i_ E 18) H) : va_at E.D vwCl (E.B + 75, cellE E 75 (fun _ => 0) 0) H := by rw [ce_8 kd_75, ln_75]; exact h
theorem cv_76 (E : Ce) (H : Heap) (h : va_at E.D vwCl (E.B + 76, i_ E 140) H) : va_at E.D vwCl (E.B + 76, cellE E 76 (fun _ => 0) 0) H := by rw [ce_8 kd_76, ln_76]; exact h
theorem cv_77 (E : Ce) (H : Heap) (h : va_at E.D vwCl (E.B + 77, i_ E 30) H) : va_at E.D vwCl (E.B + 77, cellE E 77 (fun _ => 0) 0) H := by rw [ce_8 kd_77, ln_77]; exact h
theorem cv_78 (E : Ce) (H : Heap) (h : va_at E.D vwCl (E.B + 78, i_ E 14) H) : va_at E.D vwCl (E.B + 78, cellE E 78 (fun _ => 0) 0) H := by rw [ce_8 kd_78, ln_78]; exact h
theorem cv_79 (E : Ce) (H : Heap) (h : va_at E.D vwCl (E.B + 79, i_ E 6) H) : va_at E.D vwCl (E.B + 79, cellE E 79 (fun _ => 0) 0) H := by rw [ce_8 kd_79, ln_79]; exact h
set_option maxRecDepth 100000 in
set_option maxHeartbeats 4000000 in
theorem cv_all (E : Ce) (H : Heap) (h : PW E (ws80 E) H) : va_P E.D vwCl (wl E s0) H := by
  intro k q hk
  have hlt : k < 80 := by
    have := (List.getElem?_eq_some_iff.mp hk).1
    simpa [wl] using this
  rw [wl_at E s0 hlt] at hk
  cases hk
  match k, hlt with
  | 0, _ => exact cv_0 E H (h.2 0 _ (cw_at E rfl))
  | 1, _ => exact cv_1 E H (h.2 1 _ (cw_at E rfl))
  | 2, _ => exact cv_2 E H (h.2 2 _ (cw_at E rfl))
  | 3, _ => exact cv_3 E H (h.2 3 _ (cw_at E rfl))
  | 4, _ => exact cv_4 E H (h.2 4 _ (cw_at E rfl))
  | 5, _ => exact cv_5 E H (h.2 5 _ (cw_at E rfl))
  | 6, _ => exact cv_6 E H (h.2 6 _ (cw_at E rfl))
  | 7, _ => exact cv_7 E H (h.2 7 _ (cw_at E rfl))
  | 8, _ => exact cv_8 E H (h.2 8 _ (cw_at E rfl))
  | 9, _ => exact cv_9 E H (h.2 9 _ (cw_at E rfl))
  | 10, _ => exact cv_10 E H (h.2 10 _ (cw_at E rfl))
  | 11, _ => exact cv_11 E H (h.2 11 _ (cw_at E rfl))
  | 12, _ => exact cv_12 E H (h.2 12 _ (cw_at E rfl))
  | 13, _ => exact cv_13 E H (h.2 13 _ (cw_at E rfl))
  | 14, _ => exact cv_14 E H (h.2 14 _ (cw_at E rfl))
  | 15, _ => exact cv_15 E H (h.2 15 _ (cw_at E rfl))
  | 16, _ => exact cv_16 E H (h.2 16 _ (cw_at E rfl))
  | 17, _ => exact cv_17 E H (h.2 17 _ (cw_at E rfl))
  | 18, _ => exact cv_18 E H (h.2 18 _ (cw_at E rfl))
  | 19, _ => exact cv_19 E H (h.2 19 _ (cw_at E rfl))
  | 20, _ => exact cv_20 E H (h.2 20 _ (cw_at E rfl))
  | 21, _ => exact cv_21 E H (h.2 21 _ (cw_at E rfl))
  | 22, _ => exact cv_22 E H (h.2 22 _ (cw_at E rfl))
  | 23, _ => exact cv_23 E H (h.2 23 _ (cw_at E rfl))
  | 24, _ => exact cv_24 E H (h.2 24 _ (cw_at E rfl))
  | 25, _ => exact cv_25 E H (h.2 25 _ (cw_at E rfl))
  | 26, _ => exact cv_26 E H (h.2 26 _ (cw_at E rfl))
  | 27, _ => exact cv_27 E H (h.2 27 _ (cw_at E rfl))
  | 28, _ => exact cv_28 E H (h.2 28 _ (cw_at E rfl))
  | 29, _ => exact cv_29 E H (h.2 29 _ (cw_at E rfl))
  | 30, _ => exact cv_30 E H (h.2 30 _ (cw_at E rfl))
  | 31, _ => exact cv_31 E H (h.2 31 _ (cw_at E rfl))
  | 32, _ => exact cv_32 E H (h.2 32 _ (cw_at E rfl))
  | 33, _ => exact cv_33 E H (h.2 33 _ (cw_at E rfl))
  | 34, _ => exact cv_34 E H (h.2 34 _ (cw_at E rfl))
  | 35, _ => exact cv_35 E H (h.2 35 _ (cw_at E rfl))
  | 36, _ => exact cv_36 E H (h.2 36 _ (cw_at E rfl))
  | 37, _ => exact cv_37 E H (h.2 37 _ (cw_at E rfl))
  | 38, _ => exact cv_38 E H (h.2 38 _ (cw_at E rfl))
  | 39, _ => exact cv_39 E H (h.2 39 _ (cw_at E rfl))
  | 40, _ => exact cv_40 E H (h.2 40 _ (cw_at E rfl))
  | 41, _ => exact cv_41 E H (h.2 41 _ (cw_at E rfl))
  | 42, _ => exact cv_42 E H (h.2 42 _ (cw_at E rfl))
  | 43, _ => exact cv_43 E H (h.2 43 _ (cw_at E rfl))
  | 44, _ => exact cv_44 E H (h.2 44 _ (cw_at E rfl))
  | 45, _ => exact cv_45 E H (h.2 45 _ (cw_at E rfl))
  | 46, _ => exact cv_46 E H (h.2 46 _ (cw_at E rfl))
  | 47, _ => exact cv_47 E H (h.2 47 _ (cw_at E rfl))
  | 48, _ => exact cv_48 E H (h.2 48 _ (cw_at E rfl))
  | 49, _ => exact cv_49 E H (h.2 49 _ (cw_at E rfl))
  | 50, _ => exact cv_50 E H (h.2 50 _ (cw_at E rfl))
  | 51, _ => exact cv_51 E H (h.2 51 _ (cw_at E rfl))
  | 52, _ => exact cv_52 E H (h.2 52 _ (cw_at E rfl))
  | 53, _ => exact cv_53 E H (h.2 53 _ (cw_at E rfl))
  | 54, _ => exact cv_54 E H (h.2 54 _ (cw_at E rfl))
  | 55, _ => exact cv_55 E H (h.2 55 _ (cw_at E rfl))
  | 56, _ => exact cv_56 E H (h.2 56 _ (cw_at E rfl))
  | 57, _ => exact cv_57 E H (h.2 57 _ (cw_at E rfl))
  | 58, _ => exact cv_58 E H (h.2 58 _ (cw_at E rfl))
  | 59, _ => exact cv_59 E H (h.2 59 _ (cw_at E rfl))
  | 60, _ => exact cv_60 E H (h.2 60 _ (cw_at E rfl))
  | 61, _ => exact cv_61 E H (h.2 61 _ (cw_at E rfl))
  | 62, _ => exact cv_62 E H (h.2 62 _ (cw_at E rfl))
  | 63, _ => exact cv_63 E H (h.2 63 _ (cw_at E rfl))
  | 64, _ => exact cv_64 E H (h.2 64 _ (cw_at E rfl))
  | 65, _ => exact cv_65 E H (h.2 65 _ (cw_at E rfl))
  | 66, _ => exact cv_66 E H (h.2 66 _ (cw_at E rfl))
  | 67, _ => exact cv_67 E H (h.2 67 _ (cw_at E rfl))
  | 68, _ => exact cv_68 E H (h.2 68 _ (cw_at E rfl))
  | 69, _ => exact cv_69 E H (h.2 69 _ (cw_at E rfl))
  | 70, _ => exact cv_70 E H (h.2 70 _ (cw_at E rfl))
  | 71, _ => exact cv_71 E H (h.2 71 _ (cw_at E rfl))
  | 72, _ => exact cv_72 E H (h.2 72 _ (cw_at E rfl))
  | 73, _ => exact cv_73 E H (h.2 73 _ (cw_at E rfl))
  | 74, _ => exact cv_74 E H (h.2 74 _ (cw_at E rfl))
  | 75, _ => exact cv_75 E H (h.2 75 _ (cw_at E rfl))
  | 76, _ => exact cv_76 E H (h.2 76 _ (cw_at E rfl))
  | 77, _ => exact cv_77 E H (h.2 77 _ (cw_at E rfl))
  | 78, _ => exact cv_78 E H (h.2 78 _ (cw_at E rfl))
  | 79, _ => exact cv_79 E H (h.2 79 _ (cw_at E rfl))
  | k + 80, hlt => exact absurd hlt (by omega)
theorem wAO : Cond.arrayOver (.object "ScytheKeepers$Scene") ∈ lw_tbl := List.mem_of_getElem? (i := 184) (by decide +kernel)
theorem w_mono {p : Program} {l : Launch} {e : Env} {R : Room} {s : State} {m : MethodId} {args : Array Value} {below : List Frame} {meth : Method} {c : Code} {H : Heap} {locs : List Loc} {cells slots : Nat} {Q Q' : State → Prop} {g : JFrame} (h : W p l e R s m args below meth c H locs cells slots Q g) (hQ : ∀ t, Q t → Q' t) : W p l e R s m args below meth c H locs cells slots Q' g := by
  intro T hT X
  obtain ⟨t, a1, b1⟩ := h T hT X
  exact ⟨t, a1, hQ t b1⟩
set_option maxRecDepth 100000 in
set_option maxHeartbeats 4000000 in
/-- the law from its entry, if the law's function answers 1 -/
theorem law_open {p : Program} {e : Env} {s : State} {m : MethodId} {below : List Frame} {meth : Method} {c : Code} (l : Launch) {b L : Nat} {xs : Nat → Int32} (hm : ∃ s', M_L_law xs L s0 = some (1, s')) (C0 : lw_At p s m meth c b L xs) : W p l e room_1 s m #[Value.ref b] below meth c s.heap [] 0 0 (lw_Z below #[Value.ref b] s) (entryFrame m ([Value.ref b] : List Value).toArray 4) := by
  obtain ⟨s9, hm⟩ := hm
  obtain ⟨hx, hb, hr, hml, hown, hts, hX, hbl, hlocks, hgv⟩ := C0
  have htb : ∀ w ∈ TB, w.before #[Value.ref b] s = true := fun w hw => hts w (List.mem_filter.mp hw).1
  have hN : ∀ w ∈ NB, va_Nw w s := fun w hw => va_Nw.of (nb_on hw) (hts w (List.mem_append_right _ (List.mem_filter.mp hw).1))
  have hAO : AO s := va_AO.of (hts _ wAO)
  obtain ⟨c0, iS0, hKn0⟩ := u_known (C := RX0) (T := TX0) (N := 4) (n := 4) htb tX0 (htb _ wnX0)
  obtain ⟨c1, iS1, hKn1⟩ := u_known (C := RX1) (T := TX1) (N := 6) (n := 6) htb tX1 (htb _ wnX1)
  obtain ⟨c2, iS2, hKn2⟩ := u_known (C := RX2) (T := TX2) (N := 3) (n := 3) htb tX2 (htb _ wnX2)
  obtain ⟨c3, iS3, hKn3⟩ := u_known (C := RX3) (T := TX3) (N := 5) (n := 5) htb tX3 (htb _ wnX3)
  obtain ⟨c4, iS4, hKn4⟩ := u_known (C := RX4) (T := TX4) (N := 2) (n := 2) htb tX4 (htb _ wnX4)
  obtain ⟨c5, iS5, hKn5⟩ := u_known (C := RX5) (T := TX5) (N := 6) (n := 6) htb tX5 (htb _ wnX5)
  obtain ⟨c6, iS6, hKn6⟩ := u_known (C := RX6) (T := TX6) (N := 12) (n := 12) htb tX6 (htb _ wnX6)
  obtain ⟨c7, iS7, hKn7⟩ := u_known (C := RX7) (T := TX7) (N := 25) (n := 25) htb tX7 (htb _ wnX7)
  obtain ⟨dC, dI, hKc⟩ : ∃ (dC : Nat → ClassId) (dI : Nat → Nat → Nat), ∀ (k : Nat) (q : vw_C), vwCl[k]? = some q → u_Kn s q.1 q.2.1 q.2.2 (dC k) (dI k) := by
    refine ⟨fun k => if k = 0 then c0 else if k = 1 then c1 else if k = 2 then c2 else if k = 3 then c3 else if k = 4 then c4 else if k = 5 then c5 else if k = 6 then c6 else c7, fun k => if k = 0 then iS0 else if k = 1 then iS1 else if k = 2 then iS2 else if k = 3 then iS3 else if k = 4 then iS4 else if k = 5 then iS5 else if k = 6 then iS6 else iS7, ?_⟩
    intro k q hq
    match k, hq with
    | 0, hq => cases hq; exact hKn0
    | 1, hq => cases hq; exact hKn1
    | 2, hq => cases hq; exact hKn2
    | 3, hq => cases hq; exact hKn3
    | 4, hq => cases hq; exact hKn4
    | 5, hq => cases hq; exact hKn5
    | 6, hq => cases hq; exact hKn6
    | 7, hq => cases hq; exact hKn7
    | k + 8, hq => simp [vwCl] at hq
  obtain ⟨cI, kI, pI, a1, a2, a3⟩ := Cond.arrayClass_spec (htb _ wa_int)
  obtain ⟨cC, kC, pC, b1, b2, b3⟩ := Cond.arrayClass_spec (htb _ wa_char)
  obtain ⟨cZ, kZ, pZ, z1, z2, z3⟩ := Cond.arrayClass_spec (htb _ wa_boolean)
  obtain ⟨pO, cO, kO, o1, o2, o3, o4, o5⟩ := Cond.arrayOver_spec (hts _ wAO)
  let E : Ce := (l, s.heap.size, (dC, dI), cI, cC, cZ, cO)
  have hK : va_K E.D vwCl (tys E) s := by
    refine ⟨hKc, fun k q h => ?_⟩
    match k, h with
    | 0, h => cases h; exact ⟨fun n z => ⟨fun k h => (by cases h), kI, a2, pI, a3⟩, a1⟩
    | 1, h => cases h; exact ⟨fun n z => ⟨fun k h => (by cases h), kC, b2, pC, b3⟩, b1⟩
    | 2, h => cases h; exact ⟨fun n z => ⟨fun k h => (by cases h), kZ, z2, pZ, z3⟩, z1⟩
    | 3, h => cases h; exact ⟨fun n z => ⟨fun k h => (by cases h), kO, o3, pO, o4⟩, kO, pO, o3, o4, o1, o5⟩
    | k + 4, h => simp [tys] at h
  let X : Cx := (E, p, e, room_1, s, m, #[Value.ref b], below, meth, c, fun r _ t => r = 1 → lw_Z below #[Value.ref b] s t, 80, 1094)
  have hS : va_S (AA E) s.heap s.heap [] := va_S.rf
  have hP : PW E [] s.heap := ⟨rfl, fun k q h => by simp [cw] at h⟩
  have K : OkC X cL_law RL 4 20 := ⟨hx, hb, hown, htb, hN, hK, hml, by show 20 ≤ 2048; decide, by show 40 * 20 ≤ 84000; decide, hAO, Nat.le_refl _⟩
  have K2 : Ok X cL_law RL 4 20 := ⟨hx, hb, hown, htb, hN, hK, hml, by show 20 ≤ 2048; decide, by show 40 * 20 ≤ 84000; decide, by show 80 ≤ 600000; decide, by show 1094 ≤ 7302249; decide⟩
  have hbA : ¬ AA E b := Nat.not_le.mpr hbl
  have hRZ : RZ X cL_law := by
    intro pc v s1 H locs ls hv hd hP1 hS1
    rcases hv with rfl | rfl
    · intro T hT X0
      exact ⟨_, Steps.refl _, fun h => absurd h (by decide)⟩
    · refine w_mono (Q := lw_Z below #[Value.ref b] s) ?_ (fun t ht _ => ht)
      refine va_forget (fun q hq => hS1.2.2 q hq) ?_
      refine W.widen (k := 600000) (n := 7302249) (by show 80 ≤ 600000; decide) (by show 1094 ≤ 7302249; decide) ?_
      exact lw_ret hx hb hr hlocks hd
  have hG : GC X 0 [.ref b, .null, .null, .null] [] [] 0 0 (lw_Z below #[Value.ref b] s) := by
    refine gc_new (pc := 0) K (ci := 6) rfl tX6 tyX6 tyX6_ok kcL_7 wnX6 wiX6 (fs := [.null, .null, .null, .null, .null, .null, .null, .null, .null, .null, .null, .long 0]) df_6 (by show 1 ≤ 600000; decide) (by show 12 ≤ 7302249; decide) dL_law_0 (n := 0) rfl ?_
    change GC X 3 [.ref b, .null, .null, .null] [.ref (X.B + 0)] [.inr (6, [.null, .null, .null, .null, .null, .null, .null, .null, .null, .null, .null, .long 0])] 1 12 _
    refine gc_dup (pc := 3) K dL_law_3 rfl ?_
    refine gc_call (pc := 4) (S := [.ref (X.B + 0)]) (k := 0) (np := 0) (pre := []) (ws' := ws67 X.E) K (qX6_init (sh X.E 0)) rfl rfl rfl (by decide) (by decide) wcX6_init wiX6 (Or.inl kL_9) wmX6_init rfl hyX6_init rfl rfl (Nat.le_of_ble_eq_true rfl) dL_law_4 (by show 67 ≤ 600000; decide) (by show 659 ≤ 7302249; decide) ?_
    refine gc_astore_n (pc := 7) K 1 dL_law_7 rfl (by decide) ?_
    change GC X 8 [.ref b, .ref (X.B + 0), .null, .null] [] (ws67 X.E) 67 659 _
    refine gc_new (pc := 8) K (ci := 7) rfl tX7 tyX7 tyX7_ok kcL_10 wnX7 wiX7 (fs := [.int 0, .null, .null, .null, .null, .null, .int 0, .null, .null, .int 0, .null, .long 0, .null, .int 0, .int 0, .int 0, .int 0, .int 0, .int 0, .int 0, .int 0, .null, .null, .int 0, .null]) df_7 (by show 68 ≤ 600000; decide) (by show 684 ≤ 7302249; decide) dL_law_8 (n := 67) rfl ?_
    refine gc_dup (pc := 11) K dL_law_11 rfl ?_
    refine gc_call (pc := 12) (S := [.ref (X.B + 67)]) (k := 67) (np := 67) (pre := ws67 X.E) (ws' := ws80 X.E) K (qX7_init (sh X.E 67)) rfl rfl rfl (by decide) (by decide) wcX7_init wiX7 (Or.inl kL_12) wmX7_init rfl hyX7_init rfl rfl (Nat.le_of_ble_eq_true rfl) dL_law_12 (by show 80 ≤ 600000; decide) (by show 1094 ≤ 7302249; decide) ?_
    refine gc_astore_n (pc := 15) K 2 dL_law_15 rfl (by decide) ?_
    change GC X 16 [.ref b, .ref (X.B + 0), .ref (X.B + 67), .null] [] (ws80 X.E) 80 1094 _
    intro H locs ls hP1 hS1 hL1
    exact w_mono (tL_law K2 hRZ xs L b hX hbl hbA s0 1 s9 hm H locs ls (cv_all _ H hP1) hS1 hL1) (fun t ht => ht rfl)
  rw [lg_entry_eq]
  exact hG s.heap [] _ hP hS (by
    show LH _ c.maxLocals [.ref b, .null, .null, .null]
    rw [hml]
    exact LH.entry (List.forall_mem_cons.mpr ⟨rfl, fun _ h => absurd h List.not_mem_nil⟩) (Nat.le_of_ble_eq_true rfl) ⟨rfl, trivial⟩)
