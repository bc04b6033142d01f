/-! ===== a valley is read ===== -/
abbrev Tk : Type := Nat × Nat × Nat × Nat
def num (lo hi : Nat) (t : Tk) : Bool := decide (kK t = 2 ∧ lo ≤ kV t ∧ kV t ≤ hi)
def stp (T : List Nat) (lo hi : Nat) (p : Bool × Tk) : Bool × Tk := if p.1 = false ∧ num lo hi p.2 = true then (false, tok T (kP p.2)) else (true, p.2)
def q1 (T : List Nat) (t : Tk) : Bool × Tk := stp T 0 30 (false, t)
def q2 (T : List Nat) (t : Tk) : Bool × Tk := stp T 1 9 (q1 T t)
def q3 (T : List Nat) (t : Tk) : Bool × Tk := stp T 0 20 (q2 T t)
def q4 (T : List Nat) (t : Tk) : Bool × Tk := stp T 0 6 (q3 T t)
def q4b (T : List Nat) (i : Nat) (t : Tk) : Bool × Tk := ((q4 T t).1 || decide (kK (q4 T t).2 = 2 ∧ kV (q4 T t).2 = i), (q4 T t).2)
def q5 (T : List Nat) (i : Nat) (t : Tk) : Bool × Tk := stp T 0 5 (q4b T i t)
def vls (T : List Nat) (t : Tk) (j : Nat) : Nat := if j = 0 then kV t else if j = 1 then kV (q1 T t).2 else if j = 2 then kV (q2 T t).2 else if j = 3 then kV (q3 T t).2 else kV (q4 T t).2
theorem stp_f {T : List Nat} {lo hi : Nat} {p : Bool × Tk} (h : (stp T lo hi p).1 = false) : p.1 = false ∧ num lo hi p.2 = true := by
  unfold stp at h
  split at h
  · assumption
  · cases h
def ps (T : List Nat) : Nat → Nat → Tk → (Nat → Nat → Nat) → Nat ⊕ (Nat × Nat × (Nat → Nat → Nat))
  | 0, _, t, _ => .inl (kA t)
  | c + 1, i, t, D => if kK t = 0 then .inr (i, kA t, D) else if kK t = 1 ∧ i < 6 then (if (q5 T i (tok T (kP t))).1 = false ∧ kK (q5 T i (tok T (kP t))).2 = 3 then ps T c (i + 1) (tok T (kP (q5 T i (tok T (kP t))).2)) (va_up D i (vls T (tok T (kP t)))) else .inl (kA (q5 T i (tok T (kP t))).2)) else .inl (kA t)
def MB (T : List Nat) (p : Bool × Tk) (s : St) : Prop := tM T s ∧ okK T p.2 ∧ kM p.2 s ∧ s.1 67 18 = nI (b1 p.1)
theorem puZ0 {α : Type} {s : St} {k i : Nat} {c : St → Option α} : puZ s k i (nI 0) c = c (up s k i (nI 0)) := if_pos (by decide)
theorem puZ1 {α : Type} {s : St} {k i : Nat} {c : St → Option α} : puZ s k i (nI 1) c = c (up s k i (nI 1)) := if_pos (by decide)
theorem MB.bad {T : List Nat} {p : Bool × Tk} {s : St} (h : MB T p s) (b : Bool) : MB T (b, p.2) (up s 67 18 (nI (b1 b))) := ⟨h.1.up1 (by decide), h.2.1, ⟨by rw [up_i (by decide)]; exact h.2.2.1.1, by rw [up_i (by decide)]; exact h.2.2.1.2.1, by rw [up_i (by decide)]; exact h.2.2.1.2.2.1, by rw [up_i (by decide)]; exact h.2.2.1.2.2.2⟩, up_s⟩
theorem MB.same {T : List Nat} {p : Bool × Tk} {s s' : St} (h : MB T p s) (e : Ex (fun q => q = 67 ∨ q = 77) s s') (h13 : s'.1 67 13 = s.1 67 13) (h14 : s'.1 67 14 = s.1 67 14) (h15 : s'.1 67 15 = s.1 67 15) (h16 : s'.1 67 16 = s.1 67 16) (h17 : s'.1 67 17 = s.1 67 17) (h18 : s'.1 67 18 = s.1 67 18) : MB T p s' := ⟨⟨by rw [h13]; exact h.1.1, fun j hj => by rw [e.1 76 (by omega)]; exact h.1.2 j hj⟩, h.2.1, ⟨by rw [h14]; exact h.2.2.1.1, by rw [h15]; exact h.2.2.1.2.1, by rw [h16]; exact h.2.2.1.2.2.1, by rw [h17]; exact h.2.2.1.2.2.2⟩, by rw [h18]; exact h.2.2.2⟩
theorem MB.w77 {T : List Nat} {p : Bool × Tk} {s : St} (h : MB T p s) {i : Nat} {v : Int32} : MB T p (up s 77 i v) := h.same (Ex.u2 (by omega)) (by rw [up_c (by decide)]) (by rw [up_c (by decide)]) (by rw [up_c (by decide)]) (by rw [up_c (by decide)]) (by rw [up_c (by decide)]) (by rw [up_c (by decide)])
theorem nextB {T : List Nat} (hT : okX T) {b : Bool} {t : Tk} {s : St} (h : MB T (b, t) s) : ∃ s', M_X7_next s = some (0, s') ∧ Ex (fun q => q = 67) s s' ∧ (∀ i, i < 14 ∨ 17 < i → s'.1 67 i = s.1 67 i) ∧ MB T (b, tok T (kP t)) s' := by
  obtain ⟨s', e1, e2, e3, e4⟩ := next_m hT h.2.1.2.2.1 h.1 h.2.2.1.1
  exact ⟨s', e1, e2, e3, ⟨by rw [e3 13 (by omega)]; exact h.1.1, fun j hj => by rw [e2.1 76 (by decide)]; exact h.1.2 j hj⟩, tok_ok hT h.2.1.2.2.1, e4, by rw [e3 18 (by omega)]; exact h.2.2.2⟩
theorem in_m {v lo hi : Nat} (hv : v ≤ 999) (hl : lo ≤ 100) (hh : hi ≤ 100) {s : St} : M_X7_in (nI v) (nI lo) (nI hi) s = some (nI (b1 (decide (lo ≤ v ∧ v ≤ hi))), s) := by
  unfold M_X7_in
  by_cases h1 : v < lo
  · rw [i_lt_t h1 (by omega), decide_eq_false (by omega)]; rfl
  · rw [i_lt_f (by omega) (by omega)]
    by_cases h2 : hi < v
    · rw [i_lt_t h2 (by omega), decide_eq_false (by omega)]; rfl
    · rw [i_lt_f (by omega) (by omega), decide_eq_true (by omega)]; rfl
theorem take_m {T : List Nat} (hT : okX T) {p : Bool × Tk} {lo hi : Nat} (hl : lo ≤ 100) (hh : hi ≤ 100) {s : St} (h : MB T p s) : ∃ v s', M_X7_takesNumber (nI lo) (nI hi) s = some (v, s') ∧ MB T (stp T lo hi p) s' ∧ Ex (fun q => q = 67) s s' ∧ (∀ i, i < 14 ∨ 18 < i → s'.1 67 i = s.1 67 i) ∧ ((stp T lo hi p).1 = false → v = nI (kV p.2)) := by
  have hk := h.2.1
  have hk4 := hk.2.1
  have hv9 := hk.2.2.2.1
  unfold M_X7_takesNumber
  simp only [nl_0, nl_1, nl_2, nl_3, nl_4, nl_5, nl_6, nl_7, nl_8, nl_9, nl_10, nl_14, nl_20, nl_30, nl_32, nl_48, nl_57, nl_59, nl_60, nl_64, nl_99, nl_100, nl_102, nl_126, nl_140, nl_147, nl_181, nl_255, nl_999, jn, if_true]
  rw [h.2.2.2, h.2.2.1.2.2.1, h.2.2.1.2.2.2]
  have bad : ¬ (p.1 = false ∧ num lo hi p.2 = true) → ∃ v s', (puZ s 67 18 (nI 1) fun s7 => some (nI 0, s7)) = some (v, s') ∧ MB T (stp T lo hi p) s' ∧ Ex (fun q => q = 67) s s' ∧ (∀ i, i < 14 ∨ 18 < i → s'.1 67 i = s.1 67 i) ∧ ((stp T lo hi p).1 = false → v = nI (kV p.2)) := by
    intro hn
    rw [puZ1, show stp T lo hi p = (true, p.2) from if_neg hn]
    exact ⟨_, _, rfl, h.bad true, Ex.u1, fun i hi => by rw [up_i (by omega)], fun q => by cases q⟩
  by_cases hb : p.1 = false
  · rw [hb, show nI (b1 false) = nI 0 from rfl, i_eq_t rfl]
    by_cases h2 : kK p.2 = 2
    · rw [i_eq_t h2, in_m hv9 hl hh, cl_some]
      by_cases h3 : lo ≤ kV p.2 ∧ kV p.2 ≤ hi
      · have hn : p.1 = false ∧ num lo hi p.2 = true := ⟨hb, decide_eq_true ⟨h2, h3⟩⟩
        rw [decide_eq_true h3, show nI (b1 true) = nI 1 from rfl, i_eq_f (by decide) (by decide) (by decide), i_eq_f (by decide) (by decide) (by decide), puZ0, show stp T lo hi p = (false, tok T (kP p.2)) from if_pos hn]
        obtain ⟨s', e1, e2, e3, e4⟩ := nextB hT (h.bad false)
        rw [i_eq_f (by decide) (by decide) (by decide), show up s 67 18 (nI 0) = up s 67 18 (nI (b1 false)) from rfl, e1, cl_some, i_eq_f (by decide) (by decide) (by decide)]
        exact ⟨_, s', rfl, e4, Ex.u1.tr1 e2, fun i hi => by rw [e3 i (by omega), up_i (by omega)], fun _ => by rw [up_i (by decide)]; exact h.2.2.1.2.2.2⟩
      · rw [decide_eq_false h3, show nI (b1 false) = nI 0 from rfl, i_eq_t rfl]
        exact bad (fun w => h3 (of_decide_eq_true w.2).2)
    · rw [i_eq_f h2 (by omega) (by decide)]
      exact bad (fun w => h2 (of_decide_eq_true w.2).1)
  · rw [show p.1 = true by simpa using hb, show nI (b1 true) = nI 1 from rfl, i_eq_f (by decide) (by decide) (by decide)]
    exact bad (fun w => hb w.1)
theorem farm_m {T : List Nat} (hT : okX T) {t : Tk} {i : Nat} (hi : i < 6) {s : St} (h : MB T (false, t) s) (h20 : s.1 67 20 = nI i) : ∃ s', M_X7_readFarmer s = some (0, s') ∧ MB T (q5 T i t) s' ∧ Ex (fun q => q = 67 ∨ q = 77) s s' ∧ (∀ i, i < 14 ∨ 20 < i ∨ i = 19 → s'.1 67 i = s.1 67 i) ∧ s'.1 67 20 = nI (i + 1) ∧ ((q5 T i t).1 = false → ∀ j, j < 5 → s'.1 77 (5 * i + j) = nI (vls T t j)) ∧ ∀ q, q < 5 * i → s'.1 77 q = s.1 77 q := by
  obtain ⟨v1, s1, a1, b1', c1, d1, e1⟩ := take_m hT (lo := 0) (hi := 30) (by omega) (by omega) h
  obtain ⟨v2, s2, a2, b2, c2, d2, e2⟩ := take_m hT (lo := 1) (hi := 9) (by omega) (by omega) (b1'.w77 (i := 5 * i) (v := v1))
  obtain ⟨v3, s3, a3, b3, c3, d3, e3⟩ := take_m hT (lo := 0) (hi := 20) (by omega) (by omega) (b2.w77 (i := 5 * i + 1) (v := v2))
  obtain ⟨v4, s4, a4, b4, c4, d4, e4⟩ := take_m hT (lo := 0) (hi := 6) (by omega) (by omega) (b3.w77 (i := 5 * i + 2) (v := v3))
  have b4w := b4.w77 (i := 5 * i + 3) (v := v4)
  have h20' : (up s4 77 (5 * i + 3) v4).1 67 20 = nI i := by rw [up_c (by decide), d4 20 (by omega), up_c (by decide), d3 20 (by omega), up_c (by decide), d2 20 (by omega), up_c (by decide), d1 20 (by omega), h20]
  have b5 : MB T (q4b T i t) (up (up s4 77 (5 * i + 3) v4) 67 18 (nI (b1 (q4b T i t).1))) := b4w.bad _
  obtain ⟨v5, s5, a5, b6, c5, d5, e5⟩ := take_m hT (lo := 0) (hi := 5) (by omega) (by omega) b5
  have hk4 : kK (q4 T t).2 ≤ 4 ∧ kV (q4 T t).2 ≤ 999 := ⟨b4.2.1.2.1, b4.2.1.2.2.2.1⟩
  have E : Ex (fun q => q = 67 ∨ q = 77) s s5 := by
    have m : ∀ {s s' : St}, Ex (fun q => q = 67) s s' → Ex (fun q => q = 67 ∨ q = 77) s s' := fun e => e.mono (fun q hq => by omega)
    have u : ∀ {s : St} {i : Nat} {v : Int32}, Ex (fun q => q = 67 ∨ q = 77) s (up s 77 i v) := Ex.u2 (by omega)
    have u7 : ∀ {s : St} {i : Nat} {v : Int32}, Ex (fun q => q = 67 ∨ q = 77) s (up s 67 i v) := Ex.u2 (by omega)
    exact (((((((((m c1).tr1 u).tr1 (m c2)).tr1 u).tr1 (m c3)).tr1 u).tr1 (m c4)).tr1 u).tr1 u7).tr1 (m c5)
  have D : ∀ q, q < 14 ∨ 18 < q → s5.1 67 q = s.1 67 q := fun q hq => by rw [d5 q hq, up_i (by omega), up_c (by decide), d4 q hq, up_c (by decide), d3 q hq, up_c (by decide), d2 q hq, up_c (by decide), d1 q hq]
  have w5 : ∀ q, s5.1 77 q = (up s4 77 (5 * i + 3) v4).1 77 q := fun q => by rw [c5.1 77 (by omega), up_c (by decide)]
  refine ⟨up (up s5 77 (5 * i + 4) v5) 67 20 (nI (i + 1)), ?_, ?_, (E.tr1 (Ex.u2 (by omega))).tr1 (Ex.u2 (by omega)), fun q hq => by rw [up_i (by omega), up_c (by decide)]; exact D q (by omega), up_s, fun hf j hj => ?_, fun q hq => ?_⟩
  · unfold M_X7_readFarmer
    simp only [nl_0, nl_1, nl_2, nl_3, nl_4, nl_5, nl_6, nl_7, nl_8, nl_9, nl_10, nl_14, nl_20, nl_30, nl_32, nl_48, nl_57, nl_59, nl_60, nl_64, nl_99, nl_100, nl_102, nl_126, nl_140, nl_147, nl_181, nl_255, nl_999, jn]
    rw [a1, cl_some, h20, nM, wr_nI (by omega) (by decide), a2, cl_some, nP, wr_nI (by omega) (by decide), a3, cl_some, nP, wr_nI (by omega) (by decide), a4, cl_some, nP, wr_nI (by omega) (by decide), b4w.2.2.2, b4w.2.2.1.2.2.1, b4w.2.2.1.2.2.2, h20', nP]
    have fin : ∀ v, v = nI (b1 (q4b T i t).1) → (puZ (up s4 77 (5 * i + 3) v4) 67 18 v fun s16 => cl (M_X7_takesNumber (nI 0) (nI 5) s16) fun r17 s18 => wr s18 77 30 (nI (5 * i + 4)) r17 fun s19 => pu s19 67 20 (s19.1 67 20 + nI 1) fun s20 => some (nI 0, s20)) = some (nI 0, up (up s5 77 (5 * i + 4) v5) 67 20 (nI (i + 1))) := by
      intro v hv
      subst hv
      have : ∀ (b : Bool) (c : St → Option (Int32 × St)), puZ (up s4 77 (5 * i + 3) v4) 67 18 (nI (b1 b)) c = c (up (up s4 77 (5 * i + 3) v4) 67 18 (nI (b1 b))) := fun b c => match b with
        | true => puZ1
        | false => puZ0
      rw [this, a5, cl_some, wr_nI (by omega) (by decide), pu_b, up_c (a := 67) (by decide), D 20 (by omega), h20, nP]
    show (if nI (b1 (q4 T t).1) = nI 0 then _ else _) = _
    show (if nI (b1 (q4 T t).1) = nI 0 then (if nI (kK (q4 T t).2) = nI 2 then (if nI (kV (q4 T t).2) = nI i then _ else _) else _) else _) = _
    by_cases hb : (q4 T t).1 = false
    · rw [hb, show nI (b1 false) = nI 0 from rfl, i_eq_t rfl]
      by_cases h2 : kK (q4 T t).2 = 2
      · rw [i_eq_t h2]
        by_cases h3 : kV (q4 T t).2 = i
        · rw [i_eq_t h3]
          exact fin _ (by unfold q4b; rw [decide_eq_true ⟨h2, h3⟩, Bool.or_true]; rfl)
        · rw [i_eq_f h3 (by omega) (by omega)]
          exact fin _ (by unfold q4b; rw [decide_eq_false (fun w => h3 w.2), hb]; rfl)
      · rw [i_eq_f h2 (by omega) (by decide)]
        exact fin _ (by unfold q4b; rw [decide_eq_false (fun w => h2 w.1), hb]; rfl)
    · have hb : (q4 T t).1 = true := by simpa using hb
      rw [hb, show nI (b1 true) = nI 1 from rfl, i_eq_f (by decide) (by decide) (by decide)]
      exact fin _ (by unfold q4b; rw [hb]; rfl)
  · exact b6.w77.same (Ex.u2 (by omega)) (by rw [up_i (by decide)]) (by rw [up_i (by decide)]) (by rw [up_i (by decide)]) (by rw [up_i (by decide)]) (by rw [up_i (by decide)]) (by rw [up_i (by decide)])
  · have f5 := stp_f hf
    have f4 : (q4 T t).1 = false := by have := f5.1; unfold q4b at this; exact (Bool.or_eq_false_iff.mp this).1
    have f3 := stp_f f4
    have f2 := stp_f f3.1
    have f1 := stp_f f2.1
    rw [up_c (by decide)]
    unfold vls
    match j, hj with
    | 0, _ => rw [up_i (by omega), w5, up_i (by omega), c4.1 77 (by decide), up_i (by omega), c3.1 77 (by decide), up_i (by omega), c2.1 77 (by decide), show 5 * i + 0 = 5 * i from rfl, up_s, if_pos rfl]; exact e1 f1.1
    | 1, _ => rw [up_i (by omega), w5, up_i (by omega), c4.1 77 (by decide), up_i (by omega), c3.1 77 (by decide), up_s, if_neg (by decide), if_pos rfl]; exact e2 f2.1
    | 2, _ => rw [up_i (by omega), w5, up_i (by omega), c4.1 77 (by decide), up_s, if_neg (by decide), if_neg (by decide), if_pos rfl]; exact e3 f3.1
    | 3, _ => rw [up_i (by omega), w5, up_s, if_neg (by decide), if_neg (by decide), if_neg (by decide), if_pos rfl]; exact e4 f4
    | 4, _ => rw [up_s, if_neg (by decide), if_neg (by decide), if_neg (by decide), if_neg (by decide)]; exact e5 hf
  · rw [up_c (by decide), up_i (by omega), w5, up_i (by omega), c4.1 77 (by decide), up_i (by omega), c3.1 77 (by decide), up_i (by omega), c2.1 77 (by decide), up_i (by omega), c1.1 77 (by decide)]
