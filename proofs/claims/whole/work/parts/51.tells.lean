/-! ===== the class reads a valley ===== -/
def XB (T : List Nat) (t : Tk) (s : St) : Prop := tX T s ∧ okK T t ∧ kX t s
theorem stepB {T : List Nat} (hT : okX T) {t : Tk} {s : St} (h : XB T t s) : ∃ s', M_X5_step s = some (0, s') ∧ Ex (fun q => q = 1) s s' ∧ XB T (tok T (kP t)) s' := by
  obtain ⟨s', e1, e2, e3, e4⟩ := step_x hT h.2.1.2.2.1 h.1 h.2.2.1
  exact ⟨s', e1, e2, ⟨by rw [e3]; exact h.1.1, fun i hi => by rw [e2.1 2 (by decide)]; exact h.1.2 i hi⟩, tok_ok hT h.2.1.2.2.1, e4⟩
theorem XB.up3 {T : List Nat} {t : Tk} {s : St} (h : XB T t s) {k i : Nat} {v : Int32} (hk : 3 ≤ k) : XB T t (up s k i v) := ⟨⟨by rw [up_c (by omega)]; exact h.1.1, fun j hj => by rw [up_c (by omega)]; exact h.1.2 j hj⟩, h.2.1, by rw [up_c (by omega)]; exact h.2.2.1, by rw [up_c (by omega)]; exact h.2.2.2.1, by rw [up_c (by omega)]; exact h.2.2.2.2.1, fun w => by rw [up_c (by omega)]; exact h.2.2.2.2.2 w⟩
theorem tn_x {T : List Nat} (hT : okX T) {t : Tk} {k i lo hi : Nat} (hk : 3 ≤ k) (hi6 : i < 6) (hl : lo ≤ 100) (hh : hi ≤ 100) {s : St} (h : XB T t s) : ∃ s', M_X5_tellsNumber k (nI i) (nI lo) (nI hi) s = some (nI (b1 (num lo hi (tok T (kP t)))), s') ∧ Ex (fun q => q = 1 ∨ q = k) s s' ∧ XB T (tok T (kP t)) s' ∧ (num lo hi (tok T (kP t)) = true → s'.1 k i = nI (kV (tok T (kP t)))) ∧ ∀ g, g ≠ i → s'.1 k g = s.1 k g := by
  obtain ⟨s1, e1, e2, e3⟩ := stepB hT h
  have E1 : Ex (fun q => q = 1 ∨ q = k) s s1 := e2.mono (fun q hq => by omega)
  have hk4 := e3.2.1.2.1
  unfold M_X5_tellsNumber
  rw [e1, cl_some, e3.2.2.2.2.1, nl_2]
  generalize tok T (kP t) = u at e3 hk4 ⊢
  by_cases h2 : kK u = 2
  · have hv := e3.2.1.2.2.2.2 h2
    rw [i_eq_t h2, e3.2.2.2.2.2 h2]
    by_cases h3 : kV u < lo
    · rw [i_lt_t h3 (by omega), show num lo hi u = false from decide_eq_false (by omega)]
      exact ⟨s1, rfl, E1, e3, fun w => (by cases w), fun g _ => by rw [e2.1 k (by omega)]⟩
    · rw [i_lt_f (by omega) (by omega)]
      by_cases h4 : kV u ≤ hi
      · rw [i_le_t h4 (by omega), wr_nI (by omega) (by decide), show num lo hi u = true from decide_eq_true ⟨h2, by omega, h4⟩]
        exact ⟨_, rfl, E1.tr1 (Ex.u2 (by omega)), e3.up3 hk, fun _ => up_s, fun g hg => by rw [up_i hg, e2.1 k (by omega)]⟩
      · rw [i_le_f (by omega) (by omega), show num lo hi u = false from decide_eq_false (by omega)]
        exact ⟨s1, rfl, E1, e3, fun w => (by cases w), fun g _ => by rw [e2.1 k (by omega)]⟩
  · rw [i_eq_f h2 (by omega) (by decide), show num lo hi u = false from decide_eq_false (fun w => h2 w.1)]
    exact ⟨s1, rfl, E1, e3, fun w => (by cases w), fun g _ => by rw [e2.1 k (by omega)]⟩
theorem stp_t {T : List Nat} {lo hi : Nat} {p : Bool × Tk} (h1 : p.1 = false) (h2 : num lo hi p.2 = true) : stp T lo hi p = (false, tok T (kP p.2)) := if_pos ⟨h1, h2⟩
theorem stp_b {T : List Nat} {lo hi : Nat} {t : Tk} : stp T lo hi (true, t) = (true, t) := if_neg (fun w => by cases w.1)
theorem stp_n {T : List Nat} {lo hi : Nat} {p : Bool × Tk} (h2 : num lo hi p.2 = false) : stp T lo hi p = (true, p.2) := if_neg (fun w => by rw [h2] at w; cases w.2)
def goodI (T : List Nat) (i : Nat) (t : Tk) : Bool := decide ((q5 T i t).1 = false ∧ kK (q5 T i t).2 = 3)
theorem one_x {T : List Nat} (hT : okX T) {t : Tk} {i : Nat} (hi6 : i < 6) (hc : kK t = 1) {s : St} (h : XB T t s) : ∃ s', M_X5_tellsOne 3 (nI i) s = some (nI (b1 (goodI T i (tok T (kP t)))), s') ∧ Ex (fun q => q = 1 ∨ (4 ≤ q ∧ q ≤ 8)) s s' ∧ XB T (q5 T i (tok T (kP t))).2 s' ∧ (goodI T i (tok T (kP t)) = true → ∀ j, j < 5 → s'.1 (4 + j) i = nI (vls T (tok T (kP t)) j)) ∧ ∀ g, g ≠ i → ∀ j, j < 5 → s'.1 (4 + j) g = s.1 (4 + j) g := by
  obtain ⟨s1, a1, b1', c1, d1, e1⟩ := tn_x hT (k := 3 + 1) (lo := 0) (hi := 30) (by omega) hi6 (by omega) (by omega) h
  unfold M_X5_tellsOne
  simp only [nl_0, nl_1, nl_2, nl_3, nl_4, nl_5, nl_6, nl_7, nl_8, nl_9, nl_10, nl_14, nl_20, nl_30, nl_32, nl_48, nl_57, nl_59, nl_60, nl_64, nl_99, nl_100, nl_102, nl_126, nl_140, nl_147, nl_181, nl_255, nl_999, jn, if_true]
  rw [h.2.2.2.2.1, i_eq_t hc, a1, cl_some]
  generalize tok T (kP t) = t1 at c1 d1 ⊢
  have gb : ∀ u : Tk, q5 T i t1 = (true, u) → goodI T i t1 = false := fun u w => decide_eq_false (by rw [w]; intro z; cases z.1)
  have E1 : Ex (fun q => q = 1 ∨ (4 ≤ q ∧ q ≤ 8)) s s1 := b1'.mono (fun q hq => by omega)
  -- it fails at one of them
  have bad : ∀ (u : Tk) (S : St), q5 T i t1 = (true, u) → Ex (fun q => q = 1 ∨ (4 ≤ q ∧ q ≤ 8)) s S → XB T u S → (∀ g, g ≠ i → ∀ j, j < 5 → S.1 (4 + j) g = s.1 (4 + j) g) → ∃ s', (some (nI 0, S)) = some (nI (b1 (goodI T i t1)), s') ∧ Ex (fun q => q = 1 ∨ (4 ≤ q ∧ q ≤ 8)) s s' ∧ XB T (q5 T i t1).2 s' ∧ (goodI T i t1 = true → ∀ j, j < 5 → s'.1 (4 + j) i = nI (vls T t1 j)) ∧ ∀ g, g ≠ i → ∀ j, j < 5 → s'.1 (4 + j) g = s.1 (4 + j) g := by
    intro u S hq hE hX hg
    rw [gb u hq, hq]
    exact ⟨S, rfl, hE, hX, fun w => (by cases w), hg⟩
  have G1 : ∀ g, g ≠ i → ∀ j, j < 5 → s1.1 (4 + j) g = s.1 (4 + j) g := fun g hg j hj => by
    by_cases hj0 : j = 0
    · subst hj0; exact e1 g hg
    · rw [b1'.1 (4 + j) (by omega)]
  by_cases n1 : num 0 30 t1 = false
  · have n1 : num 0 30 t1 = false := n1
    have hq1 : q1 T t1 = (true, t1) := stp_n n1
    have hq : q5 T i t1 = (true, t1) := by unfold q5 q4b q4 q3 q2; rw [hq1, stp_b, stp_b, stp_b]; exact stp_b
    rw [n1, show nI (b1 false) = nI 0 from rfl, i_eq_t rfl]
    exact bad t1 s1 hq E1 c1 G1
  have n1 : num 0 30 t1 = true := by simpa using n1
  have hq1 : q1 T t1 = (false, tok T (kP t1)) := stp_t rfl n1
  obtain ⟨s2, a2, b2, c2, d2, e2⟩ := tn_x hT (k := 3 + 2) (lo := 1) (hi := 9) (by omega) hi6 (by omega) (by omega) c1
  rw [n1, show nI (b1 true) = nI 1 from rfl, i_eq_f (by decide) (by decide) (by decide), a2, cl_some]
  have E2 : Ex (fun q => q = 1 ∨ (4 ≤ q ∧ q ≤ 8)) s s2 := E1.tr1 (b2.mono (fun q hq => by omega))
  have G2 : ∀ g, g ≠ i → ∀ j, j < 5 → s2.1 (4 + j) g = s.1 (4 + j) g := fun g hg j hj => by
    by_cases hj0 : j = 1
    · subst hj0; rw [show 4 + 1 = 3 + 2 from rfl, e2 g hg]; exact G1 g hg 1 hj
    · rw [b2.1 (4 + j) (by omega)]; exact G1 g hg j hj
  generalize ht2 : tok T (kP t1) = t2 at hq1 c2 d2 ⊢
  by_cases n2 : num 1 9 t2 = false
  · have n2 : num 1 9 t2 = false := n2
    have hq2 : q2 T t1 = (true, t2) := by unfold q2; rw [hq1]; exact stp_n n2
    have hq : q5 T i t1 = (true, t2) := by unfold q5 q4b q4 q3; rw [hq2, stp_b, stp_b]; exact stp_b
    rw [n2, show nI (b1 false) = nI 0 from rfl, i_eq_t rfl]
    exact bad t2 s2 hq E2 c2 G2
  have n2 : num 1 9 t2 = true := by simpa using n2
  have hq2 : q2 T t1 = (false, tok T (kP t2)) := by unfold q2; rw [hq1]; exact stp_t rfl n2
  obtain ⟨s3, a3, b3, c3, d3, e3⟩ := tn_x hT (k := 3 + 3) (lo := 0) (hi := 20) (by omega) hi6 (by omega) (by omega) c2
  rw [n2, show nI (b1 true) = nI 1 from rfl, i_eq_f (by decide) (by decide) (by decide), a3, cl_some]
  have E3 : Ex (fun q => q = 1 ∨ (4 ≤ q ∧ q ≤ 8)) s s3 := E2.tr1 (b3.mono (fun q hq => by omega))
  have G3 : ∀ g, g ≠ i → ∀ j, j < 5 → s3.1 (4 + j) g = s.1 (4 + j) g := fun g hg j hj => by
    by_cases hj0 : j = 2
    · subst hj0; rw [show 4 + 2 = 3 + 3 from rfl, e3 g hg]; exact G2 g hg 2 hj
    · rw [b3.1 (4 + j) (by omega)]; exact G2 g hg j hj
  generalize ht3 : tok T (kP t2) = t3 at hq2 c3 d3 ⊢
  by_cases n3 : num 0 20 t3 = false
  · have n3 : num 0 20 t3 = false := n3
    have hq3 : q3 T t1 = (true, t3) := by unfold q3; rw [hq2]; exact stp_n n3
    have hq : q5 T i t1 = (true, t3) := by unfold q5 q4b q4; rw [hq3, stp_b]; exact stp_b
    rw [n3, show nI (b1 false) = nI 0 from rfl, i_eq_t rfl]
    exact bad t3 s3 hq E3 c3 G3
  have n3 : num 0 20 t3 = true := by simpa using n3
  have hq3 : q3 T t1 = (false, tok T (kP t3)) := by unfold q3; rw [hq2]; exact stp_t rfl n3
  obtain ⟨s4, a4, b4, c4, d4, e4⟩ := tn_x hT (k := 3 + 4) (lo := 0) (hi := 6) (by omega) hi6 (by omega) (by omega) c3
  rw [n3, show nI (b1 true) = nI 1 from rfl, i_eq_f (by decide) (by decide) (by decide), a4, cl_some]
  have E4 : Ex (fun q => q = 1 ∨ (4 ≤ q ∧ q ≤ 8)) s s4 := E3.tr1 (b4.mono (fun q hq => by omega))
  have G4 : ∀ g, g ≠ i → ∀ j, j < 5 → s4.1 (4 + j) g = s.1 (4 + j) g := fun g hg j hj => by
    by_cases hj0 : j = 3
    · subst hj0; rw [show 4 + 3 = 3 + 4 from rfl, e4 g hg]; exact G3 g hg 3 hj
    · rw [b4.1 (4 + j) (by omega)]; exact G3 g hg j hj
  generalize ht4 : tok T (kP t3) = t4 at hq3 c4 d4 ⊢
  by_cases n4 : num 0 6 t4 = false
  · have n4 : num 0 6 t4 = false := n4
    have hq4 : q4 T t1 = (true, t4) := by unfold q4; rw [hq3]; exact stp_n n4
    have hq : q5 T i t1 = (true, t4) := by unfold q5 q4b; rw [hq4]; exact stp_b
    rw [n4, show nI (b1 false) = nI 0 from rfl, i_eq_t rfl]
    exact bad t4 s4 hq E4 c4 G4
  have n4 : num 0 6 t4 = true := by simpa using n4
  have hq4 : q4 T t1 = (false, tok T (kP t4)) := by unfold q4; rw [hq3]; exact stp_t rfl n4
  obtain ⟨s5, a5, b5, c5, d5, e5⟩ := tn_x hT (k := 3 + 5) (lo := 0) (hi := 5) (by omega) hi6 (by omega) (by omega) c4
  rw [n4, show nI (b1 true) = nI 1 from rfl, i_eq_f (by decide) (by decide) (by decide), a5, cl_some]
  have E5 : Ex (fun q => q = 1 ∨ (4 ≤ q ∧ q ≤ 8)) s s5 := E4.tr1 (b5.mono (fun q hq => by omega))
  have G5 : ∀ g, g ≠ i → ∀ j, j < 5 → s5.1 (4 + j) g = s.1 (4 + j) g := fun g hg j hj => by
    by_cases hj0 : j = 4
    · subst hj0; rw [show 4 + 4 = 3 + 5 from rfl, e5 g hg]; exact G4 g hg 4 hj
    · rw [b5.1 (4 + j) (by omega)]; exact G4 g hg j hj
  generalize ht5 : tok T (kP t4) = t5 at hq4 c5 d5 ⊢
  by_cases n5 : num 0 5 t5 = false
  · have n5 : num 0 5 t5 = false := n5
    have hq : q5 T i t1 = (true, t5) := by unfold q5; rw [stp_n (by unfold q4b; rw [hq4]; exact n5)]; unfold q4b; rw [hq4]
    rw [n5, show nI (b1 false) = nI 0 from rfl, i_eq_t rfl]
    exact bad t5 s5 hq E5 c5 G5
  have n5 : num 0 5 t5 = true := by simpa using n5
  have hv5 := num_le n5
  have hk5 : kK t5 = 2 := (of_decide_eq_true n5).1
  rw [n5, show nI (b1 true) = nI 1 from rfl, i_eq_f (by decide) (by decide) (by decide), rd_nI hi6 (by decide), d5 n5]
  by_cases hki : kV t5 = i
  · have hq : q5 T i t1 = (true, t5) := by unfold q5 q4b; rw [hq4]; simp only [hk5, hki]; exact stp_b
    rw [i_eq_t hki]
    exact bad t5 s5 hq E5 c5 G5
  have hq4b : q4b T i t1 = (false, t5) := by unfold q4b; rw [hq4]; simp [hki]
  have hq5 : q5 T i t1 = (false, tok T (kP t5)) := by unfold q5; rw [hq4b]; exact stp_t rfl n5
  obtain ⟨s6, a6, b6, c6⟩ := stepB hT c5
  rw [i_eq_f hki (by omega) (by omega), i_eq_f (by decide) (by decide) (by decide), show M_X5_step s5 = some (nI 0, s6) from a6, cl_some, c6.2.2.2.2.1]
  have E6 : Ex (fun q => q = 1 ∨ (4 ≤ q ∧ q ≤ 8)) s s6 := E5.tr1 (b6.mono (fun q hq => by omega))
  have G6 : ∀ g, g ≠ i → ∀ j, j < 5 → s6.1 (4 + j) g = s.1 (4 + j) g := fun g hg j hj => by rw [b6.1 (4 + j) (by omega)]; exact G5 g hg j hj
  generalize ht6 : tok T (kP t5) = t6 at hq5 c6 ⊢
  have hk6 := c6.2.1.2.1
  by_cases h3 : kK t6 = 3
  · have hg : goodI T i t1 = true := decide_eq_true (by rw [hq5]; exact ⟨rfl, h3⟩)
    rw [i_eq_t h3, hg, hq5]
    refine ⟨s6, rfl, E6, c6, fun _ j hj => ?_, G6⟩
    rw [b6.1 (4 + j) (by omega)]
    unfold vls
    rw [hq1, hq2, hq3, hq4]
    match j, hj with
    | 0, _ => rw [if_pos rfl, b5.1 4 (by omega), b4.1 4 (by omega), b3.1 4 (by omega), b2.1 4 (by omega)]; exact d1 n1
    | 1, _ => rw [if_neg (by decide), if_pos rfl, b5.1 5 (by omega), b4.1 5 (by omega), b3.1 5 (by omega)]; exact d2 n2
    | 2, _ => rw [if_neg (by decide), if_neg (by decide), if_pos rfl, b5.1 6 (by omega), b4.1 6 (by omega)]; exact d3 n3
    | 3, _ => rw [if_neg (by decide), if_neg (by decide), if_neg (by decide), if_pos rfl, b5.1 7 (by omega)]; exact d4 n4
    | 4, _ => rw [if_neg (by decide), if_neg (by decide), if_neg (by decide), if_neg (by decide)]; exact d5 n5
  · have hg : goodI T i t1 = false := decide_eq_false (by rw [hq5]; exact fun w => h3 w.2)
    rw [i_eq_f h3 (by omega) (by decide), hg, hq5]
    exact ⟨s6, rfl, E6, c6, fun w => (by cases w), G6⟩
