theorem itC {T : List Nat} {t : Tk} {i : Nat} (hi : i ≤ 6) {s : St} (h : MB T (false, t) s) (h20 : s.1 67 20 = nI i) (hc : ¬ (kK t = 1 ∧ i < 6)) : M_X7_readItem s = some (0, up s 67 18 (nI (b1 true))) := by
  have hk4 := h.2.1.2.1
  unfold M_X7_readItem
  simp only [nl_0, nl_1, nl_2, nl_3, nl_4, nl_5, nl_6, nl_7, nl_8, nl_9, nl_10, nl_14, nl_20, nl_30, nl_32, nl_48, nl_57, nl_59, nl_60, nl_64, nl_99, nl_100, nl_102, nl_126, nl_140, nl_147, nl_181, nl_255, nl_999, jn]
  rw [h.2.2.1.2.2.1, h20]
  by_cases h1 : kK t = 1
  · rw [i_eq_t h1, i_eq_t (by omega), puZ1]; rfl
  · rw [i_eq_f h1 (show kK t < 2147483648 by have : kK t ≤ 4 := hk4; omega) (by decide), puZ1]; rfl
theorem itAB {T : List Nat} (hT : okX T) {t : Tk} {i : Nat} (hi : i < 6) {s : St} (h : MB T (false, t) s) (h20 : s.1 67 20 = nI i) (hc : kK t = 1) : ∃ s', M_X7_readItem s = some (0, s') ∧ Ex (fun q => q = 67 ∨ q = 77) s s' ∧ (∀ q, q < 14 ∨ 20 < q ∨ q = 19 → s'.1 67 q = s.1 67 q) ∧ s'.1 67 20 = nI (i + 1) ∧ (∀ q, q < 5 * i → s'.1 77 q = s.1 77 q) ∧ if (q5 T i (tok T (kP t))).1 = false ∧ kK (q5 T i (tok T (kP t))).2 = 3 then MB T (false, tok T (kP (q5 T i (tok T (kP t))).2)) s' ∧ ∀ j, j < 5 → s'.1 77 (5 * i + j) = nI (vls T (tok T (kP t)) j) else MB T (true, (q5 T i (tok T (kP t))).2) s' := by
  obtain ⟨s1, a1, b1', c1, d1⟩ := nextB hT h
  obtain ⟨s2, a2, b2, c2, d2, e2, f2, g2⟩ := farm_m hT hi d1 (by rw [c1 20 (by omega)]; exact h20)
  have E2 : Ex (fun q => q = 67 ∨ q = 77) s s2 := (b1'.mono (fun q hq => by omega)).tr1 c2
  generalize q5 T i (tok T (kP t)) = p at b2 f2 ⊢
  have hk4 := b2.2.1.2.1
  unfold M_X7_readItem
  simp only [nl_0, nl_1, nl_2, nl_3, nl_4, nl_5, nl_6, nl_7, nl_8, nl_9, nl_10, nl_14, nl_20, nl_30, nl_32, nl_48, nl_57, nl_59, nl_60, nl_64, nl_99, nl_100, nl_102, nl_126, nl_140, nl_147, nl_181, nl_255, nl_999, jn]
  rw [h.2.2.1.2.2.1, h20, i_eq_t hc, i_eq_f (by omega) (by omega) (by decide), a1, cl_some, a2, cl_some, b2.2.2.2, b2.2.2.1.2.2.1]
  by_cases hp : p.1 = false ∧ kK p.2 = 3
  · simp only [if_pos hp]
    rw [hp.1, show nI (b1 false) = nI 0 from rfl, i_eq_t rfl, i_eq_t hp.2, puZ0, up_s, i_eq_t rfl]
    obtain ⟨s3, a3, b3, c3, d3⟩ := nextB hT (b2.bad false)
    rw [show up s2 67 18 (nI 0) = up s2 67 18 (nI (b1 false)) from rfl, a3, cl_some]
    refine ⟨s3, rfl, (E2.tr1 (Ex.u2 (by omega))).tr1 (b3.mono (fun q hq => by omega)), fun q hq => by rw [c3 q (by omega), up_i (by omega), d2 q (by omega), c1 q (by omega)], by rw [c3 20 (by omega), up_i (by decide)]; exact e2, fun q hq => by rw [b3.1 77 (by decide), up_c (by decide), g2 q hq, b1'.1 77 (by decide)], d3, fun j hj => by rw [b3.1 77 (by decide), up_c (by decide)]; exact f2 hp.1 j hj⟩
  · simp only [if_neg hp]
    have fin : ∃ s', (puZ s2 67 18 (nI 1) fun s11 => if s11.1 67 18 = nI 0 then cl (M_X7_next s11) fun r12 s13 => some (nI 0, s13) else some (nI 0, s11)) = some (nI 0, s') ∧ Ex (fun q => q = 67 ∨ q = 77) s s' ∧ (∀ q, q < 14 ∨ 20 < q ∨ q = 19 → s'.1 67 q = s.1 67 q) ∧ s'.1 67 20 = nI (i + 1) ∧ (∀ q, q < 5 * i → s'.1 77 q = s.1 77 q) ∧ MB T (true, p.2) s' := by
      rw [puZ1, up_s, i_eq_f (by decide) (by decide) (by decide)]
      exact ⟨_, rfl, E2.tr1 (Ex.u2 (by omega)), fun q hq => by rw [up_i (by omega), d2 q (by omega), c1 q (by omega)], by rw [up_i (by decide)]; exact e2, fun q hq => by rw [up_c (by decide), g2 q hq, b1'.1 77 (by decide)], b2.bad true⟩
    by_cases hb : p.1 = false
    · rw [hb, show nI (b1 false) = nI 0 from rfl, i_eq_t rfl, i_eq_f (fun w => hp ⟨hb, w⟩) (by omega) (by decide)]
      exact fin
    · rw [show p.1 = true by simpa using hb, show nI (b1 true) = nI 1 from rfl, i_eq_f (by decide) (by decide) (by decide)]
      exact fin
def atD (s : St) (n : Nat) (D : Nat → Nat → Nat) : Prop := ∀ g, g < n → ∀ j, j < 5 → s.1 77 (5 * g + j) = nI (D g j)
def okD (n : Nat) (D : Nat → Nat → Nat) : Prop := ∀ g, g < n → D g 0 ≤ 30 ∧ D g 1 ≤ 9 ∧ D g 2 ≤ 20 ∧ D g 3 ≤ 6 ∧ D g 4 ≤ 5 ∧ D g 4 ≠ g
theorem num_le {lo hi : Nat} {t : Tk} (h : num lo hi t = true) : kV t ≤ hi := (of_decide_eq_true h).2.2
theorem vls_ok {T : List Nat} {i : Nat} {t : Tk} (h : (q5 T i t).1 = false) : vls T t 0 ≤ 30 ∧ vls T t 1 ≤ 9 ∧ vls T t 2 ≤ 20 ∧ vls T t 3 ≤ 6 ∧ vls T t 4 ≤ 5 ∧ vls T t 4 ≠ i := by
  have f5 := stp_f h
  have f4 : (q4 T t).1 = false := by have := f5.1; unfold q4b at this; exact (Bool.or_eq_false_iff.mp this).1
  have f4' := stp_f f4
  have f3 := stp_f f4'.1
  have f2 := stp_f f3.1
  have f1 := stp_f f2.1
  refine ⟨num_le f1.2, num_le f2.2, num_le f3.2, num_le f4'.2, num_le f5.2, fun w => ?_⟩
  have h1 : decide (kK (q4 T t).2 = 2 ∧ kV (q4 T t).2 = i) = false := by have := f5.1; unfold q4b at this; exact (Bool.or_eq_false_iff.mp this).2
  exact of_decide_eq_false h1 ⟨(of_decide_eq_true f5.2).1, w⟩
def rsM (r : Nat ⊕ (Nat × Nat × (Nat → Nat → Nat))) (s : St) : Prop := match r with
  | .inl e => s.1 67 18 = nI 1 ∧ s.1 67 15 = nI e
  | .inr (n, e, D) => s.1 67 18 = nI 0 ∧ s.1 67 15 = nI e ∧ s.1 67 20 = nI n ∧ s.1 67 19 = nI n ∧ atD s n D
def rsOk (r : Nat ⊕ (Nat × Nat × (Nat → Nat → Nat))) : Prop := match r with
  | .inl e => e ≤ 140
  | .inr (n, e, D) => n ≤ 6 ∧ e ≤ 140 ∧ okD n D
theorem ps_s {T : List Nat} {c i : Nat} {t : Tk} {D : Nat → Nat → Nat} : ps T (c + 1) i t D = if kK t = 0 then .inr (i, kA t, D) else if kK t = 1 ∧ i < 6 then (if (q5 T i (tok T (kP t))).1 = false ∧ kK (q5 T i (tok T (kP t))).2 = 3 then ps T c (i + 1) (tok T (kP (q5 T i (tok T (kP t))).2)) (va_up D i (vls T (tok T (kP t)))) else .inl (kA (q5 T i (tok T (kP t))).2)) else .inl (kA t) := rfl
theorem stp_ok {T : List Nat} (hT : okX T) {lo hi : Nat} {p : Bool × Tk} (h : okK T p.2) : okK T (stp T lo hi p).2 := by
  unfold stp
  split
  · exact tok_ok hT h.2.2.1
  · exact h
theorem q5_ok {T : List Nat} (hT : okX T) {i : Nat} {t : Tk} (h : okK T t) : okK T (q5 T i t).2 := stp_ok hT (stp_ok hT (stp_ok hT (stp_ok hT (stp_ok hT (p := (false, t)) h))))
theorem ps_ok {T : List Nat} (hT : okX T) : ∀ (c i : Nat) (t : Tk) (D : Nat → Nat → Nat), okK T t → i ≤ 6 → okD i D → rsOk (ps T c i t D)
  | 0, i, t, D, h, _, _ => h.1
  | c + 1, i, t, D, h, hi, hD => by
    rw [ps_s]
    by_cases h0 : kK t = 0
    · rw [if_pos h0]; exact ⟨hi, h.1, hD⟩
    · rw [if_neg h0]
      by_cases h1 : kK t = 1 ∧ i < 6
      · rw [if_pos h1]
        have hq := q5_ok hT (i := i) (tok_ok hT h.2.2.1)
        by_cases h2 : (q5 T i (tok T (kP t))).1 = false ∧ kK (q5 T i (tok T (kP t))).2 = 3
        · rw [if_pos h2]
          refine ps_ok hT c (i + 1) _ _ (tok_ok hT hq.2.2.1) (by omega) (fun g hg => ?_)
          unfold va_up
          split
          · rename_i he; subst he; exact vls_ok h2.1
          · exact hD g (by omega)
        · rw [if_neg h2]; exact hq.1
      · rw [if_neg h1]; exact h.1
theorem l24 {T : List Nat} (hT : okX T) {kk : St → Option (Int32 × St)} : ∀ (fu i : Nat) (t : Tk) (D : Nat → Nat → Nat) (s : St), MB T (false, t) s → s.1 67 20 = nI i → s.1 67 19 = nI i → i ≤ 6 → atD s i D → 8 < fu + i → ∃ s', M_X7_valley_L24 kk fu s = kk s' ∧ Ex (fun q => q = 67 ∨ q = 77) s s' ∧ (∀ q, q < 14 ∨ 20 < q → s'.1 67 q = s.1 67 q) ∧ rsM (ps T (7 - i) i t D) s'
  | 0, i, t, D, s, _, _, _, h1, _, h2 => absurd h2 (by omega)
  | fu + 1, i, t, D, s, h, h20, h19, h1, hD, h2 => by
    have hk4 : kK t ≤ 4 := h.2.1.2.1
    rw [M_X7_valley_L24, h.2.2.1.2.2.1, h.2.2.2, show 7 - i = (6 - i) + 1 by omega, ps_s]
    simp only [nl_0, nl_1]
    by_cases h0 : kK t = 0
    · rw [i_eq_t h0, if_pos h0]
      exact ⟨s, rfl, Ex.rf, fun q _ => rfl, h.2.2.2, h.2.2.1.2.1, h20, h19, hD⟩
    · rw [i_eq_f h0 (show kK t < 2147483648 by omega) (by decide), if_neg h0, show nI (b1 (false, t).1) = nI 0 from rfl, i_eq_t rfl]
      -- once it is bad, the loop ends
      have bad : ∀ (t' : Tk) (S : St), MB T (true, t') S → ∃ s', M_X7_valley_L24 kk fu S = kk s' ∧ s' = S := by
        intro t' S hS
        match fu, h2 with
        | 0, h2 => omega
        | fu + 1, _ =>
          refine ⟨S, ?_, rfl⟩
          rw [M_X7_valley_L24, hS.2.2.2]
          split
          · rfl
          · rw [if_neg (show ¬ nI (b1 true) = 0 by decide)]
      by_cases hc : kK t = 1 ∧ i < 6
      · rw [if_pos hc]
        obtain ⟨s1, a1, a2, a3, a4, a5, a6⟩ := itAB hT hc.2 h h20 hc.1
        rw [show M_X7_readItem s = some (nI 0, s1) from a1, cl_some, pu_b, a3 19 (by omega), h19, nP]
        by_cases hq : (q5 T i (tok T (kP t))).1 = false ∧ kK (q5 T i (tok T (kP t))).2 = 3
        · rw [if_pos hq] at a6
          rw [if_pos hq]
          have hMB : MB T (false, tok T (kP (q5 T i (tok T (kP t))).2)) (up s1 67 19 (nI (i + 1))) := a6.1.same (Ex.u2 (by omega)) (by rw [up_i (by decide)]) (by rw [up_i (by decide)]) (by rw [up_i (by decide)]) (by rw [up_i (by decide)]) (by rw [up_i (by decide)]) (by rw [up_i (by decide)])
          obtain ⟨s2, r1, r2, r3, r4⟩ := l24 hT (kk := kk) fu (i + 1) _ (va_up D i (vls T (tok T (kP t)))) _ hMB (by rw [up_i (by decide)]; exact a4) up_s (by omega) (fun g hg j hj => by
            rw [up_c (by decide)]
            by_cases hgi : g = i
            · subst hgi; rw [va_up_self]; exact a6.2 j hj
            · rw [va_up_ne _ _ hgi, a5 _ (by omega)]; exact hD g (by omega) j hj) (by omega)
          rw [show 7 - (i + 1) = 6 - i by omega] at r4
          exact ⟨s2, r1, (a2.tr1 (Ex.u2 (by omega))).tr1 r2, fun q hq => by rw [r3 q hq, up_i (by omega), a3 q (by omega)], r4⟩
        · rw [if_neg hq] at a6
          rw [if_neg hq]
          have hMB : MB T (true, (q5 T i (tok T (kP t))).2) (up s1 67 19 (nI (i + 1))) := a6.same (Ex.u2 (by omega)) (by rw [up_i (by decide)]) (by rw [up_i (by decide)]) (by rw [up_i (by decide)]) (by rw [up_i (by decide)]) (by rw [up_i (by decide)]) (by rw [up_i (by decide)])
          obtain ⟨s2, r1, rfl⟩ := bad _ _ hMB
          exact ⟨_, r1, a2.tr1 (Ex.u2 (by omega)), fun q hq => by rw [up_i (by omega), a3 q (by omega)], hMB.2.2.2, hMB.2.2.1.2.1⟩
      · rw [if_neg hc, show M_X7_readItem s = some (nI 0, up s 67 18 (nI (b1 true))) from itC h1 h h20 hc, cl_some, pu_b, up_i (by decide), h19, nP]
        have hMB : MB T (true, t) (up (up s 67 18 (nI (b1 true))) 67 19 (nI (i + 1))) := (h.bad true).same (Ex.u2 (by omega)) (by rw [up_i (by decide)]) (by rw [up_i (by decide)]) (by rw [up_i (by decide)]) (by rw [up_i (by decide)]) (by rw [up_i (by decide)]) (by rw [up_i (by decide)])
        obtain ⟨s2, r1, rfl⟩ := bad _ _ hMB
        exact ⟨_, r1, (Ex.u2 (by omega)).tr1 (Ex.u2 (by omega)), fun q hq => by rw [up_i (by omega), up_i (by omega)], hMB.2.2.2, hMB.2.2.1.2.1⟩
def alK (D : Nat → Nat → Nat) (n : Nat) : Nat → Nat → Bool
  | 0, _ => true
  | c + 1, g => decide (D g 4 < n) && alK D n c (g + 1)
theorem l57 {n : Nat} (hn : n ≤ 6) {D : Nat → Nat → Nat} (hD : okD n D) {kk : St → Option (Int32 × St)} : ∀ (fu g : Nat) (s : St), s.1 67 20 = nI n → s.1 67 18 = nI 0 → atD s n D → g ≤ n → n + 1 < fu + g → ∃ s', M_X7_valley_L57 kk fu (nI g) s = kk s' ∧ Ex (fun q => q = 67) s s' ∧ (∀ q, q ≠ 18 → s'.1 67 q = s.1 67 q) ∧ s'.1 67 18 = nI (b1 (!(alK D n (n - g) g)))
  | 0, g, s, _, _, _, h1, h2 => absurd h2 (by omega)
  | fu + 1, g, s, h20, h18, hA, h1, h2 => by
    rw [M_X7_valley_L57, h20, h18]
    simp only [nl_0, nl_1, nl_2, nl_3, nl_4, nl_5, nl_6, nl_7, nl_8, nl_9, nl_10, nl_14, nl_20, nl_30, nl_32, nl_48, nl_57, nl_59, nl_60, nl_64, nl_99, nl_100, nl_102, nl_126, nl_140, nl_147, nl_181, nl_255, nl_999, jn, if_true]
    by_cases hg : g = n
    · subst hg
      rw [i_le_t (Nat.le_refl _) (by omega), Nat.sub_self]
      exact ⟨s, rfl, Ex.rf, fun q _ => rfl, h18⟩
    · have hg4 := (hD g (by omega)).2.2.2.2.1
      rw [i_le_f (by omega) (by omega), nM, nP, rd_nI (by omega) (by decide), hA g (by omega) 4 (by omega), nP, show n - g = (n - (g + 1)) + 1 by omega]
      unfold alK
      by_cases hk : D g 4 < n
      · rw [i_lt_t hk (by omega), puZ0, decide_eq_true hk, Bool.true_and]
        obtain ⟨s', e1, e2, e3, e4⟩ := l57 hn hD (kk := kk) fu (g + 1) (up s 67 18 (nI 0)) (by rw [up_i (by decide)]; exact h20) up_s (fun a b c d => by rw [up_c (by decide)]; exact hA a b c d) (by omega) (by omega)
        exact ⟨s', e1, Ex.u1.tr1 e2, fun q hq => by rw [e3 q hq, up_i hq], e4⟩
      · rw [i_lt_f (by omega) (by omega), puZ1, decide_eq_false hk, Bool.false_and]
        match fu, h2 with
        | 0, h2 => omega
        | fu + 1, _ =>
          refine ⟨up s 67 18 (nI 1), ?_, Ex.u1, fun q hq => up_i hq, up_s⟩
          rw [M_X7_valley_L57, up_s]
          split
          · rfl
          · rw [if_neg (by decide)]
