/-- the reference: who has nothing left -/
theorem bare_m {n : Nat} (hn : n ≤ 6) {lf : Nat → Nat} (hlf : ∀ g, g < n → lf g ≤ 9) {x2 : Int32} {kk : St → Option (Int32 × St)} : ∀ (fu f b : Nat) (s : St), s.1 67 0 = nI n → s.1 67 23 = nI b → (∀ g, g < n → s.1 78 (2 + g) = nI (lf g)) → f ≤ n → n < fu + f → b < 2 ^ n → ∃ b' s', M_X7_goesBy_L18 x2 kk fu (nI f) s = kk s' ∧ s'.1 67 23 = nI b' ∧ b' < 2 ^ n ∧ (∀ g, g < n → b'.testBit g = (b.testBit g || (decide (f ≤ g) && decide (lf g = 0)))) ∧ Ex (fun q => q = 67) s s' ∧ ∀ i, i ≠ 23 → s'.1 67 i = s.1 67 i
  | 0, f, b, s, _, _, _, h1, h2, _ => absurd h2 (by omega)
  | fu + 1, f, b, s, h0, h23, hl, h1, h2, hb => by
    rw [M_X7_goesBy_L18, h0, h23]
    simp only [nl_0, nl_1, nl_2, nl_3, nl_4, nl_5, nl_6, nl_7, nl_8, nl_9, nl_10, nl_14, nl_20, nl_30, nl_32, nl_48, nl_57, nl_59, nl_60, nl_64, nl_99, nl_100, nl_102, nl_126, nl_140, nl_147, nl_181, nl_255, nl_999, jn, pu]
    by_cases hf : f = n
    · subst hf
      rw [i_le_t (Nat.le_refl _) (by omega)]
      exact ⟨b, s, rfl, h23, hb, fun g hg => by simp [show ¬ f ≤ g by omega], Ex.rf, fun i _ => rfl⟩
    · have hf2 : f < n := by omega
      have h6 : b < 64 := Nat.lt_of_lt_of_le hb (pow6 hn)
      have hlf2 := hlf f hf2
      have go : ∀ b2, b2 < 2 ^ n → (∀ g, g < n → (b2.testBit g || (decide (f + 1 ≤ g) && decide (lf g = 0))) = (b.testBit g || (decide (f ≤ g) && decide (lf g = 0)))) → ∃ b' s', M_X7_goesBy_L18 x2 kk fu (nI (f + 1)) (up s 67 23 (nI b2)) = kk s' ∧ s'.1 67 23 = nI b' ∧ b' < 2 ^ n ∧ (∀ g, g < n → b'.testBit g = (b.testBit g || (decide (f ≤ g) && decide (lf g = 0)))) ∧ Ex (fun q => q = 67) s s' ∧ ∀ i, i ≠ 23 → s'.1 67 i = s.1 67 i := by
        intro b2 hb2 ht
        obtain ⟨b', s', e1, e2, e3, e4, e5, e6⟩ := bare_m hn hlf (x2 := x2) (kk := kk) fu (f + 1) b2 (up s 67 23 (nI b2)) (by rw [up_i (by decide)]; exact h0) up_s (fun g hg => by rw [up_c (by decide)]; exact hl g hg) (by omega) (by omega) hb2
        exact ⟨b', s', e1, e2, e3, fun g hg => by rw [e4 g hg, ht g hg], Ex.u1.tr1 e5, fun i hi => by rw [e6 i hi, up_i hi]⟩
      rw [i_le_f hf2 (by omega), nP, rd_nI (by omega) (by decide), hl f hf2, nP]
      by_cases hz : lf f = 0
      · rw [i_eq_t hz, bt_or1 h6 (by omega)]
        refine go _ (or_lt hb hf2) (fun g hg => ?_)
        rw [Nat.testBit_or, Nat.testBit_two_pow]
        by_cases hgf : g = f
        · subst hgf; simp [hz]
        · rw [dle hgf]; simp [Ne.symm hgf]
      · rw [i_eq_f hz (by omega) (by decide), or0]
        refine go _ hb (fun g hg => ?_)
        by_cases hgf : g = f
        · subst hgf; simp [hz]
        · rw [dle hgf]
theorem own_m {A f : Nat} (hA : A < 64) (hf : f < 6) {lff : Nat} (hl9 : lff ≤ 9) {s : St} (h1 : s.1 78 1 = nI A) (hl : s.1 78 (2 + f) = nI lff) : M_X7_mowsOwn (nI f) s = if A.testBit f = true ∧ lff ≠ 0 then some (nI 1, up s 78 (2 + f) (nI (lff - 1))) else some (nI 0, s) := by
  unfold M_X7_mowsOwn
  simp only [nl_0, nl_1, nl_2, nl_3, nl_4, nl_5, nl_6, nl_7, nl_8, nl_9, nl_10, nl_14, nl_20, nl_30, nl_32, nl_48, nl_57, nl_59, nl_60, nl_64, nl_99, nl_100, nl_102, nl_126, nl_140, nl_147, nl_181, nl_255, nl_999]
  rw [rd_nI (by decide) (by decide), h1, has_m (by omega) (by omega), cl_some, nP]
  by_cases hb : A.testBit f = true
  · rw [if_pos hb, i_eq_f (by decide) (by decide) (by decide), rd_nI (by omega) (by decide), hl]
    by_cases h0 : lff = 0
    · rw [i_eq_t h0, if_neg (by simp [h0])]
    · rw [i_eq_f h0 (by omega) (by decide), rd_nI (by omega) (by decide), hl, nS (by omega), wr_nI (by omega) (by decide), if_pos ⟨hb, h0⟩]
  · rw [if_neg hb, i_eq_t rfl, if_neg (fun q => hb q.1)]
theorem own_loop {n A : Nat} (hn : n ≤ 6) (hA : A < 64) {lf : Nat → Nat} (hlf : ∀ g, g < n → lf g ≤ 9) {kk : Int32 → St → Option (Int32 × St)} : ∀ (fu f m : Nat) (s : St), s.1 67 0 = nI n → s.1 78 1 = nI A → (∀ g, f ≤ g → g < n → s.1 78 (2 + g) = nI (lf g)) → f ≤ n → n < fu + f → ∃ s', M_X7_goesBy_L61 kk fu (nI m) (nI f) s = kk (nI (m + ctR (fun g => A.testBit g && decide (lf g ≠ 0)) (n - f) f)) s' ∧ Ex (fun q => q = 78) s s' ∧ (∀ g, f ≤ g → g < n → s'.1 78 (2 + g) = nI (m1 A lf g)) ∧ ∀ i, i < 2 + f ∨ 8 ≤ i → s'.1 78 i = s.1 78 i
  | 0, f, m, s, _, _, _, h1, h2 => absurd h2 (by omega)
  | fu + 1, f, m, s, h0, hA1, hl, h1, h2 => by
    rw [M_X7_goesBy_L61, h0]
    simp only [nl_0, nl_1, nl_2, nl_3, nl_4, nl_5, nl_6, nl_7, nl_8, nl_9, nl_10, nl_14, nl_20, nl_30, nl_32, nl_48, nl_57, nl_59, nl_60, nl_64, nl_99, nl_100, nl_102, nl_126, nl_140, nl_147, nl_181, nl_255, nl_999]
    by_cases hf : f = n
    · subst hf
      rw [i_le_t (Nat.le_refl _) (by omega), Nat.sub_self]
      exact ⟨s, rfl, Ex.rf, fun g h3 h4 => by omega, fun i _ => rfl⟩
    · have hf2 : f < n := by omega
      rw [i_le_f hf2 (by omega), own_m hA (by omega) (hlf f hf2) hA1 (hl f (Nat.le_refl _) hf2), ctR_s hf2]
      by_cases hc : A.testBit f = true ∧ lf f ≠ 0
      · rw [if_pos hc, cl_some, nP, nP]
        obtain ⟨s', e1, e2, e3, e4⟩ := own_loop hn hA hlf (kk := kk) fu (f + 1) (m + 1) (up s 78 (2 + f) (nI (lf f - 1))) (by rw [up_c (by decide)]; exact h0) (by rw [up_i (by omega)]; exact hA1) (fun g h3 h4 => by rw [up_i (by omega)]; exact hl g (by omega) h4) (by omega) (by omega)
        refine ⟨s', ?_, Ex.u1.tr1 e2, fun g h3 h4 => ?_, fun i hi => by rw [e4 i (by omega), up_i (by omega)]⟩
        · rw [e1]; congr 2; simp [hc.1, hc.2]; omega
        · by_cases hgf : g = f
          · subst hgf
            rw [e4 _ (by omega), up_s]; simp only [m1]; rw [if_pos hc]
          · exact e3 g (by omega) h4
      · rw [if_neg hc, cl_some, nP, nP]
        obtain ⟨s', e1, e2, e3, e4⟩ := own_loop hn hA hlf (kk := kk) fu (f + 1) (m + 0) s h0 hA1 (fun g h3 h4 => hl g (by omega) h4) (by omega) (by omega)
        refine ⟨s', ?_, e2, fun g h3 h4 => ?_, fun i hi => e4 i (by omega)⟩
        · rw [e1]; congr 2
          have : (A.testBit f && decide (lf f ≠ 0)) = false := by
            rw [Bool.and_eq_false_iff]
            by_cases hb : A.testBit f = true
            · right; simp; exact Classical.not_not.mp (fun q => hc ⟨hb, q⟩)
            · left; simpa using hb
          rw [this]; simp
        · by_cases hgf : g = f
          · subst hgf
            rw [e4 _ (by omega), hl g (Nat.le_refl _) h4]; simp only [m1]; rw [if_neg hc]
          · exact e3 g (by omega) h4
theorem oth_m {n A f : Nat} (hn : n ≤ 6) (hA : A < 64) (hf : f < 6) {kp lf : Nat → Nat} (hlf : ∀ g, g < n → lf g ≤ 9 ∧ kp g < n) {s : St} (h0 : s.1 67 0 = nI n) (hA1 : s.1 78 1 = nI A) (hl : ∀ g, g < n → s.1 78 (2 + g) = nI (lf g) ∧ s.1 78 (8 + g) = nI (kp g)) : ∀ (fu g : Nat), g ≤ n → n < fu + g → M_X7_mowsOther_L28 (nI f) (fun s9 => some (nI 0, s9)) fu (nI g) s = match fnd (mfp A kp lf f) (n - g) g with
    | some j => some (nI 1, up s 78 (2 + j) (nI (lf j - 1)))
    | none => some (nI 0, s)
  | 0, g, h1, h2 => absurd h2 (by omega)
  | fu + 1, g, h1, h2 => by
    rw [M_X7_mowsOther_L28, h0]
    simp only [nl_0, nl_1, nl_2, nl_3, nl_4, nl_5, nl_6, nl_7, nl_8, nl_9, nl_10, nl_14, nl_20, nl_30, nl_32, nl_48, nl_57, nl_59, nl_60, nl_64, nl_99, nl_100, nl_102, nl_126, nl_140, nl_147, nl_181, nl_255, nl_999, jn]
    by_cases hg : g = n
    · subst hg
      rw [i_le_t (Nat.le_refl _) (by omega), Nat.sub_self]; rfl
    · have hg2 : g < n := by omega
      have hb := hlf g hg2
      have hs := hl g hg2
      rw [i_le_f hg2 (by omega), nP, nP, nP, rd_nI (by omega) (by decide), hs.2, show n - g = (n - (g + 1)) + 1 by omega]
      unfold fnd
      by_cases hkf : kp g = f
      · rw [i_eq_t hkf, rd_nI (by decide) (by decide), hA1, has_m (by omega) (by omega), cl_some]
        by_cases hbt : A.testBit g = true
        · rw [if_pos hbt, i_eq_f (by decide) (by decide) (by decide), rd_nI (by omega) (by decide), hs.1]
          by_cases hz : lf g = 0
          · rw [i_le_t (by omega) (by decide), oth_m hn hA hf hlf h0 hA1 hl fu (g + 1) (by omega) (by omega), if_neg (by simp [mfp, hz])]
          · rw [i_le_f (by omega) (by omega), rd_nI (by omega) (by decide), hs.1, nS (by omega), wr_nI (by omega) (by decide), if_pos (by simp [mfp, hz, hkf, hbt])]
        · rw [if_neg hbt, i_eq_t rfl, oth_m hn hA hf hlf h0 hA1 hl fu (g + 1) (by omega) (by omega), if_neg (by simp [mfp, hbt])]
      · rw [i_eq_f hkf (by omega) (by omega), oth_m hn hA hf hlf h0 hA1 hl fu (g + 1) (by omega) (by omega), if_neg (by simp [mfp, hkf])]
theorem oth_loop {n A b : Nat} (hn : n ≤ 6) (hA : A < 64) (hb : b < 64) {kp : Nat → Nat} {fr : Nat → Bool} (hfr : ∀ g, g < n → fr g = (A.testBit g && b.testBit g)) {kk : Int32 → St → Option (Int32 × St)} : ∀ (fu f m : Nat) (lf : Nat → Nat) (s : St), (∀ g, g < n → lf g ≤ 9 ∧ kp g < n) → s.1 67 0 = nI n → s.1 67 23 = nI b → s.1 78 1 = nI A → (∀ g, g < n → s.1 78 (2 + g) = nI (lf g) ∧ s.1 78 (8 + g) = nI (kp g)) → f ≤ n → n < fu + f → ∃ s', M_X7_goesBy_L85 kk fu (nI m) (nI f) s = kk (nI (m2 n A kp fr (n - f) f lf m).2) s' ∧ Ex (fun q => q = 78) s s' ∧ (∀ g, g < n → s'.1 78 (2 + g) = nI ((m2 n A kp fr (n - f) f lf m).1 g)) ∧ ∀ i, i < 2 ∨ 8 ≤ i → s'.1 78 i = s.1 78 i
  | 0, f, m, lf, s, _, _, _, _, _, h1, h2 => absurd h2 (by omega)
  | fu + 1, f, m, lf, s, hlf, h0, h23, hA1, hl, h1, h2 => by
    rw [M_X7_goesBy_L85, h0]
    simp only [nl_0, nl_1, nl_2, nl_3, nl_4, nl_5, nl_6, nl_7, nl_8, nl_9, nl_10, nl_14, nl_20, nl_30, nl_32, nl_48, nl_57, nl_59, nl_60, nl_64, nl_99, nl_100, nl_102, nl_126, nl_140, nl_147, nl_181, nl_255, nl_999]
    by_cases hf : f = n
    · subst hf
      rw [i_le_t (Nat.le_refl _) (by omega), Nat.sub_self]
      exact ⟨s, rfl, Ex.rf, fun g hg => (hl g hg).1, fun i _ => rfl⟩
    · have hf2 : f < n := by omega
      have hm : M_X7_mowsOther (nI f) s = if fr f then (match fnd (mfp A kp lf f) n 0 with
            | some j => some (nI 1, up s 78 (2 + j) (nI (lf j - 1)))
            | none => some (nI 0, s)) else some (nI 0, s) := by
        unfold M_X7_mowsOther
        simp only [nl_0, nl_1, nl_2, nl_3, nl_4, nl_5, nl_6, nl_7, nl_8, nl_9, nl_10, nl_14, nl_20, nl_30, nl_32, nl_48, nl_57, nl_59, nl_60, nl_64, nl_99, nl_100, nl_102, nl_126, nl_140, nl_147, nl_181, nl_255, nl_999]
        rw [rd_nI (by decide) (by decide), hA1, has_m (by omega) (by omega), cl_some, h23, hfr f hf2]
        by_cases hbA : A.testBit f = true
        · rw [if_pos hbA, i_eq_f (by decide) (by decide) (by decide), has_m (by omega) (by omega), cl_some]
          by_cases hbb : b.testBit f = true
          · rw [if_pos hbb, i_eq_f (by decide) (by decide) (by decide), if_pos (by simp [hbA, hbb])]
            exact oth_m hn hA (by omega) hlf h0 hA1 hl 400 0 (by omega) (by omega)
          · rw [if_neg hbb, i_eq_t rfl, if_neg (by simp [hbb])]
        · rw [if_neg hbA, i_eq_t rfl, if_neg (by simp [hbA])]
      rw [i_le_f hf2 (by omega), hm, show n - f = (n - (f + 1)) + 1 by omega]
      unfold m2
      by_cases hb2 : fr f = true
      · rw [hb2]
        simp only [if_true]
        cases hq : fnd (mfp A kp lf f) n 0 with
        | some j =>
          have hj := (fnd_some hq)
          have hj2 : j < n := by omega
          have hbj := hlf j hj2
          simp only [cl_some]
          rw [nP, nP]
          obtain ⟨s', e1, e2, e3, e4⟩ := oth_loop hn hA hb hfr (kk := kk) fu (f + 1) (m + 1) (va_up lf j (lf j - 1)) (up s 78 (2 + j) (nI (lf j - 1))) (fun g hg => ⟨by unfold va_up; have := hlf g hg; split <;> omega, (hlf g hg).2⟩) (by rw [up_c (by decide)]; exact h0) (by rw [up_c (by decide)]; exact h23) (by rw [up_i (by omega)]; exact hA1) (fun g hg => ⟨by
            by_cases hgj : g = j
            · subst hgj; rw [up_s]; simp [va_up]
            · rw [up_i (by omega), (hl g hg).1]; simp [va_up, hgj], by rw [up_i (by omega)]; exact (hl g hg).2⟩) (by omega) (by omega)
          exact ⟨s', e1, Ex.u1.tr1 e2, e3, fun i hi => by rw [e4 i hi, up_i (by omega)]⟩
        | none =>
          simp only [cl_some]
          rw [nP, nP, Nat.add_zero]
          exact oth_loop hn hA hb hfr (kk := kk) fu (f + 1) m lf s hlf h0 h23 hA1 hl (by omega) (by omega)
      · rw [if_neg hb2, if_neg hb2, cl_some, nP, nP, Nat.add_zero]
        exact oth_loop hn hA hb hfr (kk := kk) fu (f + 1) m lf s hlf h0 h23 hA1 hl (by omega) (by omega)
/-- the reference: a day -/
theorem goes_m {a : Ab} (ok : okA a) {c : Sc} (hc : wf (aN a) c) (hD : cD c < 80000) {s : St} (hx : mN a s) (hs : stAt s 78 0 (aN a) c) (d : Bool) : ∃ s', M_X7_goesBy (nI (if d then 1 else 0)) s = some (nI (pas (aN a) (aS a) (aV a) d c).1, s') ∧ Ex (fun q => q = 67 ∨ q = 78) s s' ∧ (∀ i, i ≠ 23 → s'.1 67 i = s.1 67 i) ∧ stAt s' 78 0 (aN a) (pas (aN a) (aS a) (aV a) d c).2 := by
  have hn := ok.1
  generalize hAA : ask (aN a) (aS a) (aV a) (cA c) (cD c) = A'
  have hA' : A' < 2 ^ aN a := by rw [← hAA]; exact ask_lt hc.2.1
  have hA6 : A' < 64 := Nat.lt_of_lt_of_le hA' (pow6 hn)
  obtain ⟨s2, e1, e2, e3, e4⟩ := ask_m ok hc.2.1 (by omega) hx hs.1 hs.2.1
  rw [hAA] at e3
  have q0 : s2.1 78 0 = nI (cD c) := by rw [e4 0 (by decide)]; exact hs.1
  have q3 : ∀ g, g < aN a → s2.1 78 (2 + g) = nI (cL c g) ∧ s2.1 78 (8 + g) = nI (cK c g) := fun g hg => by
    have := hs.2.2 g hg
    rw [e4 _ (by omega), e4 _ (by omega)]
    simpa using this
  have q67 : s2.1 67 = s.1 67 := e2.1 67 (by omega)
  unfold M_X7_goesBy
  rw [e1, cl_some]
  simp only [nl_0, nl_1, nl_2, nl_3, nl_4, nl_5, nl_6, nl_7, nl_8, nl_9, nl_10, nl_14, nl_20, nl_30, nl_32, nl_48, nl_57, nl_59, nl_60, nl_64, nl_99, nl_100, nl_102, nl_126, nl_140, nl_147, nl_181, nl_255, nl_999, jn, pu]
  cases d with
  | false =>
    rw [i_eq_f (by decide) (by decide) (by decide), rd_nI (by decide) (by decide), q0, nP, wr_nI (by decide) (by decide)]
    refine ⟨up s2 78 0 (nI (cD c + 1)), rfl, (e2.mono (fun q hq => Or.inr hq)).tr1 (Ex.u2 (Or.inr rfl)), fun i hi => by rw [up_c (by decide), q67], up_s, ?_, fun g hg => ?_⟩
    · rw [up_i (by decide)]; show s2.1 78 1 = nI (ask _ _ _ _ _); rw [hAA]; exact e3
    · rw [up_i (by omega), up_i (by omega), show 0 + 2 + g = 2 + g by omega, show 0 + 8 + g = 8 + g by omega]
      exact q3 g hg
  | true =>
    rw [i_eq_t (a := if true = true then 1 else 0) (b := 1) rfl]
    obtain ⟨b', s14, b1, b2, b3, b4, b5, b6⟩ := bare_m hn (fun g hg => (hc.2.2 g hg).1) (x2 := nI 0) (kk := fun s14 => M_X7_goesBy_L61 (fun v17 s18 => M_X7_goesBy_L85 (fun v21 s22 => rd s22 78 14 (nI 0) fun v6 => wr s22 78 14 (nI 0) (v6 + nI 1) fun s7 => some (v21, s7)) 400 v17 (nI 0) s18) 400 (nI 0) (nI 0) s14) 400 0 0 (up s2 67 23 (nI 0)) (by rw [up_i (by decide), q67]; exact hx.1) up_s (fun g hg => by rw [up_c (by decide)]; exact (q3 g hg).1) (by omega) (by omega) (Nat.two_pow_pos _)
    rw [b1]
    have c78 : s14.1 78 = s2.1 78 := by rw [b5.1 78 (by omega), up_c (by decide)]
    obtain ⟨s18, c1, c2, c3, c4⟩ := own_loop hn hA6 (fun g hg => (hc.2.2 g hg).1) (kk := fun v17 s18 => M_X7_goesBy_L85 (fun v21 s22 => rd s22 78 14 (nI 0) fun v6 => wr s22 78 14 (nI 0) (v6 + nI 1) fun s7 => some (v21, s7)) 400 v17 (nI 0) s18) 400 0 0 s14 (by rw [b6 0 (by decide), up_i (by decide), q67]; exact hx.1) (by rw [c78]; exact e3) (fun g _ hg => by rw [c78]; exact (q3 g hg).1) (by omega) (by omega)
    rw [c1, Nat.zero_add, Nat.sub_zero]
    obtain ⟨s22, d1, d2, d3, d4⟩ := oth_loop hn hA6 (Nat.lt_of_lt_of_le b3 (pow6 hn)) (kp := cK c) (fr := fun f => A'.testBit f && decide (cL c f = 0)) (fun g hg => by rw [b4 g hg]; simp) (kk := fun v21 s22 => rd s22 78 14 (nI 0) fun v6 => wr s22 78 14 (nI 0) (v6 + nI 1) fun s7 => some (v21, s7)) 400 0 (ctR (fun g => A'.testBit g && decide (cL c g ≠ 0)) (aN a) 0) (m1 A' (cL c)) s18 (fun g hg => ⟨by unfold m1; have := (hc.2.2 g hg).1; split <;> omega, (hc.2.2 g hg).2⟩) (by rw [c2.1 67 (by omega), b6 0 (by decide), up_i (by decide), q67]; exact hx.1) (by rw [c2.1 67 (by omega)]; exact b2) (by rw [c4 1 (by omega), c78]; exact e3) (fun g hg => ⟨c3 g (by omega) hg, by rw [c4 _ (by omega), c78]; exact (q3 g hg).2⟩) (by omega) (by omega)
    rw [d1, Nat.sub_zero]
    have f0 : s22.1 78 0 = nI (cD c) := by rw [d4 0 (by omega), c4 0 (by omega), c78]; exact q0
    rw [rd_nI (by decide) (by decide), f0, nP, wr_nI (by decide) (by decide)]
    have hpas : pas (aN a) (aS a) (aV a) true c = ((mow (aN a) A' (cK c) (cL c)).2, (cD c + 1, A', (mow (aN a) A' (cK c) (cL c)).1, cK c)) := by unfold pas; rw [hAA]; rfl
    rw [hpas]
    refine ⟨up s22 78 0 (nI (cD c + 1)), rfl, ?_, fun i hi => ?_, up_s, ?_, fun g hg => ⟨?_, ?_⟩⟩
    · have E1 : Ex (fun q => q = 67 ∨ q = 78) s s2 := e2.mono (fun q hq => by omega)
      have E2 : Ex (fun q => q = 67 ∨ q = 78) s2 (up s2 67 23 (nI 0)) := Ex.u2 (by omega)
      have E3 : Ex (fun q => q = 67 ∨ q = 78) (up s2 67 23 (nI 0)) s14 := b5.mono (fun q hq => by omega)
      have E4 : Ex (fun q => q = 67 ∨ q = 78) s14 s22 := (c2.tr1 d2).mono (fun q hq => by omega)
      have E5 : Ex (fun q => q = 67 ∨ q = 78) s22 (up s22 78 0 (nI (cD c + 1))) := Ex.u2 (by omega)
      exact (((E1.tr1 E2).tr1 E3).tr1 E4).tr1 E5
    · rw [up_c (by decide), d2.1 67 (by omega), c2.1 67 (by omega), b6 i hi, up_i hi, q67]
    · rw [up_i (by decide), d4 1 (by omega), c4 1 (by omega), c78]; exact e3
    · rw [up_i (by omega), show 0 + 2 + g = 2 + g by omega, d3 g hg, Nat.sub_zero]; rfl
    · rw [up_i (by omega), show 0 + 8 + g = 8 + g by omega, d4 _ (by omega), c4 _ (by omega), c78]; exact (q3 g hg).2
