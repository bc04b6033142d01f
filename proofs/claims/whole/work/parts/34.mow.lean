theorem dle {f g : Nat} (h : g ≠ f) : decide (f ≤ g) = decide (f + 1 ≤ g) := decide_eq_decide.mpr (by omega)
theorem ctR_s {p : Nat → Bool} {n f : Nat} (h : f < n) : ctR p (n - f) f = (if p f then 1 else 0) + ctR p (n - (f + 1)) (f + 1) := by
  rw [show n - f = (n - (f + 1)) + 1 by omega]; rfl
/-- the class: each mows his own -/
theorem mow1_x {n A k : Nat} (hn : n ≤ 6) (hA : A < 64) (hk : 9 < k) {lf : Nat → Nat} (hlf : ∀ g, g < n → lf g ≤ 9) {kk : Int32 → Int32 → St → Option (Int32 × St)} : ∀ (fu f free m : Nat) (s : St), s.1 9 0 = nI n → s.1 k 2 = nI A → (∀ g, f ≤ g → g < n → s.1 (k + 1) g = nI (lf g)) → f ≤ n → n < fu + f → free < 2 ^ n → ∃ free' s', M_X3_mowAll_L6 k kk fu (nI free) (nI m) (nI f) s = kk (nI free') (nI (m + ctR (fun g => A.testBit g && decide (lf g ≠ 0)) (n - f) f)) s' ∧ free' < 2 ^ n ∧ (∀ g, g < n → free'.testBit g = (free.testBit g || (decide (f ≤ g) && (A.testBit g && decide (lf g = 0))))) ∧ Ex (fun q => q = k + 1) s s' ∧ (∀ g, f ≤ g → g < n → s'.1 (k + 1) g = nI (m1 A lf g)) ∧ ∀ g, g < f → s'.1 (k + 1) g = s.1 (k + 1) g
  | 0, f, free, m, s, _, _, _, h1, h2, _ => absurd h2 (by omega)
  | fu + 1, f, free, m, s, h9, hkA, hl, h1, h2, hfr => by
    rw [M_X3_mowAll_L6, h9]
    simp only [nl_0, nl_1, nl_2, nl_3, nl_4, nl_5, nl_6, nl_7, nl_8, nl_9, nl_10, nl_14, nl_20, nl_30, nl_32, nl_48, nl_57, nl_59, nl_60, nl_64, nl_99, nl_100, nl_102, nl_126, nl_140, nl_147, nl_181, nl_255, nl_999, jn]
    by_cases hf : f = n
    · subst hf
      rw [i_le_t (Nat.le_refl _) (by omega), Nat.sub_self]
      exact ⟨free, s, rfl, hfr, fun g hg => by simp [show ¬ f ≤ g by omega], Ex.rf, fun g h3 h4 => by omega, fun g _ => rfl⟩
    · have hf2 : f < n := by omega
      have h6 : free < 64 := Nat.lt_of_lt_of_le hfr (pow6 hn)
      have hlf2 := hlf f hf2
      rw [i_le_f hf2 (by omega), asked_x hkA hA (by omega), cl_some, ctR_s hf2]
      by_cases hb : A.testBit f = true
      · rw [if_pos hb, i_eq_f (by decide) (by decide) (by decide), rd_nI (by omega) (by decide), hl f (Nat.le_refl _) hf2]
        by_cases h0 : lf f = 0
        · rw [i_le_t (by omega) (by decide), bt_or1 h6 (by omega), nP]
          obtain ⟨free', s', e1, e2, e3, e4, e5, e6⟩ := mow1_x hn hA hk hlf (kk := kk) fu (f + 1) (free ||| 2 ^ f) m s h9 hkA (fun g h3 h4 => hl g (by omega) h4) (by omega) (by omega) (or_lt hfr hf2)
          refine ⟨free', s', ?_, e2, fun g hg => ?_, e4, fun g h3 h4 => ?_, fun g h3 => e6 g (by omega)⟩
          · rw [e1]; simp [h0]
          · rw [e3 g hg, Nat.testBit_or, Nat.testBit_two_pow]
            by_cases hgf : g = f
            · subst hgf; simp [hb, h0]
            · rw [dle hgf]; simp [Ne.symm hgf]
          · by_cases hgf : g = f
            · subst hgf
              rw [e6 g (by omega), hl g (Nat.le_refl _) h4]; simp [m1, h0]
            · exact e5 g (by omega) h4
        · rw [i_le_f (by omega) (by omega), rd_nI (by omega) (by decide), hl f (Nat.le_refl _) hf2, nS (by omega), wr_nI (by omega) (by decide), nP, nP]
          obtain ⟨free', s', e1, e2, e3, e4, e5, e6⟩ := mow1_x hn hA hk hlf (kk := kk) fu (f + 1) free (m + 1) (up s (k + 1) f (nI (lf f - 1))) (by rw [up_c (by omega)]; exact h9) (by rw [up_c (by omega)]; exact hkA) (fun g h3 h4 => by rw [up_i (by omega)]; exact hl g (by omega) h4) (by omega) (by omega) hfr
          refine ⟨free', s', ?_, e2, fun g hg => ?_, Ex.u1.tr1 e4, fun g h3 h4 => ?_, fun g h3 => by rw [e6 g (by omega), up_i (by omega)]⟩
          · rw [e1]; congr 2; simp [hb, h0]; omega
          · rw [e3 g hg]
            by_cases hgf : g = f
            · subst hgf; simp [h0]
            · rw [dle hgf]
          · by_cases hgf : g = f
            · subst hgf
              rw [e6 g (by omega), up_s]; simp [m1, h0, hb]
            · exact e5 g (by omega) h4
      · rw [if_neg hb, i_eq_t rfl, nP]
        obtain ⟨free', s', e1, e2, e3, e4, e5, e6⟩ := mow1_x hn hA hk hlf (kk := kk) fu (f + 1) free m s h9 hkA (fun g h3 h4 => hl g (by omega) h4) (by omega) (by omega) hfr
        refine ⟨free', s', ?_, e2, fun g hg => ?_, e4, fun g h3 h4 => ?_, fun g h3 => e6 g (by omega)⟩
        · rw [e1]; simp [hb]
        · rw [e3 g hg]
          by_cases hgf : g = f
          · subst hgf; simp [hb]
          · rw [dle hgf]
        · by_cases hgf : g = f
          · subst hgf
            rw [e6 g (by omega), hl g (Nat.le_refl _) h4]; simp [m1, hb]
          · exact e5 g (by omega) h4
/-- the class: one mows another's -/
theorem mfo_x {n A k f : Nat} (hn : n ≤ 6) (hA : A < 64) (hf : f < 6) (hk : 9 < k) {kp lf : Nat → Nat} (hlf : ∀ g, g < n → lf g ≤ 9 ∧ kp g < n) {s : St} (h9 : s.1 9 0 = nI n) (hkA : s.1 k 2 = nI A) (hl : ∀ g, g < n → s.1 (k + 1) g = nI (lf g) ∧ s.1 (k + 2) g = nI (kp g)) : ∀ (fu g : Nat), g ≤ n → n < fu + g → M_X3_mowsForAnother_L2 k (nI f) (fun s9 => some (nI 0, s9)) fu (nI g) s = match fnd (mfp A kp lf f) (n - g) g with
    | some j => some (nI 1, up s (k + 1) j (nI (lf j - 1)))
    | none => some (nI 0, s)
  | 0, g, h1, h2 => absurd h2 (by omega)
  | fu + 1, g, h1, h2 => by
    rw [M_X3_mowsForAnother_L2, h9]
    simp only [nl_0, nl_1, nl_2, nl_3, nl_4, nl_5, nl_6, nl_7, nl_8, nl_9, nl_10, nl_14, nl_20, nl_30, nl_32, nl_48, nl_57, nl_59, nl_60, nl_64, nl_99, nl_100, nl_102, nl_126, nl_140, nl_147, nl_181, nl_255, nl_999, jn]
    by_cases hg : g = n
    · subst hg
      rw [i_le_t (Nat.le_refl _) (by omega), Nat.sub_self]; rfl
    · have hg2 : g < n := by omega
      have hb := hlf g hg2
      have hs := hl g hg2
      rw [i_le_f hg2 (by omega), rd_nI (by omega) (by decide), hs.2, show n - g = (n - (g + 1)) + 1 by omega]
      unfold fnd
      by_cases hkf : kp g = f
      · rw [i_eq_t hkf, asked_x hkA hA (by omega), cl_some]
        by_cases hbt : A.testBit g = true
        · rw [if_pos hbt, i_eq_f (by decide) (by decide) (by decide), rd_nI (by omega) (by decide), hs.1]
          by_cases h0 : lf g = 0
          · rw [i_le_t (by omega) (by decide), nP, mfo_x hn hA hf hk hlf h9 hkA hl fu (g + 1) (by omega) (by omega), if_neg (by simp [mfp, h0])]
          · rw [i_le_f (by omega) (by omega), rd_nI (by omega) (by decide), hs.1, nS (by omega), wr_nI (by omega) (by decide), if_pos (by simp [mfp, h0, hkf, hbt])]
        · rw [if_neg hbt, i_eq_t rfl, nP, mfo_x hn hA hf hk hlf h9 hkA hl fu (g + 1) (by omega) (by omega), if_neg (by simp [mfp, hbt])]
      · rw [i_eq_f hkf (by omega) (by omega), nP, mfo_x hn hA hf hk hlf h9 hkA hl fu (g + 1) (by omega) (by omega), if_neg (by simp [mfp, hkf])]
theorem mow2_x {n A k free : Nat} (hn : n ≤ 6) (hA : A < 64) (hk : 9 < k) (hfr : free < 64) {kp : Nat → Nat} {fr : Nat → Bool} (hfr2 : ∀ g, g < n → free.testBit g = fr g) {kk : Int32 → St → Option (Int32 × St)} : ∀ (fu f m : Nat) (lf : Nat → Nat) (s : St), (∀ g, g < n → lf g ≤ 9 ∧ kp g < n) → s.1 9 0 = nI n → s.1 k 2 = nI A → (∀ g, g < n → s.1 (k + 1) g = nI (lf g) ∧ s.1 (k + 2) g = nI (kp g)) → f ≤ n → n < fu + f → ∃ s', M_X3_mowAll_L64 k (nI free) kk fu (nI m) (nI f) s = kk (nI (m2 n A kp fr (n - f) f lf m).2) s' ∧ Ex (fun q => q = k + 1) s s' ∧ ∀ g, g < n → s'.1 (k + 1) g = nI ((m2 n A kp fr (n - f) f lf m).1 g)
  | 0, f, m, lf, s, _, _, _, _, h1, h2 => absurd h2 (by omega)
  | fu + 1, f, m, lf, s, hlf, h9, hkA, hl, h1, h2 => by
    rw [M_X3_mowAll_L64, h9]
    simp only [nl_0, nl_1, nl_2, nl_3, nl_4, nl_5, nl_6, nl_7, nl_8, nl_9, nl_10, nl_14, nl_20, nl_30, nl_32, nl_48, nl_57, nl_59, nl_60, nl_64, nl_99, nl_100, nl_102, nl_126, nl_140, nl_147, nl_181, nl_255, nl_999, jn]
    by_cases hf : f = n
    · subst hf
      rw [i_le_t (Nat.le_refl _) (by omega), Nat.sub_self]
      exact ⟨s, rfl, Ex.rf, fun g hg => (hl g hg).1⟩
    · have hf2 : f < n := by omega
      rw [i_le_f hf2 (by omega), bt_at1 (by omega) (by omega), hfr2 f hf2, show n - f = (n - (f + 1)) + 1 by omega]
      unfold m2
      by_cases hb : fr f = true
      · rw [hb]
        simp only [if_true]
        have hm : M_X3_mowsForAnother k (nI f) s = match fnd (mfp A kp lf f) n 0 with
            | some j => some (nI 1, up s (k + 1) j (nI (lf j - 1)))
            | none => some (nI 0, s) := by
          unfold M_X3_mowsForAnother
          exact mfo_x hn hA (by omega) hk hlf h9 hkA hl 400 0 (by omega) (by omega)
        rw [hm]
        cases hq : fnd (mfp A kp lf f) n 0 with
        | some j =>
          have hj := (fnd_some hq)
          have hj2 : j < n := by omega
          have hbj := hlf j hj2
          simp only [cl_some]
          rw [i_eq_f (by decide) (by decide) (by decide), nP, nP]
          obtain ⟨s', e1, e2, e3⟩ := mow2_x hn hA hk hfr hfr2 (kk := kk) fu (f + 1) (m + 1) (va_up lf j (lf j - 1)) (up s (k + 1) j (nI (lf j - 1))) (fun g hg => ⟨by unfold va_up; have := hlf g hg; split <;> omega, (hlf g hg).2⟩) (by rw [up_c (by omega)]; exact h9) (by rw [up_c (by omega)]; exact hkA) (fun g hg => ⟨by
            by_cases hgj : g = j
            · subst hgj; rw [up_s]; simp [va_up]
            · rw [up_i hgj, (hl g hg).1]; simp [va_up, hgj], by rw [up_c (by omega)]; exact (hl g hg).2⟩) (by omega) (by omega)
          exact ⟨s', e1, Ex.u1.tr1 e2, e3⟩
        | none =>
          simp only [cl_some]
          rw [if_pos trivial, nP]
          exact mow2_x hn hA hk hfr hfr2 (kk := kk) fu (f + 1) m lf s hlf h9 hkA hl (by omega) (by omega)
      · rw [show fr f = false by simpa using hb]
        simp only [Bool.false_eq_true, if_false]
        rw [i_eq_f (by decide) (by decide) (by decide), nP]
        exact mow2_x hn hA hk hfr hfr2 (kk := kk) fu (f + 1) m lf s hlf h9 hkA hl (by omega) (by omega)
/-- the class: a day -/
theorem pass_x {a : Ab} (ok : okA a) {k : Nat} (hk : 15 ≤ k) {c : Sc} (hc : wf (aN a) c) (hD : cD c < 80000) {s : St} (hx : xN a s) (hs : scAt s k (aN a) c) (d : Bool) : ∃ s', M_X3_pass k (nI (if d then 1 else 0)) s = some (nI (pas (aN a) (aS a) (aV a) d c).1, s') ∧ Ex (fun q => q = k ∨ q = k + 1) s s' ∧ scAt s' k (aN a) (pas (aN a) (aS a) (aV a) d c).2 := by
  have hn := ok.1
  have hA' : ask (aN a) (aS a) (aV a) (cA c) (cD c) < 2 ^ aN a := ask_lt hc.2.1
  have hA6 : ask (aN a) (aS a) (aV a) (cA c) (cD c) < 64 := Nat.lt_of_lt_of_le hA' (pow6 hn)
  unfold M_X3_pass
  rw [hs.1, hs.2.1, ask_x ok hc.2.1 (by omega) hx, cl_some]
  simp only [pu]
  rw [up_i (b := 1) (by decide), hs.1, show nI (cD c) + 1 = nI (cD c + 1) from nP]
  generalize hs4 : up (up s k 2 (nI (ask (aN a) (aS a) (aV a) (cA c) (cD c)))) k 1 (nI (cD c + 1)) = s4
  have e4 : Ex (fun q => q = k) s s4 := by rw [← hs4]; exact Ex.u1.tr1 Ex.u1
  have q1 : s4.1 k 1 = nI (cD c + 1) := by rw [← hs4, up_s]
  have q2 : s4.1 k 2 = nI (ask (aN a) (aS a) (aV a) (cA c) (cD c)) := by rw [← hs4, up_i (by decide), up_s]
  have q3 : ∀ g, g < aN a → s4.1 (k + 1) g = nI (cL c g) ∧ s4.1 (k + 2) g = nI (cK c g) := fun g hg => by rw [e4.1 (k + 1) (by omega), e4.1 (k + 2) (by omega)]; exact hs.2.2 g hg
  have q9 : s4.1 9 0 = nI (aN a) := by rw [e4.1 9 (by omega)]; exact hx.1
  cases d with
  | false =>
    refine ⟨s4, rfl, e4.mono (fun q hq => Or.inl hq), q1, q2, q3⟩
  | true =>
    obtain ⟨free, s5, e1, e2, e3, e5, e6, -⟩ := mow1_x hn hA6 (by omega) (fun g hg => (hc.2.2 g hg).1) (kk := fun v10 v11 s12 => M_X3_mowAll_L64 k v10 (fun v18 s19 => some (v18, s19)) 400 v11 0 s12) 400 0 0 0 s4 q9 q2 (fun g _ hg => (q3 g hg).1) (by omega) (by omega) (Nat.two_pow_pos _)
    obtain ⟨s6, g1, g2, g3⟩ := mow2_x hn hA6 (k := k) (by omega) (Nat.lt_of_lt_of_le e2 (pow6 hn)) (kp := cK c) (fr := fun f => (ask (aN a) (aS a) (aV a) (cA c) (cD c)).testBit f && decide (cL c f = 0)) (fun g hg => by rw [e3 g hg]; simp) (kk := fun v18 s19 => some (v18, s19)) 400 0 (ctR (fun g => (ask (aN a) (aS a) (aV a) (cA c) (cD c)).testBit g && decide (cL c g ≠ 0)) (aN a) 0) (m1 (ask (aN a) (aS a) (aV a) (cA c) (cD c)) (cL c)) s5 (fun g hg => ⟨by unfold m1; have := (hc.2.2 g hg).1; split <;> omega, (hc.2.2 g hg).2⟩) (by rw [e5.1 9 (by omega)]; exact q9) (by rw [e5.1 k (by omega)]; exact q2) (fun g hg => ⟨e6 g (by omega) hg, by rw [e5.1 (k + 2) (by omega)]; exact (q3 g hg).2⟩) (by omega) (by omega)
    have hmow : M_X3_mowAll k s4 = some (nI (mow (aN a) (ask (aN a) (aS a) (aV a) (cA c) (cD c)) (cK c) (cL c)).2, s6) := by
      unfold M_X3_mowAll
      rw [show (0 : Int32) = nI 0 from rfl] at *
      rw [e1]
      show M_X3_mowAll_L64 k (nI free) (fun v18 s19 => some (v18, s19)) 400 (nI (0 + ctR _ (aN a - 0) 0)) (nI 0) s5 = _
      rw [Nat.zero_add, Nat.sub_zero, g1, Nat.sub_zero]; rfl
    refine ⟨s6, ?_, (e4.mono (fun q hq => Or.inl hq)).tr1 ((e5.tr1 g2).mono (fun q hq => Or.inr hq)), ?_, ?_, fun g hg => ⟨g3 g hg, ?_⟩⟩
    · rw [if_neg (by decide), hmow, cl_some]; rfl
    · rw [g2.1 k (by omega), e5.1 k (by omega)]; exact q1
    · rw [g2.1 k (by omega), e5.1 k (by omega)]; exact q2
    · rw [g2.1 (k + 2) (by omega), e5.1 (k + 2) (by omega)]; exact (q3 g hg).2
