def atX (s : St) (n : Nat) (D : Nat → Nat → Nat) : Prop := ∀ g, g < n → ∀ j, j < 5 → s.1 (4 + j) g = nI (D g j)
def rsX (r : Nat ⊕ (Nat × Nat × (Nat → Nat → Nat))) (s : St) : Prop := match r with
  | .inl e => s.1 1 3 = nI e
  | .inr (n, e, D) => s.1 1 3 = nI e ∧ s.1 3 0 = nI n ∧ atX s n D
theorem XB.frame {T : List Nat} {t : Tk} {s : St} (h : XB T t s) {s0 : St} (h0 : tX T s0) : s.1 1 1 = s0.1 1 1 := by rw [h.1.1, h0.1]
theorem l16 {T : List Nat} (hT : okX T) {kk : St → Option (Int32 × St)} : ∀ (fu i : Nat) (t : Tk) (D : Nat → Nat → Nat) (s : St), XB T t s → s.1 3 0 = nI i → i ≤ 6 → atX s i D → 8 < fu + i → ∃ s', M_X5_tells_L16 3 kk fu (nI i) s = (match ps T (7 - i) i t D with
      | .inl _ => some (0, s')
      | .inr _ => kk s') ∧ Ex (fun q => q = 1 ∨ (3 ≤ q ∧ q ≤ 8)) s s' ∧ tX T s' ∧ rsX (ps T (7 - i) i t D) s'
  | 0, i, t, D, s, _, _, h1, _, h2 => absurd h2 (by omega)
  | fu + 1, i, t, D, s, h, h30, h1, hD, h2 => by
    have hk4 := h.2.1.2.1
    rw [M_X5_tells_L16, h.2.2.2.2.1, show 7 - i = (6 - i) + 1 by omega, ps_s]
    simp only [nl_0, nl_1, nl_2, nl_3, nl_4, nl_5, nl_6, nl_7, nl_8, nl_9, nl_10, nl_14, nl_20, nl_30, nl_32, nl_48, nl_57, nl_59, nl_60, nl_64, nl_99, nl_100, nl_102, nl_126, nl_140, nl_147, nl_181, nl_255, nl_999]
    rw [i_le_f (by omega) (by omega)]
    by_cases h0 : kK t = 0
    · rw [i_eq_t h0, if_pos h0]
      exact ⟨s, rfl, Ex.rf, h.1, h.2.2.2.1, h30, hD⟩
    · rw [i_eq_f h0 (by omega) (by decide), if_neg h0]
      by_cases hi : i = 6
      · rw [i_le_t (by omega) (by omega), if_neg (by omega)]
        exact ⟨s, rfl, Ex.rf, h.1, h.2.2.2.1⟩
      · rw [i_le_f (by omega) (by omega)]
        by_cases hc : kK t = 1
        · rw [if_pos ⟨hc, by omega⟩]
          obtain ⟨s1, a1, a2, a3, a4, a5⟩ := one_x hT (i := i) (by omega) hc h
          rw [a1, cl_some]
          have A2 : Ex (fun q => q = 1 ∨ (3 ≤ q ∧ q ≤ 8)) s s1 := a2.mono (fun q hq => by omega)
          by_cases hg : (q5 T i (tok T (kP t))).1 = false ∧ kK (q5 T i (tok T (kP t))).2 = 3
          · have hgi : goodI T i (tok T (kP t)) = true := decide_eq_true hg
            rw [if_pos hg, hgi, show nI (b1 true) = nI 1 from rfl, i_eq_f (by decide) (by decide) (by decide), pu_b, nP]
            obtain ⟨s2, b1', b2, b3⟩ := stepB hT (a3.up3 (k := 3) (i := 0) (v := nI (i + 1)) (by omega))
            rw [show M_X5_step (up s1 3 0 (nI (i + 1))) = some (nI 0, s2) from b1', cl_some]
            obtain ⟨s3, c1, c2, c3, c4⟩ := l16 hT (kk := kk) fu (i + 1) _ (va_up D i (vls T (tok T (kP t)))) s2 b3 (by rw [b2.1 3 (by decide), up_s]) (by omega) (fun g hg j hj => by
              rw [b2.1 (4 + j) (by omega), up_c (by omega)]
              by_cases hgi2 : g = i
              · subst hgi2; rw [va_up_self]; exact a4 hgi j hj
              · rw [va_up_ne _ _ hgi2, a5 g hgi2 j hj]; exact hD g (by omega) j hj) (by omega)
            rw [show 7 - (i + 1) = 6 - i by omega] at c1 c4
            exact ⟨s3, c1, ((A2.tr1 (Ex.u2 (by omega))).tr1 (b2.mono (fun q hq => by omega))).tr1 c2, c3, c4⟩
          · have hgi : goodI T i (tok T (kP t)) = false := decide_eq_false hg
            rw [if_neg hg, hgi, show nI (b1 false) = nI 0 from rfl, i_eq_t rfl]
            exact ⟨s1, rfl, A2, a3.1, a3.2.2.2.1⟩
        · rw [if_neg (fun w => hc w.1)]
          have : M_X5_tellsOne 3 (nI i) s = some (nI 0, s) := by
            unfold M_X5_tellsOne
            simp only [nl_0, nl_1, nl_2, nl_3, nl_4, nl_5, nl_6, nl_7, nl_8, nl_9, nl_10, nl_14, nl_20, nl_30, nl_32, nl_48, nl_57, nl_59, nl_60, nl_64, nl_99, nl_100, nl_102, nl_126, nl_140, nl_147, nl_181, nl_255, nl_999, jn, if_true]
            rw [h.2.2.2.2.1, i_eq_f hc (by omega) (by decide)]
          rw [this, cl_some, i_eq_t rfl]
          exact ⟨s, rfl, Ex.rf, h.1, h.2.2.2.1⟩
theorem keep_x {n : Nat} (hn : n ≤ 6) {D : Nat → Nat → Nat} (hD : okD n D) {s : St} (h30 : s.1 3 0 = nI n) (hA : atX s n D) : ∀ (fu g : Nat), g ≤ n → n < fu + g → M_X1_keepersAreThere_L2 3 (fun s4 => some (1, s4)) fu (nI g) s = some (nI (b1 (alK D n (n - g) g)), s)
  | 0, g, h1, h2 => absurd h2 (by omega)
  | fu + 1, g, h1, h2 => by
    rw [M_X1_keepersAreThere_L2, h30]
    by_cases hg : g = n
    · subst hg
      rw [i_le_t (Nat.le_refl _) (by omega), Nat.sub_self]; rfl
    · have hd := (hD g (by omega)).2.2.2.2.1
      rw [i_le_f (by omega) (by omega), show 3 + 5 = 4 + 4 from rfl, rd_nI (by omega) (by decide), hA g (by omega) 4 (by omega), show n - g = (n - (g + 1)) + 1 by omega]
      unfold M_X1_has alK
      rw [h30, if_neg (nI_pos (by omega))]
      by_cases hk : D g 4 < n
      · rw [i_le_f hk (by omega), cl_some, if_neg (by decide), show nI g + 1 = nI (g + 1) from nP, keep_x hn hD h30 hA fu (g + 1) (by omega) (by omega), decide_eq_true hk, Bool.true_and]
      · rw [i_le_t (by omega) (by omega), cl_some, if_pos rfl, decide_eq_false hk, Bool.false_and]; rfl
theorem tells_x {a : Ab} (ok : okA a) {s : St} (hx : Rx a s) : ∃ s', Ex (fun q => q = 1 ∨ (3 ≤ q ∧ q ≤ 8)) s s' ∧ s'.1 1 1 = s.1 1 1 ∧ match vres (aX a) with
    | .inl e => M_X5_tells 3 s = some (0, s') ∧ s'.1 1 3 = nI e
    | .inr (n, D) => M_X5_tells 3 s = some (1, s') ∧ s'.1 3 0 = nI n ∧ atX s' n D := by
  have hT : okX (aX a) := okX_of ok.2.2.2.2.2.2
  have hx1 : tX (aX a) s := hx.2.2.2.2.2
  generalize hS0 : up (up s 1 2 (nI 0)) 3 0 (nI 0) = S0
  have E0 : Ex (fun q => q = 1 ∨ (3 ≤ q ∧ q ≤ 8)) s S0 := by rw [← hS0]; exact (Ex.u2 (by omega)).tr1 (Ex.u2 (by omega))
  have hs0 : tX (aX a) S0 := ⟨by rw [← hS0, up_c (by decide), up_i (by decide)]; exact hx1.1, fun i hi => by rw [E0.1 2 (by omega)]; exact hx1.2 i hi⟩
  obtain ⟨s1, a1, a2, a3, a4⟩ := step_x hT (Nat.zero_le _) hs0 (by rw [← hS0, up_c (by decide), up_s])
  have hXB : XB (aX a) (tok (aX a) 0) s1 := ⟨⟨by rw [a3]; exact hs0.1, fun i hi => by rw [a2.1 2 (by decide)]; exact hs0.2 i hi⟩, tok_ok hT (Nat.zero_le _), a4⟩
  obtain ⟨s2, b1', b2, b3, b4⟩ := l16 hT (kk := fun s10 => cl (M_X1_keepersAreThere 3 s10) fun r11 s12 => rz r11 s12) 400 0 _ (fun _ _ => 0) s1 hXB (by rw [a2.1 3 (by decide), ← hS0, up_s]) (by omega) (fun g hg => absurd hg (Nat.not_lt_zero g)) (by omega)
  have hpo : rsOk (pars (aX a)) := ps_ok hT 7 0 _ _ (tok_ok hT (Nat.zero_le _)) (by omega) (fun g hg => absurd hg (Nat.not_lt_zero g))
  have b4 : rsX (pars (aX a)) s2 := b4
  have b1' : M_X5_tells_L16 3 (fun s10 => cl (M_X1_keepersAreThere 3 s10) fun r11 s12 => rz r11 s12) 400 (nI 0) s1 = (match pars (aX a) with
      | .inl _ => some (0, s2)
      | .inr _ => cl (M_X1_keepersAreThere 3 s2) fun r11 s12 => rz r11 s12) := b1'
  have run : M_X5_tells 3 s = (match pars (aX a) with
      | .inl _ => some (0, s2)
      | .inr _ => cl (M_X1_keepersAreThere 3 s2) fun r11 s12 => rz r11 s12) := by
    rw [← b1']
    unfold M_X5_tells
    rw [pu_b, show (0 : Int32) = nI 0 from rfl, pu_b, hS0, show M_X5_step S0 = some (nI 0, s1) from a1, cl_some]
  have E2 : Ex (fun q => q = 1 ∨ (3 ≤ q ∧ q ≤ 8)) s s2 := (E0.tr1 (a2.mono (fun q hq => by omega))).tr1 b2
  refine ⟨s2, E2, by rw [b3.1, hx1.1], ?_⟩
  unfold vres
  match hp : pars (aX a), b4, hpo, run with
  | .inl e, b4, _, run => exact ⟨run, b4⟩
  | .inr (n, e, D), b4, hpo, run =>
    have hk : M_X1_keepersAreThere 3 s2 = some (nI (b1 (alK D n n 0)), s2) := by
      unfold M_X1_keepersAreThere
      exact keep_x hpo.1 hpo.2.2 b4.2.1 b4.2.2 400 0 (by omega) (by have := hpo.1; omega)
    have run : M_X5_tells 3 s = cl (M_X1_keepersAreThere 3 s2) fun r11 s12 => rz r11 s12 := run
    rw [hk, cl_some] at run
    dsimp only
    cases hal : alK D n n 0
    · rw [hal] at run
      exact ⟨run, b4.1⟩
    · rw [hal] at run
      exact ⟨run, b4.2⟩
/-! what is laid out then -/
theorem cp1 {kk : St → Option (Int32 × St)} : ∀ (fu j : Nat) (s : St), j ≤ 6 → 6 < fu + j → ∃ s', M_X1_copyFrom_L10 9 3 kk fu (nI j) s = kk s' ∧ Ex (fun q => 10 ≤ q ∧ q ≤ 14) s s' ∧ (∀ i, j ≤ i → i < 6 → ∀ q, q < 5 → s'.1 (10 + q) i = s.1 (4 + q) i) ∧ ∀ i, i < j → ∀ q, q < 5 → s'.1 (10 + q) i = s.1 (10 + q) i
  | 0, j, s, h1, h2 => absurd h2 (by omega)
  | fu + 1, j, s, h1, h2 => by
    rw [M_X1_copyFrom_L10, nl_6]
    by_cases hj : j = 6
    · subst hj
      rw [i_le_t (Nat.le_refl 6) (by decide)]
      exact ⟨s, rfl, Ex.rf, fun i h3 h4 => by omega, fun i _ q _ => rfl⟩
    · rw [i_le_f (by omega) (by decide), rd_nI (by omega) (by decide), wr_nI (by omega) (by decide), rd_nI (by omega) (by decide), wr_nI (by omega) (by decide), rd_nI (by omega) (by decide), wr_nI (by omega) (by decide), rd_nI (by omega) (by decide), wr_nI (by omega) (by decide), rd_nI (by omega) (by decide), wr_nI (by omega) (by decide), show nI j + 1 = nI (j + 1) from nP]
      simp only [show (9 : Nat) + 1 = 10 from rfl, show (9 : Nat) + 2 = 11 from rfl, show (9 : Nat) + 3 = 12 from rfl, show (9 : Nat) + 4 = 13 from rfl, show (9 : Nat) + 5 = 14 from rfl, show (3 : Nat) + 1 = 4 from rfl, show (3 : Nat) + 2 = 5 from rfl, show (3 : Nat) + 3 = 6 from rfl, show (3 : Nat) + 4 = 7 from rfl, show (3 : Nat) + 5 = 8 from rfl]
      rw [up_c (a := 5) (k := 10) (by decide), up_c (a := 6) (k := 11) (by decide), up_c (a := 6) (k := 10) (by decide), up_c (a := 7) (k := 12) (by decide), up_c (a := 7) (k := 11) (by decide), up_c (a := 7) (k := 10) (by decide), up_c (a := 8) (k := 13) (by decide), up_c (a := 8) (k := 12) (by decide), up_c (a := 8) (k := 11) (by decide), up_c (a := 8) (k := 10) (by decide)]
      generalize hS : up (up (up (up (up s 10 j (s.1 4 j)) 11 j (s.1 5 j)) 12 j (s.1 6 j)) 13 j (s.1 7 j)) 14 j (s.1 8 j) = S
      have E : Ex (fun q => 10 ≤ q ∧ q ≤ 14) s S := by
        rw [← hS]
        exact ((((Ex.u2 (by omega)).tr1 (Ex.u2 (by omega))).tr1 (Ex.u2 (by omega))).tr1 (Ex.u2 (by omega))).tr1 (Ex.u2 (by omega))
      have cS : ∀ q, q < 5 → S.1 (10 + q) j = s.1 (4 + q) j ∧ ∀ i, i ≠ j → S.1 (10 + q) i = s.1 (10 + q) i := by
        intro q hq
        rw [← hS]
        match q, hq with
        | 0, _ => exact ⟨by rw [up_c (by decide), up_c (by decide), up_c (by decide), up_c (by decide), up_s], fun i hi => by rw [up_c (by decide), up_c (by decide), up_c (by decide), up_c (by decide), up_i hi]⟩
        | 1, _ => exact ⟨by rw [up_c (by decide), up_c (by decide), up_c (by decide), up_s], fun i hi => by rw [up_c (by decide), up_c (by decide), up_c (by decide), up_i hi, up_c (by decide)]⟩
        | 2, _ => exact ⟨by rw [up_c (by decide), up_c (by decide), up_s], fun i hi => by rw [up_c (by decide), up_c (by decide), up_i hi, up_c (by decide), up_c (by decide)]⟩
        | 3, _ => exact ⟨by rw [up_c (by decide), up_s], fun i hi => by rw [up_c (by decide), up_i hi, up_c (by decide), up_c (by decide), up_c (by decide)]⟩
        | 4, _ => exact ⟨by rw [up_s], fun i hi => by rw [up_i hi, up_c (by decide), up_c (by decide), up_c (by decide), up_c (by decide)]⟩
      obtain ⟨s', e1, e2, e3, e4⟩ := cp1 (kk := kk) fu (j + 1) S (by omega) (by omega)
      refine ⟨s', e1, E.tr1 e2, fun i h3 h4 q hq => ?_, fun i h3 q hq => by rw [e4 i (by omega) q hq]; exact (cS q hq).2 i (by omega)⟩
      by_cases hi : i = j
      · subst hi; rw [e4 i (by omega) q hq]; exact (cS q hq).1
      · rw [e3 i (by omega) h4 q hq, E.1 (4 + q) (by omega)]
theorem bg3 {kk : St → Option (Int32 × St)} : ∀ (fu j : Nat) (s : St), j ≤ 6 → 6 < fu + j → ∃ s', M_X3_begin_L12 15 kk fu (nI j) s = kk s' ∧ Ex (fun q => q = 16 ∨ q = 17) s s' ∧ (∀ i, j ≤ i → i < 6 → s'.1 16 i = s.1 11 i ∧ s'.1 17 i = s.1 14 i) ∧ ∀ i, i < j → s'.1 16 i = s.1 16 i ∧ s'.1 17 i = s.1 17 i
  | 0, j, s, h1, h2 => absurd h2 (by omega)
  | fu + 1, j, s, h1, h2 => by
    rw [M_X3_begin_L12, nl_6]
    by_cases hj : j = 6
    · subst hj
      rw [i_le_t (Nat.le_refl 6) (by decide)]
      exact ⟨s, rfl, Ex.rf, fun i h3 h4 => by omega, fun i _ => ⟨rfl, rfl⟩⟩
    · rw [i_le_f (by omega) (by decide), rd_nI (by omega) (by decide), wr_nI (by omega) (by decide), rd_nI (by omega) (by decide), wr_nI (by omega) (by decide), show 15 + 1 = 16 from rfl, show 15 + 2 = 17 from rfl, up_c (a := 14) (k := 16) (by decide), show nI j + 1 = nI (j + 1) from nP]
      obtain ⟨s', e1, e2, e3, e4⟩ := bg3 (kk := kk) fu (j + 1) (up (up s 16 j (s.1 11 j)) 17 j (s.1 14 j)) (by omega) (by omega)
      refine ⟨s', e1, ((Ex.u2 (by omega)).tr1 (Ex.u2 (by omega))).tr1 e2, fun i h3 h4 => ?_, fun i h3 => ?_⟩
      · by_cases hi : i = j
        · subst hi
          obtain ⟨r1, r2⟩ := e4 i (by omega)
          rw [r1, r2, up_s, up_c (by decide), up_s]; exact ⟨rfl, rfl⟩
        · obtain ⟨r1, r2⟩ := e3 i (by omega) h4
          rw [r1, r2, up_c (by decide), up_c (by decide), up_c (by decide), up_c (by decide)]; exact ⟨rfl, rfl⟩
      · obtain ⟨r1, r2⟩ := e4 i (by omega)
        rw [r1, r2, up_c (by decide), up_i (by omega), up_i (by omega), up_c (by decide)]; exact ⟨rfl, rfl⟩
theorem newA_ok {n : Nat} (hn : n ≤ 6) {D : Nat → Nat → Nat} (hD : okD n D) (hk : alK D n n 0 = true) : okA (newA n D) := by
  have hk2 : ∀ (c g : Nat), g + c = n → alK D n c g = true → ∀ f, g ≤ f → f < n → D f 4 < n := by
    intro c
    induction c with
    | zero => intro g hg _ f h1 h2; omega
    | succ c ih =>
      intro g hg h f h1 h2
      unfold alK at h
      obtain ⟨h3, h4⟩ := Bool.and_eq_true_iff.mp h
      by_cases hf : f = g
      · subst hf; exact of_decide_eq_true h3
      · exact ih (g + 1) (by omega) h4 f (by omega) h2
  have h1 : n ≠ 1 := by
    intro h
    have h3 := hk2 n 0 (by omega) hk 0 (Nat.zero_le _) (by omega)
    have h4 := (hD 0 (by omega)).2.2.2.2.2
    omega
  refine ⟨hn, fun f hf => ⟨(hD f hf).1, (hD f hf).2.2.1, (hD f hf).2.2.2.1, h1⟩, ⟨Nat.zero_le _, Nat.two_pow_pos _, fun f hf => ⟨(hD f hf).2.1, hk2 n 0 (by omega) hk f (Nat.zero_le _) hf⟩⟩, ⟨Nat.zero_le _, fun c hc => absurd hc List.not_mem_nil⟩, fun i c hc => (by cases hc), ⟨Nat.zero_le _, fun c hc => absurd hc List.not_mem_nil⟩, ⟨Nat.zero_le _, fun c hc => absurd hc List.not_mem_nil⟩⟩
theorem vres_ok {a : Ab} (ok : okA a) {n : Nat} {D : Nat → Nat → Nat} (h : vres (aX a) = .inr (n, D)) : okA (newA n D) ∧ n ≤ 6 := by
  have hT : okX (aX a) := okX_of ok.2.2.2.2.2.2
  have hpo : rsOk (pars (aX a)) := ps_ok hT 7 0 _ _ (tok_ok hT (Nat.zero_le _)) (by omega) (fun g hg => absurd hg (Nat.not_lt_zero g))
  unfold vres at h
  match hp : pars (aX a), hpo with
  | .inl e, _ => rw [hp] at h; cases h
  | .inr (n', e, D'), hpo =>
    rw [hp] at h
    dsimp only at h
    split at h
    · cases h
      exact ⟨newA_ok hpo.1 hpo.2.2 (by assumption), hpo.1⟩
    · cases h
theorem valley_x {a : Ab} (ok : okA a) {s : St} (hx : Rx a s) : ∃ s', FrX s s' ∧ s'.2 0 = s.2 0 ∧ match vres (aX a) with
    | .inl e => M_X6_valley s = some (-10 - nI e, s') ∧ Sx s s'
    | .inr (n, D) => M_X6_valley s = some (nI n, s') ∧ Rx (newA n D) s' := by
  obtain ⟨s1, a1, a2, a3⟩ := tells_x ok hx
  match hv : vres (aX a), a3 with
  | .inl e, a3 =>
    refine ⟨s1, a1.frx (fun k hk => by omega), by rw [a1.2], ?_, ⟨fun k hk => a1.1 k (by unfold rx at hk; omega), a2⟩⟩
    unfold M_X6_valley
    rw [a3.1, cl_some, if_pos rfl, a3.2]
  | .inr (n, D), a3 =>
    obtain ⟨a3, a4, a5⟩ := a3
    have hn := (vres_ok ok hv).2
    obtain ⟨s2, b1', b2, b3, -⟩ := cp1 (kk := fun s12 => some (0, s12)) 400 0 (up (up s1 1 1 (nI 0)) 9 0 (nI n)) (by omega) (by omega)
    obtain ⟨s3, c1, c2, c3, -⟩ := bg3 (kk := fun s7 => some (0, s7)) 400 0 (up (up s2 15 1 (nI 0)) 15 2 (nI 0)) (by omega) (by omega)
    obtain ⟨s4, d1, d2, d3, d4⟩ := begin_x (up s3 21 2 (nI 0))
    have E1 : Ex (fun k => k < 67) s (up (up s1 1 1 (nI 0)) 9 0 (nI n)) := ((a1.mono (fun q hq => by omega)).tr1 (Ex.u2 (by omega))).tr1 (Ex.u2 (by omega))
    have E4 : Ex (fun k => k < 67) s s4 := ((((E1.tr1 (b2.mono (fun q hq => by omega))).tr1 ((Ex.u2 (k := 15) (by omega)).tr1 (Ex.u2 (k := 15) (by omega)))).tr1 (c2.mono (fun q hq => by omega))).tr1 (Ex.u2 (k := 21) (by omega))).tr1 (d2.mono (fun q hq => by omega))
    -- from s1 on
    have c9 : s4.1 9 0 = nI n := by rw [d2.1 9 (by omega), up_c (by decide), c2.1 9 (by omega), up_c (by decide), up_c (by decide), b2.1 9 (by omega), up_s]
    have cell : ∀ q, q < 5 → ∀ f, f < n → s2.1 (10 + q) f = nI (D f q) := fun q hq f hf => by
      rw [b3 f (by omega) (by omega) q hq, up_c (by omega), up_c (by omega)]; exact a5 f hf q hq
    have low : ∀ k, k ≤ 14 → 9 ≤ k → s4.1 k = s2.1 k := fun k h1 h2 => by rw [d2.1 k (by omega), up_c (by omega), c2.1 k (by omega), up_c (by omega), up_c (by omega)]
    obtain ⟨p, hp, h1, -, -⟩ := hx.2.2.1
    refine ⟨up (up s4 60 0 (nI 0)) 60 1 (nI 0), ((E4.tr1 (Ex.u2 (by omega))).tr1 (Ex.u2 (by omega))).frx (fun k hk => hk), by rw [((E4.tr1 (Ex.u2 (by omega))).tr1 (Ex.u2 (by omega))).2], ?_, ⟨⟨?_, fun f hf => ?_⟩, ⟨?_, ?_, fun f hf => ?_⟩, ⟨p, hp, ?_, ?_, fun i c hi => by simp [aH, newA] at hi⟩, fun i hi => ⟨?_, fun c hc => by cases hc⟩, ⟨?_, fun x y hx hy => ?_⟩, ⟨?_, fun i hi => absurd hi (Nat.not_lt_zero i)⟩⟩⟩
    · unfold M_X6_valley M_X1_copyFrom M_X3_begin
      rw [a3, cl_some, if_neg (by decide), pu_b, pu_b, up_c (by decide), a4]
      rw [show (up (up s1 1 1 0) 9 0 (nI n)) = up (up s1 1 1 (nI 0)) 9 0 (nI n) from rfl, show M_X1_copyFrom_L10 9 3 (fun s12 => some (0, s12)) 400 0 (up (up s1 1 1 (nI 0)) 9 0 (nI n)) = some (0, s2) from b1', cl_some, pu_b, pu_b]
      rw [show M_X3_begin_L12 15 (fun s7 => some (0, s7)) 400 0 (up (up s2 15 1 0) 15 2 0) = some (0, s3) from c1, cl_some, pu_b, show M_X4_begin (up s3 21 2 0) = some (0, s4) from d1, cl_some]
      rw [M_X6_valley_L68, nl_2, if_neg (by decide), nl_0, narb0, wr_nI (by decide) (by decide), nl_1, nP, M_X6_valley_L68, nl_2, if_neg (by decide), nl_0, narb0, wr_nI (by decide) (by decide), nl_1, nP, M_X6_valley_L68, nl_2, if_pos (by decide), up_c (by decide), up_c (by decide), c9]
    · rw [up_c (by decide), up_c (by decide)]; exact c9
    · have hf : f < n := hf
      rw [up_c (by decide), up_c (by decide), up_c (a := 12) (by decide), up_c (a := 12) (by decide), up_c (a := 13) (by decide), up_c (a := 13) (by decide), low 10 (by omega) (by omega), low 12 (by omega) (by omega), low 13 (by omega) (by omega)]
      exact ⟨cell 0 (by omega) f hf, cell 2 (by omega) f hf, cell 3 (by omega) f hf⟩
    · rw [up_c (by decide), up_c (by decide), d2.1 15 (by omega), up_c (by decide), c2.1 15 (by omega), up_i (by decide), up_s]; rfl
    · rw [up_c (by decide), up_c (by decide), d2.1 15 (by omega), up_c (by decide), c2.1 15 (by omega), up_s]; rfl
    · have hf : f < n := hf
      obtain ⟨r1, r2⟩ := c3 f (by omega) (by omega)
      rw [show 15 + 1 = 16 from rfl, show 15 + 2 = 17 from rfl, up_c (by decide), up_c (by decide), up_c (a := 17) (by decide), up_c (a := 17) (by decide), d2.1 16 (by omega), d2.1 17 (by omega), up_c (by decide), up_c (a := 17) (by decide), r1, r2, up_c (by decide), up_c (by decide), up_c (a := 14) (by decide), up_c (a := 14) (by decide)]
      exact ⟨cell 1 (by omega) f hf, cell 4 (by omega) f hf⟩
    · rw [up_c (by decide), up_c (by decide), d2.1 21 (by omega), up_i (by decide), c2.1 21 (by omega), up_c (by decide), up_c (by decide), b2.1 21 (by omega), up_c (by decide), up_c (by decide), a1.1 21 (by omega)]; exact h1
    · rw [up_c (by decide), up_c (by decide), d2.1 21 (by omega), up_s]; rfl
    · match i, hi with
      | 0, _ => rw [up_i (by decide), up_s]; rfl
      | 1, _ => rw [up_s]; rfl
    · rw [up_c (by decide), up_c (by decide)]; exact d3
    · rw [up_c (by decide), up_c (by decide), d4 _ (by omega)]; rfl
    · rw [up_c (by decide), up_c (by decide), d2.1 1 (by omega), up_c (by decide), c2.1 1 (by omega), up_c (by decide), up_c (by decide), b2.1 1 (by omega), up_c (by decide), up_s]; rfl
theorem op_valley : ∀ a, okA a → Op2 (M_X6_valley) (M_X7_valley) a := by
  intro a ok
  match hv : vres (aX a) with
  | .inl e =>
    refine ⟨a, -10 - nI e, 0, ok, opX_read fun s hx => ?_, opM_read fun s hx => ?_⟩
    · obtain ⟨s', h1, h2, h3⟩ := valley_x ok hx
      rw [hv] at h3
      exact ⟨s', h3.1, h3.2, h1, h2⟩
    · obtain ⟨s', h1, h2, h3⟩ := valley_m ok hx
      rw [hv] at h3
      exact ⟨s', h3.1, h3.2, h1, h2⟩
  | .inr (n, D) =>
    refine ⟨newA n D, nI n, 0, (vres_ok ok hv).1, fun s hx => ?_, fun s hx => ?_⟩
    · obtain ⟨s', h1, h2, h3⟩ := valley_x ok hx
      rw [hv] at h3
      exact ⟨s', h3.1, h3.2, h1, by rw [h2, Int64.add_zero]⟩
    · obtain ⟨s', h1, h2, h3⟩ := valley_m ok hx
      rw [hv] at h3
      exact ⟨s', h3.1, h3.2, h1, by rw [h2, Int64.add_zero]⟩
