/-! ===== days to come ===== -/
def dta (n : Nat) (sh nv : Nat → Nat) (f : Nat) : Nat → Nat → Nat → Nat → Int32
  | 0, _, _, _ => -9
  | c + 1, j, A, D => if A.testBit f = true then nI j else dta n sh nv f c (j + 1) (ask n sh nv A D) (D + 1)
theorem dta_x {a : Ab} (ok : okA a) {f D : Nat} (hf : f < 6) (hD : D ≤ 999) {s : St} (hx : xN a s) (h15 : s.1 15 1 = nI D) : ∀ (fu j A : Nat), A < 2 ^ aN a → j ≤ 61 → 61 < fu + j → M_X6_daysTillAsked_L10 (nI f) (fun s3 => some (-9, s3)) fu (nI A) (nI j) s = some (dta (aN a) (aS a) (aV a) f (61 - j) j A (D + j), s)
  | 0, j, A, _, h1, h2 => absurd h2 (by omega)
  | fu + 1, j, A, hA, h1, h2 => by
    have hn := ok.1
    rw [M_X6_daysTillAsked_L10, h15]
    simp only [nl_60, nl_1]
    by_cases hj : j = 61
    · subst hj
      rw [i_lt_t (by omega) (by omega), Nat.sub_self]; rfl
    · rw [i_lt_f (by omega) (by omega), bt_at1 (Nat.lt_of_lt_of_le (Nat.lt_of_lt_of_le hA (pow6 hn)) (by decide)) (by omega), show 61 - j = (61 - (j + 1)) + 1 by omega]
      unfold dta
      by_cases hb : A.testBit f = true
      · rw [if_pos hb, if_pos hb, i_eq_t rfl]
      · rw [if_neg hb, if_neg hb, i_eq_f (by decide) (by decide) (by decide), nP, ask_x ok hA (by omega) hx, cl_some, nP, dta_x ok hf hD hx h15 fu (j + 1) _ (ask_lt hA) (by omega) (by omega)]; rfl
theorem pas_A {n : Nat} {sh nv : Nat → Nat} {d : Bool} {c : Sc} : cA (pas n sh nv d c).2 = ask n sh nv (cA c) (cD c) ∧ cD (pas n sh nv d c).2 = cD c + 1 := by
  unfold pas
  cases d <;> exact ⟨rfl, rfl⟩
theorem dta_m {a : Ab} (ok : okA a) {f : Nat} (hf : f < 6) : ∀ (fu j : Nat) (c : Sc) (s : St), mN a s → stAt s 78 0 (aN a) c → wf (aN a) c → cD c ≤ 999 + j → j ≤ 61 → 61 < fu + j → ∃ s', M_X7_daysTillAsked_L6 (nI f) (fun s3 => some (-9, s3)) fu (nI j) s = some (dta (aN a) (aS a) (aV a) f (61 - j) j (cA c) (cD c), s') ∧ Ex (fun q => q = 67 ∨ q = 78) s s' ∧ ∀ i, i ≠ 23 → s'.1 67 i = s.1 67 i
  | 0, j, c, s, _, _, _, _, h1, h2 => absurd h2 (by omega)
  | fu + 1, j, c, s, hx, hs, hw, hD, h1, h2 => by
    have hn := ok.1
    rw [M_X7_daysTillAsked_L6]
    simp only [nl_60, nl_1]
    by_cases hj : j = 61
    · subst hj
      rw [i_lt_t (by omega) (by omega), Nat.sub_self]
      exact ⟨s, rfl, Ex.rf, fun i _ => rfl⟩
    · rw [i_lt_f (by omega) (by omega), rd_nI (by decide) (by decide), hs.2.1, has_m (Nat.lt_of_lt_of_le (Nat.lt_of_lt_of_le hw.2.1 (pow6 hn)) (by decide)) (by omega), cl_some, show 61 - j = (61 - (j + 1)) + 1 by omega]
      unfold dta
      by_cases hb : (cA c).testBit f = true
      · rw [if_pos hb, if_pos hb, if_neg (by decide)]
        exact ⟨s, rfl, Ex.rf, fun i _ => rfl⟩
      · rw [if_neg hb, if_neg hb, if_pos (by rfl)]
        obtain ⟨s1, g1, g2, g3, g4⟩ := goes_m ok hw (by omega) hx hs true
        rw [show nI 1 = nI (if true = true then 1 else 0) from rfl, g1, cl_some, show nI j + nI (if true = true then 1 else 0) = nI (j + 1) from nP]
        obtain ⟨s', e1, e2, e3⟩ := dta_m ok hf fu (j + 1) _ s1 (hx.ex (by rw [g3 0 (by decide)]) g2 (fun k hk => by omega)) g4 (pas_wf hw (by omega)) (by rw [pas_A.2]; omega) (by omega) (by omega)
        rw [pas_A.1, pas_A.2] at e1
        exact ⟨s', e1, g2.tr1 e2, fun i hi => by rw [e3 i hi, g3 i hi]⟩
def dtm (n : Nat) (sh nv : Nat → Nat) (p : (Nat → Nat) → Bool) : Nat → Nat → Sc → Int32
  | 0, _, _ => -9
  | c + 1, j, x => if p (cL x) = true then nI j else dtm n sh nv p c (j + 1) (pas n sh nv true x).2
def allR (who : Nat) (lf : Nat → Nat) : Nat → Nat → Bool
  | 0, _ => true
  | c + 1, f => (!(who.testBit f && decide (lf f ≠ 0))) && allR who lf c (f + 1)
theorem all_x {n k who : Nat} (hn : n ≤ 6) (hw : who < 256) {lf : Nat → Nat} (hlf : ∀ g, g < n → lf g ≤ 9) {s : St} (h9 : s.1 9 0 = nI n) (hl : ∀ g, g < n → s.1 (k + 1) g = nI (lf g)) : ∀ (fu f : Nat), f ≤ n → n < fu + f → M_X3_allMown_L2 k (nI who) (fun s4 => some (nI 1, s4)) fu (nI f) s = some (nI (if allR who lf (n - f) f then 1 else 0), s)
  | 0, f, h1, h2 => absurd h2 (by omega)
  | fu + 1, f, h1, h2 => by
    rw [M_X3_allMown_L2, h9]
    simp only [nl_0, nl_1, nl_2, nl_3, nl_4, nl_5, nl_6, nl_7, nl_8, nl_9, nl_10, nl_14, nl_20, nl_30, nl_32, nl_48, nl_57, nl_59, nl_60, nl_64, nl_99, nl_100, nl_102, nl_126, nl_140, nl_147, nl_181, nl_255, nl_999, jn]
    by_cases hf : f = n
    · subst hf
      rw [i_le_t (Nat.le_refl _) (by omega), Nat.sub_self]; rfl
    · have hf2 : f < n := by omega
      have := hlf f hf2
      rw [i_le_f hf2 (by omega), bt_at1 hw (by omega), nP, show n - f = (n - (f + 1)) + 1 by omega]
      unfold allR
      by_cases hb : who.testBit f = true
      · rw [if_pos hb, if_pos (by rfl), rd_nI (by omega) (by decide), hl f hf2]
        by_cases h0 : lf f = 0
        · rw [i_le_t (by omega) (by decide), all_x hn hw hlf h9 hl fu (f + 1) (by omega) (by omega)]
          simp [hb, h0]
        · rw [i_le_f (by omega) (by omega)]
          simp [hb, h0]
      · rw [if_neg hb, if_neg (by decide), all_x hn hw hlf h9 hl fu (f + 1) (by omega) (by omega)]
        simp [hb]
theorem dtm_x {a : Ab} (ok : okA a) {who : Nat} (hw : who < 256) : ∀ (fu j : Nat) (c : Sc) (s : St), xN a s → scAt s 18 (aN a) c → wf (aN a) c → cD c ≤ 999 + j → j ≤ 61 → 61 < fu + j → ∃ s', M_X6_daysTillMown_L13 (nI who) (fun s7 => some (-9, s7)) fu (nI j) s = some (dtm (aN a) (aS a) (aV a) (fun lf => allR who lf (aN a) 0) (61 - j) j c, s') ∧ Ex (fun q => q = 18 ∨ q = 19) s s'
  | 0, j, c, s, _, _, _, _, h1, h2 => absurd h2 (by omega)
  | fu + 1, j, c, s, hx, hs, hwf, hD, h1, h2 => by
    have hn := ok.1
    rw [M_X6_daysTillMown_L13]
    simp only [nl_60, nl_1]
    by_cases hj : j = 61
    · subst hj
      rw [i_lt_t (by omega) (by omega), Nat.sub_self]
      exact ⟨s, rfl, Ex.rf⟩
    · have hall : M_X3_allMown 18 (nI who) s = some (nI (if allR who (cL c) (aN a) 0 then 1 else 0), s) := by
        unfold M_X3_allMown
        exact all_x hn hw (fun g hg => (hwf.2.2 g hg).1) hx.1 (fun g hg => (hs.2.2 g hg).1) 400 0 (by omega) (by omega)
      rw [i_lt_f (by omega) (by omega), hall, cl_some, show 61 - j = (61 - (j + 1)) + 1 by omega]
      unfold dtm
      by_cases hb : allR who (cL c) (aN a) 0 = true
      · rw [if_pos hb, if_pos hb, if_neg (by decide)]
        exact ⟨s, rfl, Ex.rf⟩
      · rw [if_neg hb, if_neg hb, if_pos (by rfl)]
        obtain ⟨s1, g1, g2, g3⟩ := pass_x ok (k := 18) (by omega) hwf (by omega) hx hs true
        rw [show nI 1 = nI (if true = true then 1 else 0) from rfl, g1, cl_some, show nI j + nI (if true = true then 1 else 0) = nI (j + 1) from nP]
        obtain ⟨s', e1, e2⟩ := dtm_x ok hw fu (j + 1) _ s1 (hx.ex g2 (fun k hk => by omega)) g3 (pas_wf hwf (by omega)) (by rw [pas_A.2]; omega) (by omega) (by omega)
        exact ⟨s', e1, g2.tr1 e2⟩
def smR (lf : Nat → Nat) : Nat → Nat → Nat → Nat
  | 0, _, acc => acc
  | c + 1, f, acc => smR lf c (f + 1) (acc + lf f)
theorem left_m {n : Nat} (hn : n ≤ 6) {lf : Nat → Nat} {kk : Int32 → St → Option (Int32 × St)} {s : St} (h9 : s.1 67 0 = nI n) (hl : ∀ g, g < n → s.1 78 (2 + g) = nI (lf g)) : ∀ (fu f acc : Nat), f ≤ n → n < fu + f → M_X7_leftAll_L4 kk fu (nI acc) (nI f) s = kk (nI (smR lf (n - f) f acc)) s
  | 0, f, acc, h1, h2 => absurd h2 (by omega)
  | fu + 1, f, acc, h1, h2 => by
    rw [M_X7_leftAll_L4, h9]
    simp only [nl_0, nl_1, nl_2, nl_3, nl_4, nl_5, nl_6, nl_7, nl_8, nl_9, nl_10, nl_14, nl_20, nl_30, nl_32, nl_48, nl_57, nl_59, nl_60, nl_64, nl_99, nl_100, nl_102, nl_126, nl_140, nl_147, nl_181, nl_255, nl_999]
    by_cases hf : f = n
    · subst hf
      rw [i_le_t (Nat.le_refl _) (by omega), Nat.sub_self]; rfl
    · have hf2 : f < n := by omega
      rw [i_le_f hf2 (by omega), nP, rd_nI (by omega) (by decide), hl f hf2, nP, nP, show n - f = (n - (f + 1)) + 1 by omega, left_m hn h9 hl fu (f + 1) _ (by omega) (by omega)]; rfl
theorem left_x {n : Nat} (hn : n ≤ 6) {lf : Nat → Nat} {kk : Int32 → St → Option (Int32 × St)} {s : St} (h9 : s.1 9 0 = nI n) (hl : ∀ g, g < n → s.1 16 g = nI (lf g)) : ∀ (fu f acc : Nat), f ≤ n → n < fu + f → M_X3_leftTogether_L4 15 kk fu (nI acc) (nI f) s = kk (nI (smR lf (n - f) f acc)) s
  | 0, f, acc, h1, h2 => absurd h2 (by omega)
  | fu + 1, f, acc, h1, h2 => by
    rw [M_X3_leftTogether_L4, h9]
    simp only [nl_0, nl_1, nl_2, nl_3, nl_4, nl_5, nl_6, nl_7, nl_8, nl_9, nl_10, nl_14, nl_20, nl_30, nl_32, nl_48, nl_57, nl_59, nl_60, nl_64, nl_99, nl_100, nl_102, nl_126, nl_140, nl_147, nl_181, nl_255, nl_999]
    by_cases hf : f = n
    · subst hf
      rw [i_le_t (Nat.le_refl _) (by omega), Nat.sub_self]; rfl
    · have hf2 : f < n := by omega
      rw [i_le_f hf2 (by omega), show 15 + 1 = 16 from rfl, rd_nI (by omega) (by decide), hl f hf2, nP, nP, show n - f = (n - (f + 1)) + 1 by omega, left_x hn h9 hl fu (f + 1) _ (by omega) (by omega)]; rfl
theorem smR_le {lf : Nat → Nat} {n : Nat} (hlf : ∀ g, g < n → lf g ≤ 9) : ∀ (c f acc : Nat), f + c = n → smR lf c f acc ≤ acc + 9 * c
  | 0, f, acc, _ => by unfold smR; omega
  | c + 1, f, acc, h => by
    unfold smR
    have := smR_le hlf c (f + 1) (acc + lf f) (by omega)
    have := hlf f (by omega)
    omega
theorem smR_all {lf : Nat → Nat} {n : Nat} (hn : n ≤ 6) : ∀ (c f acc : Nat), f + c = n → ((smR lf c f acc = 0) ↔ (acc = 0 ∧ allR (2 ^ n - 1) lf c f = true))
  | 0, f, acc, _ => by unfold smR allR; simp
  | c + 1, f, acc, h => by
    unfold smR allR
    rw [smR_all hn c (f + 1) _ (by omega), Nat.testBit_two_pow_sub_one, Nat.add_eq_zero_iff]
    simp [show f < n by omega, and_assoc]
theorem dtm_congr {n : Nat} {sh nv : Nat → Nat} {p q : (Nat → Nat) → Bool} : ∀ (c j : Nat) (x : Sc), wf n x → cD x + c < 80000 → (∀ lf : Nat → Nat, (∀ g, g < n → lf g ≤ 9) → p lf = q lf) → dtm n sh nv p c j x = dtm n sh nv q c j x
  | 0, j, x, _, _, _ => rfl
  | c + 1, j, x, hw, hD, h => by
    unfold dtm
    rw [h (cL x) (fun g hg => (hw.2.2 g hg).1), dtm_congr c (j + 1) _ (pas_wf hw (by omega)) (by rw [pas_A.2]; omega) h]
/-- the reference: when a field (or all) has nothing left -/
theorem dtm_m {a : Ab} (ok : okA a) {x : Int32} {p : (Nat → Nat) → Bool} (hp : (x < 0 ∧ ∀ lf : Nat → Nat, p lf = decide (smR lf (aN a) 0 0 = 0)) ∨ ∃ f, f < aN a ∧ x = nI f ∧ ∀ lf : Nat → Nat, p lf = decide (lf f = 0)) : ∀ (fu j : Nat) (c : Sc) (s : St), mN a s → stAt s 78 0 (aN a) c → wf (aN a) c → cD c ≤ 999 + j → j ≤ 61 → 61 < fu + j → ∃ s', M_X7_daysTillDone_L6 x (fun s3 => some (-9, s3)) fu (nI j) s = some (dtm (aN a) (aS a) (aV a) p (61 - j) j c, s') ∧ Ex (fun q => q = 67 ∨ q = 78) s s' ∧ ∀ i, i ≠ 23 → s'.1 67 i = s.1 67 i
  | 0, j, c, s, _, _, _, _, h1, h2 => absurd h2 (by omega)
  | fu + 1, j, c, s, hx, hs, hw, hD, h1, h2 => by
    have hn := ok.1
    rw [M_X7_daysTillDone_L6]
    simp only [nl_60, nl_1, nl_0, nl_2, jn]
    by_cases hj : j = 61
    · subst hj
      rw [i_lt_t (by omega) (by omega), Nat.sub_self]
      exact ⟨s, rfl, Ex.rf, fun i _ => rfl⟩
    · rw [i_lt_f (by omega) (by omega), show 61 - j = (61 - (j + 1)) + 1 by omega]
      have hl : ∀ g, g < aN a → s.1 78 (2 + g) = nI (cL c g) := fun g hg => by have := (hs.2.2 g hg).1; rwa [show 0 + 2 + g = 2 + g by omega] at this
      -- whichever number is looked at
      have key : ∀ (v : Nat), v < 1000 → p (cL c) = decide (v = 0) → ∃ s', (if nI v = nI 0 then some (nI j, s) else cl (M_X7_goesBy (nI 1) s) fun r6 s7 => M_X7_daysTillDone_L6 x (fun s3 => some (-9, s3)) fu (nI j + nI 1) s7) = some (dtm (aN a) (aS a) (aV a) p (61 - (j + 1) + 1) j c, s') ∧ Ex (fun q => q = 67 ∨ q = 78) s s' ∧ ∀ i, i ≠ 23 → s'.1 67 i = s.1 67 i := by
        intro v hv hpv
        unfold dtm
        rw [hpv]
        by_cases h0 : v = 0
        · rw [i_eq_t h0, if_pos (by simpa using h0)]
          exact ⟨s, rfl, Ex.rf, fun i _ => rfl⟩
        · rw [i_eq_f h0 (by omega) (by decide), if_neg (by simpa using h0)]
          obtain ⟨s1, g1, g2, g3, g4⟩ := goes_m ok hw (by omega) hx hs true
          rw [show nI 1 = nI (if true = true then 1 else 0) from rfl, g1, cl_some, show nI j + nI (if true = true then 1 else 0) = nI (j + 1) from nP]
          obtain ⟨s', e1, e2, e3⟩ := dtm_m ok hp fu (j + 1) _ s1 (hx.ex (by rw [g3 0 (by decide)]) g2 (fun k hk => by omega)) g4 (pas_wf hw (by omega)) (by rw [pas_A.2]; omega) (by omega) (by omega)
          exact ⟨s', e1, g2.tr1 e2, fun i hi => by rw [e3 i hi, g3 i hi]⟩
      rcases hp with ⟨hneg, hp2⟩ | ⟨f, hf, rfl, hp2⟩
      · have hlt := smR_le (lf := cL c) (fun g hg => (hw.2.2 g hg).1) (aN a) 0 0 (by omega)
        have hall : M_X7_leftAll s = some (nI (smR (cL c) (aN a) 0 0), s) := by
          unfold M_X7_leftAll
          exact left_m hn hx.1 hl (kk := fun v2 s3 => some (v2, s3)) 400 0 0 (by omega) (by omega)
        rw [if_neg (by intro q; exact absurd hneg (Int32.not_lt.mpr q)), hall, cl_some]
        exact key _ (by omega) (hp2 _)
      · have := (hw.2.2 f hf).1
        rw [i_le_t (by omega) (by omega), nP, rd_nI (by omega) (by decide), hl f hf]
        exact key _ (by omega) (hp2 _)
theorem all_one {n f : Nat} (hf : f < n) {lf : Nat → Nat} : allR (2 ^ f) lf n 0 = decide (lf f = 0) := by
  have h : ∀ (c g : Nat), g + c = n → allR (2 ^ f) lf c g = (decide (f < g) || decide (lf f = 0)) := by
    intro c
    induction c with
    | zero => intro g hg; unfold allR; simp; omega
    | succ c ih =>
      intro g hg
      unfold allR
      rw [ih (g + 1) (by omega), Nat.testBit_two_pow]
      by_cases hfg : f = g
      · subst hfg; simp
      · simp [hfg]
        by_cases h2 : f < g
        · simp [h2, show f < g + 1 by omega]
        · simp [h2, show ¬ f < g + 1 by omega]
  rw [h n 0 (by omega)]
  simp
theorem days_x {a : Ab} (ok : okA a) {who : Nat} (hw : who < 256) {s : St} (hx : Rx a s) : ∃ s', M_X6_daysTillMown (nI who) s = some (dtm (aN a) (aS a) (aV a) (fun lf => allR who lf (aN a) 0) 61 0 (aC a), s') ∧ Ex (fun q => 18 ≤ q ∧ q ≤ 20) s s' := by
  obtain ⟨s1, e1, e2, e3⟩ := cp3 (k := 18) (k1 := 15) (by omega) s
  obtain ⟨s2, g1, g2⟩ := dtm_x ok hw 400 0 (aC a) s1 (hx.1.ex e2 (fun k hk => by omega)) (e3 _ _ ok.1 hx.2.1) ok.2.2.1.wf (by have := ok.2.2.1.1; omega) (by omega) (by omega)
  refine ⟨s2, ?_, (e2.mono (fun q hq => by omega)).tr1 (g2.mono (fun q hq => by omega))⟩
  unfold M_X6_daysTillMown
  rw [e1, cl_some]
  exact g1
theorem days_m {a : Ab} (ok : okA a) {x : Int32} {p : (Nat → Nat) → Bool} (hp : (x < 0 ∧ ∀ lf : Nat → Nat, p lf = decide (smR lf (aN a) 0 0 = 0)) ∨ ∃ f, f < aN a ∧ x = nI f ∧ ∀ lf : Nat → Nat, p lf = decide (lf f = 0)) {s : St} (hx : mN a s) (hs : stAt s 71 0 (aN a) (aC a)) : ∃ s', M_X7_daysTillDone x s = some (dtm (aN a) (aS a) (aV a) p 61 0 (aC a), s') ∧ Ex (fun q => q = 67 ∨ q = 78) s s' ∧ ∀ i, i ≠ 23 → s'.1 67 i = s.1 67 i := by
  obtain ⟨s1, f1, f2, f3⟩ := asIt ok hs
  obtain ⟨s2, g1, g2, g3⟩ := dtm_m ok hp 400 0 (aC a) s1 (hx.ex (by rw [f2.1 67 (by omega)]) f2 (fun k hk => by omega)) f3 ok.2.2.1.wf (by have := ok.2.2.1.1; omega) (by omega) (by omega)
  refine ⟨s2, ?_, (f2.mono (fun q hq => by omega)).tr1 g2, fun i hi => by rw [g3 i hi, f2.1 67 (by omega)]⟩
  unfold M_X7_daysTillDone
  rw [f1, cl_some]
  exact g1
theorem Ex.sm {s s' : St} (e : Ex (fun q => q = 67 ∨ q = 78) s s') (f : ∀ i, i ≠ 23 → s'.1 67 i = s.1 67 i) : Sm s s' := ⟨fun k h1 h2 => e.1 k (by omega), f 0 (by decide), f 6 (by decide), f 9 (by decide), f 13 (by decide)⟩
