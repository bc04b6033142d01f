theorem asIt {a : Ab} (ok : okA a) {c : Sc} {s : St} (hs : stAt s 71 0 (aN a) c) : ∃ s', M_X7_asItIs s = some (0, s') ∧ Ex (fun q => q = 78) s s' ∧ stAt s' 78 0 (aN a) c := by
  obtain ⟨s1, e1, e2, -, -, e5⟩ := cp7 (k0 := 78) (k2 := 71) (o1 := 0) (o3 := 0) (by decide) (by rw [ln_78]; omega) (by rw [ln_71]; omega) (by rw [ln_78]; omega) (by rw [ln_71]; omega) s
  refine ⟨s1, ?_, e2, e5 _ _ ok.1 hs⟩
  unfold M_X7_asItIs
  rw [show (0 : Int32) = nI 0 from rfl, e1, cl_some]
/-! ===== day ===== -/
theorem op_day (x1 : Int32) : ∀ a, okA a → Op2 (M_X6_day x1) (M_X7_day x1) a := by
  intro a ok
  have hn := ok.1
  rcases in_cases x1 (m := 1) (by decide) with h | ⟨i, hi, rfl⟩
  · refine op2_same ok (-1) (fun s => ?_) (fun s => ?_)
    · unfold M_X6_day
      rw [show M_X6_within x1 0 1 s = M_X6_within x1 0 (nI 1) s from rfl, wi_0 h]; rfl
    · unfold M_X7_day
      rw [show M_X7_in x1 0 1 s = M_X7_in x1 0 (nI 1) s from rfl, in_0 h]; rfl
  have hD := ok.2.2.1.1
  by_cases h9 : cD (aC a) = 999
  · refine ⟨a, -2, 0, ok, opX_read fun s hx => ⟨s, ?_, Sx.rf, FrX.rf, rfl⟩, opM_read fun s hx => ⟨s, ?_, Sm.rf, FrM.rf, rfl⟩⟩
    · unfold M_X6_day
      rw [show M_X6_within (nI i) 0 1 s = M_X6_within (nI i) 0 (nI 1) s from rfl, wi_1 hi (by decide), cl_some, if_neg (by decide), hx.2.1.1, nl_999, i_lt_f (by omega) (by omega)]
    · unfold M_X7_day
      rw [show M_X7_in (nI i) 0 1 s = M_X7_in (nI i) 0 (nI 1) s from rfl, in_1 hi (by decide), cl_some, if_neg (by decide), show (0 : Int32) = nI 0 from rfl, rd_nI (by decide) (by decide), hx.2.1.1, nl_999, i_eq_t h9]
  have hd : nI i = nI (if decide (i = 1) = true then 1 else 0) := by
    by_cases h1 : i = 1
    · subst h1; rfl
    · rw [show i = 0 by omega]; rfl
  have hwf := ok.2.2.1.wf
  have hpw := pas_wf (sh := aS a) (nv := aV a) (d := decide (i = 1)) hwf (by omega)
  have hpD : cD (pas (aN a) (aS a) (aV a) (decide (i = 1)) (aC a)).2 = cD (aC a) + 1 := by
    unfold pas
    split <;> rfl
  refine ⟨sCH a (pas (aN a) (aS a) (aV a) (decide (i = 1)) (aC a)).2 ((aC a :: aH a).take 10), nI (pas (aN a) (aS a) (aV a) (decide (i = 1)) (aC a)).1, 0, okA_sCH ok ⟨by rw [hpD]; omega, hpw.2⟩ (okH ok).1 (okH ok).2, ?_, ?_⟩
  · intro s hx
    obtain ⟨h1, h2, h3, h4, h5, h6⟩ := hx
    obtain ⟨s1, e1, e2, e3⟩ := push_x hn ok.2.2.2.1.1 h3 h2
    have h1' := h1.ex e2 (fun k hk => by omega)
    have h2' := h2.ex e2 (fun j hj => by omega)
    obtain ⟨s2, g1, g2, g3⟩ := pass_x ok (k := 15) (by omega) hwf (by omega) h1' h2' (decide (i = 1))
    have e9 : Ex (fun q => q = 15 ∨ q = 16 ∨ q = 21 ∨ (23 ≤ q ∧ q ≤ 52)) s s2 := (e2.mono (fun q hq => by omega)).tr1 (g2.mono (fun q hq => by omega))
    refine ⟨s2, ?_, ⟨xN.ex (a := a) h1 e9 (fun k hk => by omega), g3, ?_, xI.ex (a := a) h4 e9 (fun k hk => by omega), xT.ex (a := a) h5 e9 (fun k hk => by omega), xX.ex (a := a) h6 e9 (fun k hk => by omega)⟩, e9.frx (fun k hk => by omega), by rw [e9.2, Int64.add_zero]⟩
    · unfold M_X6_day
      rw [show M_X6_within (nI i) 0 1 s = M_X6_within (nI i) 0 (nI 1) s from rfl, wi_1 hi (by decide), cl_some, if_neg (by decide), h2.1, nl_999, i_lt_t (by omega) (by decide), e1, cl_some]
      simp only [jn]
      by_cases hi1 : i = 1
      · subst hi1
        rw [show nI 1 = (1 : Int32) from rfl, if_pos rfl]
        exact (congrArg (fun z => cl z fun r8 s9 => some (r8, s9)) g1)
      · have hi0 : i = 0 := by omega
        subst hi0
        rw [if_neg (by decide)]
        exact (congrArg (fun z => cl z fun r8 s9 => some (r8, s9)) g1)
    · exact xH.ex (a := sCH a _ _) (e3 _) g2 (fun k hk => by omega)
  · intro s hx
    obtain ⟨h1, h2, h3, h4, h5, h6⟩ := hx
    obtain ⟨s1, e1, e2, e4, e3⟩ := push_m hn ok.2.2.2.1.1 h3 h2
    have h1' := h1.ex (s' := s1) (by rw [e4 0 (by decide)]) e2 (fun k hk => by omega)
    have h2' := h2.ex e2 (by omega)
    obtain ⟨s2, f1, f2, f3⟩ := asIt ok h2'
    have h1'' := h1'.ex (s' := s2) (by rw [f2.1 67 (by omega)]) f2 (fun k hk => by omega)
    obtain ⟨s3, g1, g2, g3, g4⟩ := goes_m ok hwf (by omega) h1'' f3 (decide (i = 1))
    obtain ⟨s4, k1, k2, -, -, k5⟩ := cp7 (k0 := 71) (k2 := 78) (o1 := 0) (o3 := 0) (by decide) (by rw [ln_71]; omega) (by rw [ln_78]; omega) (by rw [ln_71]; omega) (by rw [ln_78]; omega) s3
    have e9 : Ex (fun q => q = 67 ∨ q = 71 ∨ q = 72 ∨ q = 78) s s4 := (((e2.mono (fun q hq => by omega)).tr1 (f2.mono (fun q hq => by omega))).tr1 (g2.mono (fun q hq => by omega))).tr1 (k2.mono (fun q hq => by omega))
    have f67 : ∀ j, j ≠ 23 → s4.1 67 j = s1.1 67 j := fun j hj => by rw [k2.1 67 (by omega), g3 j hj, f2.1 67 (by omega)]
    refine ⟨s4, ?_, ⟨mN.ex (a := a) h1 (by rw [f67 0 (by decide), e4 0 (by decide)]) e9 (fun k hk => by omega), k5 _ _ hn g4, ?_, mI.ex (a := a) h4 e9 (fun k hk => by omega), mT.ex (a := a) h5 (by rw [f67 9 (by decide), e4 9 (by decide)]) e9 (fun k hk => by omega), mX.ex (a := a) h6 (by rw [f67 13 (by decide), e4 13 (by decide)]) e9 (fun k hk => by omega)⟩, e9.frm (fun k hk => by omega), by rw [e9.2, Int64.add_zero]⟩
    · unfold M_X7_day
      rw [show M_X7_in (nI i) 0 1 s = M_X7_in (nI i) 0 (nI 1) s from rfl, in_1 hi (by decide), cl_some, if_neg (by decide), show (0 : Int32) = nI 0 from rfl, rd_nI (by decide) (by decide), h2.1, nl_999, i_eq_f h9 (by omega) (by decide), e1, cl_some, f1, cl_some, hd, g1, cl_some, k1, cl_some]
    · exact mH.ex (a := sCH a _ _) (e3 _) (by rw [f67 6 (by decide)]) ((f2.mono (fun q hq => (by omega : q = 67 ∨ q = 71 ∨ q = 78))).tr1 ((g2.mono (fun q hq => by omega)).tr1 (k2.mono (fun q hq => by omega)))) (fun k hk => by omega)
/-! ===== sets of who hangs with one, rings ===== -/
def hwR (kp : Nat → Nat) (f : Nat) : Nat → Nat → Nat → Nat
  | 0, _, acc => acc
  | c + 1, g, acc => hwR kp f c (g + 1) (if kp g = f then acc ||| 2 ^ g else acc)
theorem hwR_lt {kp : Nat → Nat} {f n : Nat} : ∀ (c g acc : Nat), g + c = n → acc < 2 ^ n → hwR kp f c g acc < 2 ^ n
  | 0, g, acc, _, h => h
  | c + 1, g, acc, h1, h => by
    unfold hwR
    refine hwR_lt c (g + 1) _ (by omega) ?_
    split
    · exact or_lt h (by omega)
    · exact h
theorem hw_x {n f : Nat} (hn : n ≤ 6) (hf : f < 6) {kp : Nat → Nat} (hkp : ∀ g, g < n → kp g < n) {kk : Int32 → St → Option (Int32 × St)} {s : St} (h9 : s.1 9 0 = nI n) (hl : ∀ g, g < n → s.1 17 g = nI (kp g)) : ∀ (fu g acc : Nat), g ≤ n → n < fu + g → acc < 2 ^ n → M_X3_hungWith_L4 15 (nI f) kk fu (nI acc) (nI g) s = kk (nI (hwR kp f (n - g) g acc)) s
  | 0, g, acc, h1, h2, _ => absurd h2 (by omega)
  | fu + 1, g, acc, h1, h2, h3 => by
    rw [M_X3_hungWith_L4, h9]
    simp only [nl_0, nl_1, nl_2, nl_3, nl_4, nl_5, nl_6, nl_7, nl_8, nl_9, nl_10, nl_14, nl_20, nl_30, nl_32, nl_48, nl_57, nl_59, nl_60, nl_64, nl_99, nl_100, nl_102, nl_126, nl_140, nl_147, nl_181, nl_255, nl_999, jn]
    by_cases hg : g = n
    · subst hg
      rw [i_le_t (Nat.le_refl _) (by omega), Nat.sub_self]; rfl
    · have hg2 : g < n := by omega
      have h6 : acc < 64 := Nat.lt_of_lt_of_le h3 (pow6 hn)
      have := hkp g hg2
      rw [i_le_f hg2 (by omega), show 15 + 2 = 17 from rfl, rd_nI (by omega) (by decide), hl g hg2, nP, show n - g = (n - (g + 1)) + 1 by omega]
      unfold hwR
      by_cases hk : kp g = f
      · rw [i_eq_t hk, bt_or1 h6 (by omega), if_pos hk, hw_x hn hf hkp h9 hl fu (g + 1) _ (by omega) (by omega) (or_lt h3 hg2)]
      · rw [i_eq_f hk (by omega) (by omega), if_neg hk, hw_x hn hf hkp h9 hl fu (g + 1) _ (by omega) (by omega) h3]
theorem hw_m {n f : Nat} (hn : n ≤ 6) (hf : f < 6) {kp : Nat → Nat} (hkp : ∀ g, g < n → kp g < n) {kk : Int32 → St → Option (Int32 × St)} {s : St} (h9 : s.1 67 0 = nI n) (hl : ∀ g, g < n → s.1 71 (8 + g) = nI (kp g)) : ∀ (fu g acc : Nat), g ≤ n → n < fu + g → acc < 2 ^ n → M_X7_hangWith_L4 (nI f) kk fu (nI acc) (nI g) s = kk (nI (hwR kp f (n - g) g acc)) s
  | 0, g, acc, h1, h2, _ => absurd h2 (by omega)
  | fu + 1, g, acc, h1, h2, h3 => by
    rw [M_X7_hangWith_L4, h9]
    simp only [nl_0, nl_1, nl_2, nl_3, nl_4, nl_5, nl_6, nl_7, nl_8, nl_9, nl_10, nl_14, nl_20, nl_30, nl_32, nl_48, nl_57, nl_59, nl_60, nl_64, nl_99, nl_100, nl_102, nl_126, nl_140, nl_147, nl_181, nl_255, nl_999, jn]
    by_cases hg : g = n
    · subst hg
      rw [i_le_t (Nat.le_refl _) (by omega), Nat.sub_self]; rfl
    · have hg2 : g < n := by omega
      have h6 : acc < 64 := Nat.lt_of_lt_of_le h3 (pow6 hn)
      have := hkp g hg2
      rw [i_le_f hg2 (by omega), nP, rd_nI (by omega) (by decide), hl g hg2, nP, show n - g = (n - (g + 1)) + 1 by omega]
      unfold hwR
      by_cases hk : kp g = f
      · rw [i_eq_t hk, bt_or1 h6 (by omega), if_pos hk, hw_m hn hf hkp h9 hl fu (g + 1) _ (by omega) (by omega) (or_lt h3 hg2)]
      · rw [i_eq_f hk (by omega) (by omega), or0, if_neg hk, hw_m hn hf hkp h9 hl fu (g + 1) _ (by omega) (by omega) h3]
def hw (n : Nat) (kp : Nat → Nat) (f : Nat) : Nat := hwR kp f n 0 0
theorem hw_lt (n : Nat) (kp : Nat → Nat) (f : Nat) : hw n kp f < 2 ^ n := hwR_lt n 0 0 (by omega) (Nat.two_pow_pos _)
theorem hungWith {a : Ab} (ok : okA a) {f : Nat} (hf : f < 6) {s : St} (hx : xN a s) (hs : scAt s 15 (aN a) (aC a)) : M_X3_hungWith 15 (nI f) s = some (nI (hw (aN a) (cK (aC a)) f), s) := by
  unfold M_X3_hungWith
  exact hw_x ok.1 hf (fun g hg => (ok.2.2.1.2.2 g hg).2) hx.1 (fun g hg => (hs.2.2 g hg).2) (kk := fun v5 s6 => some (v5, s6)) 400 0 0 (by omega) (by have := ok.1; omega) (Nat.two_pow_pos _)
theorem hangWith {a : Ab} (ok : okA a) {f : Nat} (hf : f < 6) {s : St} (hx : mN a s) (hs : stAt s 71 0 (aN a) (aC a)) : M_X7_hangWith (nI f) s = some (nI (hw (aN a) (cK (aC a)) f), s) := by
  unfold M_X7_hangWith
  exact hw_m ok.1 hf (fun g hg => (ok.2.2.1.2.2 g hg).2) hx.1 (fun g hg => by have := (hs.2.2 g hg).2; rwa [show 0 + 8 + g = 8 + g by omega] at this) (kk := fun v5 s6 => some (v5, s6)) 400 0 0 (by omega) (by have := ok.1; omega) (Nat.two_pow_pos _)
def rg (kp : Nat → Nat) (f : Nat) : Nat → Nat → Nat → Nat
  | 0, _, _ => 0
  | c + 1, one, k => if one = f then k else rg kp f c (kp one) (k + 1)
theorem ring_x {n f : Nat} (hn : n ≤ 6) (hf : f < n) {kp : Nat → Nat} (hkp : ∀ g, g < n → kp g < n) {s : St} (h9 : s.1 9 0 = nI n) (hl : ∀ g, g < n → s.1 17 g = nI (kp g)) : ∀ (fu one k : Nat), one < n → k ≤ n + 1 → n + 1 < fu + k → M_X3_ringOf_L9 15 (nI f) (fun s5 => some (nI 0, s5)) fu (nI one) (nI k) s = some (nI (rg kp f (n + 1 - k) one k), s)
  | 0, one, k, _, h1, h2 => absurd h2 (by omega)
  | fu + 1, one, k, ho, h1, h2 => by
    rw [M_X3_ringOf_L9, h9]
    simp only [nl_0, nl_1, nl_2, nl_3, nl_4, nl_5, nl_6, nl_7, nl_8, nl_9, nl_10, nl_14, nl_20, nl_30, nl_32, nl_48, nl_57, nl_59, nl_60, nl_64, nl_99, nl_100, nl_102, nl_126, nl_140, nl_147, nl_181, nl_255, nl_999]
    by_cases hk : k = n + 1
    · subst hk
      rw [i_lt_t (by omega) (by omega), Nat.sub_self]; rfl
    · have := hkp one ho
      rw [i_lt_f (by omega) (by omega), has_x1 h9 ho hn, cl_some, if_neg (by decide), show n + 1 - k = (n + 1 - (k + 1)) + 1 by omega]
      unfold rg
      by_cases he : one = f
      · rw [i_eq_t he, if_pos he]
      · rw [i_eq_f he (by omega) (by omega), if_neg he, show 15 + 2 = 17 from rfl, rd_nI (by omega) (by decide), hl one ho, nP, ring_x hn hf hkp h9 hl fu _ (k + 1) this (by omega) (by omega)]
theorem ring_m {n f : Nat} (hn : n ≤ 6) (hf : f < n) {kp : Nat → Nat} (hkp : ∀ g, g < n → kp g < n) {s : St} (h9 : s.1 67 0 = nI n) (hl : ∀ g, g < n → s.1 71 (8 + g) = nI (kp g)) : ∀ (fu one k : Nat), one < n → k ≤ n + 1 → n + 1 < fu + k → M_X7_ring_L4 (nI f) (fun s5 => some (nI 0, s5)) fu (nI one) (nI k) s = some (nI (rg kp f (n + 1 - k) (kp one) k), s)
  | 0, one, k, _, h1, h2 => absurd h2 (by omega)
  | fu + 1, one, k, ho, h1, h2 => by
    rw [M_X7_ring_L4, h9]
    simp only [nl_0, nl_1, nl_2, nl_3, nl_4, nl_5, nl_6, nl_7, nl_8, nl_9, nl_10, nl_14, nl_20, nl_30, nl_32, nl_48, nl_57, nl_59, nl_60, nl_64, nl_99, nl_100, nl_102, nl_126, nl_140, nl_147, nl_181, nl_255, nl_999]
    by_cases hk : k = n + 1
    · subst hk
      rw [i_lt_t (by omega) (by omega), Nat.sub_self]; rfl
    · have := hkp one ho
      rw [i_lt_f (by omega) (by omega), nP, rd_nI (by omega) (by decide), hl one ho, show n + 1 - k = (n + 1 - (k + 1)) + 1 by omega]
      unfold rg
      by_cases he : kp one = f
      · rw [i_eq_t he, if_pos he]
      · rw [i_eq_f he (by omega) (by omega), if_neg he, nP, ring_m hn hf hkp h9 hl fu _ (k + 1) this (by omega) (by omega)]
theorem ringOf {a : Ab} (ok : okA a) {f : Nat} (hf : f < aN a) {s : St} (hx : xN a s) (hs : scAt s 15 (aN a) (aC a)) : M_X3_ringOf 15 (nI f) s = some (nI (rg (cK (aC a)) f (aN a) (cK (aC a) f) 1), s) := by
  have hn := ok.1
  unfold M_X3_ringOf
  rw [show 15 + 2 = 17 from rfl, rd_nI (by omega) (by decide), (hs.2.2 f hf).2]
  have := ring_x hn hf (fun g hg => (ok.2.2.1.2.2 g hg).2) hx.1 (fun g hg => (hs.2.2 g hg).2) 400 (cK (aC a) f) 1 (ok.2.2.1.2.2 f hf).2 (by omega) (by omega)
  rw [show aN a + 1 - 1 = aN a by omega] at this
  exact this
theorem ringM {a : Ab} (ok : okA a) {f : Nat} (hf : f < aN a) {s : St} (hx : mN a s) (hs : stAt s 71 0 (aN a) (aC a)) : M_X7_ring (nI f) s = some (nI (rg (cK (aC a)) f (aN a) (cK (aC a) f) 1), s) := by
  have hn := ok.1
  unfold M_X7_ring
  have := ring_m hn hf (fun g hg => (ok.2.2.1.2.2 g hg).2) hx.1 (fun g hg => by have := (hs.2.2 g hg).2; rwa [show 0 + 8 + g = 8 + g by omega] at this) 400 f 1 hf (by omega) (by omega)
  rw [show aN a + 1 - 1 = aN a by omega] at this
  exact this
