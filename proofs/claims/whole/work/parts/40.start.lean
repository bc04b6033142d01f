/-! ===== start ===== -/
def askN (n : Nat) (sh nv : Nat → Nat) : Nat → Nat → Nat → Nat
  | 0, A, _ => A
  | c + 1, A, D => askN n sh nv c (ask n sh nv A D) (D + 1)
theorem askN_lt {n : Nat} {sh nv : Nat → Nat} : ∀ (c A D : Nat), A < 2 ^ n → askN n sh nv c A D < 2 ^ n
  | 0, A, D, h => h
  | c + 1, A, D, h => by
    unfold askN
    exact askN_lt c _ _ (ask_lt h)
theorem bb_or : ∀ A, A < 64 → ∀ B, B < 64 → nI A ||| nI B = nI (A ||| B) := by decide +kernel
theorem bb_and : ∀ A, A < 64 → ∀ B, B < 64 → nI A &&& nI B = nI (A &&& B) := by decide +kernel
theorem bb_not : ∀ n, n ≤ 6 → ∀ A, A < 2 ^ n → nI (2 ^ n - 1) &&& (nI A ^^^ -1) = nI (2 ^ n - 1 - A) := by decide +kernel
theorem ev : ∀ n, n ≤ 6 → ((1 : Int32) <<< (nI n &&& 31)) - 1 = nI (2 ^ n - 1) := by decide +kernel
theorem bb_lt : ∀ a, a ≤ 8 → ∀ b, b ≤ 8 → ((nI a - nI b < nI 0) ↔ a < b) ∧ ((nI a - nI b = nI 0) ↔ a = b) := by decide +kernel
def pcf (A : Nat) : Nat := A % 2 + A / 2 % 2 + A / 4 % 2 + A / 8 % 2 + A / 16 % 2 + A / 32 % 2
theorem pcf_pc : ∀ A, A < 64 → pc A = pcf A := by decide +kernel
theorem bb_one6 : ∀ n, n ≤ 6 → ∀ A, A < 2 ^ n → ∀ B, B < 2 ^ n → B &&& A = 0 → pcf B = pcf (2 ^ n - 1 - A) → B = 2 ^ n - 1 - A := by decide +kernel
theorem bb_one {n A B : Nat} (hn : n ≤ 6) (hA : A < 2 ^ n) (hB : B < 2 ^ n) (h0 : B &&& A = 0) (hp : pc B = pc (2 ^ n - 1 - A)) : B = 2 ^ n - 1 - A := by
  have := pow6 hn
  rw [pcf_pc _ (by omega), pcf_pc _ (by omega)] at hp
  exact bb_one6 n hn A hA B hB h0 hp
theorem and_lt6 {A B : Nat} (hA : A < 64) : B &&& A < 64 := Nat.lt_of_le_of_lt Nat.and_le_right hA
theorem all_b_loop {a : Ab} (ok : okA a) {d D : Nat} (hd : d ≤ 20) (hD : D ≤ 999) {kk : Int32 → St → Option (Int32 × St)} {s : St} (hx : xN a s) (h15 : s.1 15 1 = nI D) : ∀ (fu j A : Nat), A < 2 ^ aN a → j ≤ d → d < fu + j → M_X6_allAskBehind_L13 (nI d) kk fu (nI A) (nI j) s = kk (nI (askN (aN a) (aS a) (aV a) (d - j) A (D + j))) s
  | 0, j, A, _, h1, h2 => absurd h2 (by omega)
  | fu + 1, j, A, hA, h1, h2 => by
    rw [M_X6_allAskBehind_L13, h15]
    simp only [nl_1]
    by_cases hj : j = d
    · subst hj
      rw [i_le_t (Nat.le_refl _) (by omega), Nat.sub_self]; rfl
    · rw [i_le_f (by omega) (by omega), nP, ask_x ok hA (by omega) hx, cl_some, nP, all_b_loop ok hd hD hx h15 fu (j + 1) _ (ask_lt hA) (by omega) (by omega), show d - j = (d - (j + 1)) + 1 by omega]; rfl
def alB (a : Ab) (d B : Nat) : Bool := decide (askN (aN a) (aS a) (aV a) d (cA (aC a) ||| B) (cD (aC a)) = 2 ^ aN a - 1)
theorem all_b {a : Ab} (ok : okA a) {d B : Nat} (hd : d ≤ 20) (hB : B < 2 ^ aN a) {s : St} (hx : xN a s) (hs : scAt s 15 (aN a) (aC a)) : M_X6_allAskBehind (nI d) (nI B) s = some (nI (if alB a d B then 1 else 0), s) := by
  have hn := ok.1
  have h6 := pow6 hn
  have hA := ok.2.2.1.2.1
  have hAB : cA (aC a) ||| B < 2 ^ aN a := Nat.or_lt_two_pow hA hB
  have hN := askN_lt (n := aN a) (sh := aS a) (nv := aV a) d (cA (aC a) ||| B) (cD (aC a)) hAB
  unfold M_X6_allAskBehind
  rw [hs.2.1, bb_or _ (by omega) _ (by omega), nl_0, all_b_loop ok hd ok.2.2.1.1 hx hs.1 400 0 _ hAB (by omega) (by omega)]
  unfold M_X1_everyone
  rw [hx.1, bt_sh _ (by omega), cl_some, nl_1, nS (Nat.two_pow_pos _), Nat.sub_zero, Nat.add_zero]
  unfold alB
  by_cases h : askN (aN a) (aS a) (aV a) d (cA (aC a) ||| B) (cD (aC a)) = 2 ^ aN a - 1
  · rw [i_eq_t h, if_pos (by simpa using h)]
  · rw [i_eq_f h (by omega) (by omega), if_neg (by simpa using h)]
theorem all_m_loop {a : Ab} (ok : okA a) {d : Nat} (hd : d ≤ 20) {kk : St → Option (Int32 × St)} : ∀ (fu j : Nat) (c : Sc) (s : St), mN a s → stAt s 78 0 (aN a) c → wf (aN a) c → cD c ≤ 999 + j → j ≤ d → d < fu + j → ∃ s', M_X7_allAskedBy_L16 (nI d) kk fu (nI j) s = kk s' ∧ Ex (fun q => q = 67 ∨ q = 78) s s' ∧ (∀ i, i ≠ 23 → s'.1 67 i = s.1 67 i) ∧ s'.1 78 1 = nI (askN (aN a) (aS a) (aV a) (d - j) (cA c) (cD c))
  | 0, j, c, s, _, _, _, _, h1, h2 => absurd h2 (by omega)
  | fu + 1, j, c, s, hx, hs, hw, hD, h1, h2 => by
    rw [M_X7_allAskedBy_L16]
    simp only [nl_1]
    by_cases hj : j = d
    · subst hj
      rw [i_le_t (Nat.le_refl _) (by omega), Nat.sub_self]
      exact ⟨s, rfl, Ex.rf, fun i _ => rfl, hs.2.1⟩
    · rw [i_le_f (by omega) (by omega)]
      obtain ⟨s1, g1, g2, g3, g4⟩ := goes_m ok hw (by omega) hx hs true
      rw [show nI 1 = nI (if true = true then 1 else 0) from rfl, g1, cl_some, show nI j + nI (if true = true then 1 else 0) = nI (j + 1) from nP]
      obtain ⟨s', e1, e2, e3, e4⟩ := all_m_loop ok hd (kk := kk) fu (j + 1) _ s1 (hx.ex (by rw [g3 0 (by decide)]) g2 (fun k hk => by omega)) g4 (pas_wf hw (by omega)) (by rw [pas_A.2]; omega) (by omega) (by omega)
      rw [pas_A.1, pas_A.2] at e4
      refine ⟨s', e1, g2.tr1 e2, fun i hi => by rw [e3 i hi, g3 i hi], ?_⟩
      rw [e4, show d - j = (d - (j + 1)) + 1 by omega]; rfl
theorem all_m {a : Ab} (ok : okA a) {d B : Nat} (hd : d ≤ 20) (hB : B < 2 ^ aN a) {s : St} (hx : mN a s) (hs : stAt s 71 0 (aN a) (aC a)) : ∃ s', M_X7_allAskedBy (nI B) (nI d) s = some (nI (if alB a d B then 1 else 0), s') ∧ Ex (fun q => q = 67 ∨ q = 78) s s' ∧ (∀ i, i ≠ 23 → s'.1 67 i = s.1 67 i) := by
  have hn := ok.1
  have h6 := pow6 hn
  have hA := ok.2.2.1.2.1
  have hAB : cA (aC a) ||| B < 2 ^ aN a := Nat.or_lt_two_pow hA hB
  have hN := askN_lt (n := aN a) (sh := aS a) (nv := aV a) d (cA (aC a) ||| B) (cD (aC a)) hAB
  obtain ⟨s1, f1, f2, f3⟩ := asIt ok hs
  have hx1 : mN a (up s1 78 1 (nI (cA (aC a) ||| B))) := (hx.ex (by rw [f2.1 67 (by omega)]) f2 (fun k hk => by omega)).ex (by rw [up_c (by decide)]) (Ex.u1 (k := 78)) (fun k hk => by omega)
  have hs1 : stAt (up s1 78 1 (nI (cA (aC a) ||| B))) 78 0 (aN a) (cD (aC a), cA (aC a) ||| B, cL (aC a), cK (aC a)) := ⟨by rw [up_i (by decide)]; exact f3.1, up_s, fun g hg => ⟨by rw [up_i (by omega)]; exact (f3.2.2 g hg).1, by rw [up_i (by omega)]; exact (f3.2.2 g hg).2⟩⟩
  have hw1 : wf (aN a) (cD (aC a), cA (aC a) ||| B, cL (aC a), cK (aC a)) := ⟨ok.2.2.1.wf.1, hAB, ok.2.2.1.2.2⟩
  obtain ⟨s2, g1, g2, g3, g4⟩ := all_m_loop ok hd (kk := fun s7 => rd s7 78 14 (nI 1) fun v8 => if v8 = (((nI 1) <<< ((s7.1 67 0) &&& 31)) - (nI 1)) then some (nI 1, s7) else some (nI 0, s7)) 400 0 _ _ hx1 hs1 hw1 (by have := ok.2.2.1.1; show cD (aC a) ≤ 999 + 0; omega) (by omega) (by omega)
  have g4 : s2.1 78 1 = nI (askN (aN a) (aS a) (aV a) d (cA (aC a) ||| B) (cD (aC a))) := g4
  refine ⟨s2, ?_, ((f2.mono (fun q hq => by omega)).tr1 (Ex.u2 (k := 78) (by omega))).tr1 g2, fun i hi => by rw [g3 i hi, up_c (by decide), f2.1 67 (by omega)]⟩
  unfold M_X7_allAskedBy
  simp only [nl_1, nl_0]
  rw [f1, cl_some, rd_nI (by decide) (by decide), f3.2.1, bb_or _ (by omega) _ (by omega), wr_nI (by decide) (by decide), g1, rd_nI (by decide) (by decide), g4, g3 0 (by decide), hx1.1, bt_sh1 (by omega), nS (Nat.two_pow_pos _)]
  unfold alB
  by_cases h : askN (aN a) (aS a) (aV a) d (cA (aC a) ||| B) (cD (aC a)) = 2 ^ aN a - 1
  · rw [i_eq_t h, if_pos (by simpa using h)]
  · rw [i_eq_f h (by omega) (by omega), if_neg (by simpa using h)]
def stR (p : Nat → Bool) (A : Nat) : Nat → Nat → Nat → Nat
  | 0, _, best => best
  | c + 1, B, best => stR p A c (B + 1) (if pc B < pc best ∧ B &&& A = 0 ∧ p B = true then B else best)
theorem start_x {a : Ab} (ok : okA a) {d : Nat} (hd : d ≤ 20) {kk : Int32 → St → Option (Int32 × St)} {s : St} (hx : xN a s) (hs : scAt s 15 (aN a) (aC a)) : ∀ (fu B best : Nat), best < 2 ^ aN a → B ≤ 2 ^ aN a → 2 ^ aN a < fu + B → M_X6_start_L35 (nI d) (nI (2 ^ aN a - 1)) kk fu (nI best) (nI B) s = kk (nI (stR (alB a d) (cA (aC a)) (2 ^ aN a - B) B best)) s
  | 0, B, best, _, h1, h2 => absurd h2 (by omega)
  | fu + 1, B, best, hb, h1, h2 => by
    have hn := ok.1
    have h6 := pow6 hn
    have hA := ok.2.2.1.2.1
    rw [M_X6_start_L35]
    simp only [nl_0, nl_1, jn, if_true]
    by_cases hB : B = 2 ^ aN a
    · rw [hB, i_lt_t (by omega) (by omega), Nat.sub_self]; rfl
    · rw [i_lt_f (by omega) (by omega), bc (by omega), cl_some, bc (by omega), cl_some, show 2 ^ aN a - B = (2 ^ aN a - (B + 1)) + 1 by omega]
      have p1 := pc_le B
      have p2 := pc_le best
      unfold stR
      by_cases h3 : pc best ≤ pc B
      · rw [i_le_t h3 (by omega), nP, start_x ok hd hx hs fu (B + 1) best hb (by omega) (by omega), if_neg (by omega)]
      · rw [i_le_f (by omega) (by omega), i_eq_f (by decide) (by decide) (by decide), hs.2.1, bb_and _ (by omega) _ (by omega)]
        have h7 := and_lt6 (B := B) (show cA (aC a) < 64 by omega)
        by_cases h4 : B &&& cA (aC a) = 0
        · rw [i_eq_t h4, all_b ok hd (by omega) hx hs, cl_some, nP]
          by_cases h5 : alB a d B = true
          · rw [if_pos h5, i_eq_f (by decide) (by decide) (by decide), start_x ok hd hx hs fu (B + 1) B (by omega) (by omega) (by omega), if_pos ⟨by omega, h4, h5⟩]
          · rw [if_neg h5, i_eq_t rfl, start_x ok hd hx hs fu (B + 1) best hb (by omega) (by omega), if_neg (show ¬ (pc B < pc best ∧ B &&& cA (aC a) = 0 ∧ alB a d B = true) from fun q => h5 q.2.2)]
        · rw [i_eq_f h4 (by omega) (by decide), nP, start_x ok hd hx hs fu (B + 1) best hb (by omega) (by omega), if_neg (show ¬ (pc B < pc best ∧ B &&& cA (aC a) = 0 ∧ alB a d B = true) from fun q => h4 q.2.1)]
theorem start_m {a : Ab} (ok : okA a) {d : Nat} (hd : d ≤ 20) {kk : Int32 → St → Option (Int32 × St)} : ∀ (fu B best : Nat) (s : St), mN a s → stAt s 71 0 (aN a) (aC a) → best < 2 ^ aN a → (best = 2 ^ aN a - 1 - cA (aC a) ∨ best < B) → B ≤ 2 ^ aN a → 2 ^ aN a < fu + B → ∃ s', M_X7_start_L32 (nI d) kk fu (nI best) (nI B) s = kk (nI (stR (alB a d) (cA (aC a)) (2 ^ aN a - B) B best)) s' ∧ Ex (fun q => q = 67 ∨ q = 78) s s' ∧ (∀ i, i ≠ 23 → s'.1 67 i = s.1 67 i)
  | 0, B, best, s, _, _, _, _, h1, h2 => absurd h2 (by omega)
  | fu + 1, B, best, s, hx, hs, hb, hbb, h1, h2 => by
    have hn := ok.1
    have h6 := pow6 hn
    have hA := ok.2.2.1.2.1
    rw [M_X7_start_L32, hx.1]
    simp only [nl_0, nl_1, jn, if_true]
    rw [bt_sh1 (by omega)]
    by_cases hB : B = 2 ^ aN a
    · rw [hB, i_le_t (Nat.le_refl _) (by omega), Nat.sub_self]
      exact ⟨s, rfl, Ex.rf, fun i _ => rfl⟩
    · rw [i_le_f (by omega) (by omega), bits (by omega), cl_some, bits (by omega), cl_some, show 2 ^ aN a - B = (2 ^ aN a - (B + 1)) + 1 by omega]
      have p1 := pc_le B
      have p2 := pc_le best
      have hq := bb_lt (pc B) p1 (pc best) p2
      have h7 := and_lt6 (B := B) (show cA (aC a) < 64 by omega)
      unfold stR
      by_cases h3 : pc B < pc best
      · rw [if_pos (hq.1.mpr h3), i_eq_f (by decide) (by decide) (by decide), rd_nI (by decide) (by decide), hs.2.1, bb_and _ (by omega) _ (by omega)]
        by_cases h4 : B &&& cA (aC a) = 0
        · obtain ⟨s1, g1, g2, g3⟩ := all_m ok hd (B := B) (by omega) hx hs
          have hx1 : mN a s1 := hx.ex (by rw [g3 0 (by decide)]) g2 (fun k hk => by omega)
          have hs1 : stAt s1 71 0 (aN a) (aC a) := hs.ex g2 (by omega)
          rw [i_eq_t h4, g1, cl_some, nP]
          by_cases h5 : alB a d B = true
          · rw [if_pos h5, i_eq_f (by decide) (by decide) (by decide), if_pos ⟨h3, h4, h5⟩]
            obtain ⟨s2, r1, r2, r3⟩ := start_m ok hd (kk := kk) fu (B + 1) B s1 hx1 hs1 (by omega) (by omega) (by omega) (by omega)
            exact ⟨s2, r1, g2.tr1 r2, fun i hi => by rw [r3 i hi, g3 i hi]⟩
          · rw [if_neg h5, i_eq_t rfl, if_neg (show ¬ (pc B < pc best ∧ B &&& cA (aC a) = 0 ∧ alB a d B = true) from fun q => h5 q.2.2)]
            obtain ⟨s2, r1, r2, r3⟩ := start_m ok hd (kk := kk) fu (B + 1) best s1 hx1 hs1 hb (by omega) (by omega) (by omega)
            exact ⟨s2, r1, g2.tr1 r2, fun i hi => by rw [r3 i hi, g3 i hi]⟩
        · rw [i_eq_f h4 (by omega) (by decide), nP, if_neg (show ¬ (pc B < pc best ∧ B &&& cA (aC a) = 0 ∧ alB a d B = true) from fun q => h4 q.2.1)]
          exact start_m ok hd (kk := kk) fu (B + 1) best s hx hs hb (by omega) (by omega) (by omega)
      · rw [if_neg (fun q => h3 (hq.1.mp q)), if_neg (show ¬ (pc B < pc best ∧ B &&& cA (aC a) = 0 ∧ alB a d B = true) from fun q => h3 q.1)]
        have go := start_m ok hd (kk := kk) fu (B + 1) best s hx hs hb (by omega) (by omega) (by omega)
        by_cases h8 : pc B = pc best
        · rw [if_pos (hq.2.mpr h8)]
          by_cases h9 : best ≤ B
          · rw [i_le_t h9 (by omega), nP]
            exact go
          · rw [i_le_f (by omega) (by omega), i_eq_f (by decide) (by decide) (by decide), rd_nI (by decide) (by decide), hs.2.1, bb_and _ (by omega) _ (by omega), i_eq_f ?_ (by omega) (by decide), nP]
            · exact go
            · intro h0
              have hbe : best = 2 ^ aN a - 1 - cA (aC a) := by omega
              rw [hbe] at h8
              have := bb_one hn hA (by omega) h0 h8
              omega
        · rw [if_neg (fun q => h8 (hq.2.mp q)), nP]
          exact go
theorem op_start (x1 : Int32) : ∀ a, okA a → Op2 (M_X6_start x1) (M_X7_start x1) a := by
  intro a ok
  have hn := ok.1
  have h6 := pow6 hn
  have hA := ok.2.2.1.2.1
  rcases in_cases x1 (m := 20) (by decide) with h | ⟨d, hd, rfl⟩
  · refine op2_same ok (-1) (fun s => ?_) (fun s => ?_)
    · unfold M_X6_start
      rw [nl_20, wi_0 h]; rfl
    · unfold M_X7_start
      rw [nl_20, in_0 h]; rfl
  refine op2_rd2 ok (nI (stR (alB a d) (cA (aC a)) (2 ^ aN a) 0 (2 ^ aN a - 1 - cA (aC a)))) (fun s hx => ⟨s, ?_, Ex.rf⟩) (fun s hx => ?_)
  · unfold M_X6_start M_X1_everyone
    rw [nl_20, wi_1 hd (by decide), cl_some, if_neg (by decide), hx.1.1, ev _ hn, cl_some, hx.2.1.2.1, bb_not _ hn _ hA, nl_0, start_x ok hd hx.1 hx.2.1 400 0 _ (by omega) (by omega) (by omega), Nat.sub_zero]
  · obtain ⟨s1, g1, g2, g3⟩ := start_m ok hd (kk := fun v17 s18 => some (v17, s18)) 400 0 (2 ^ aN a - 1 - cA (aC a)) s hx.1 hx.2.1 (by omega) (Or.inl rfl) (by omega) (by omega)
    refine ⟨s1, ?_, g2, g3⟩
    unfold M_X7_start
    rw [nl_20, in_1 hd (by decide), cl_some, if_neg (by decide), show rd s 71 14 1 = rd s 71 14 (nI 1) (α := Int32 × St) from rfl, rd_nI (by decide) (by decide), hx.2.1.2.1, hx.1.1, ev _ hn, bb_not _ hn _ hA, nl_0, g1, Nat.sub_zero]
