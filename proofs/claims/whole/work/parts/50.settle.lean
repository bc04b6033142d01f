theorem l10 {kk : St → Option (Int32 × St)} : ∀ (fu j : Nat) (s : St), j ≤ 14 → 14 < fu + j → ∃ s', M_X7_settles_L10 kk fu (nI j) s = kk s' ∧ Ex (fun q => q = 71) s s' ∧ (∀ i, j ≤ i → i < 14 → s'.1 71 i = nI 0) ∧ ∀ i, i < j → s'.1 71 i = s.1 71 i
  | 0, j, s, h1, h2 => absurd h2 (by omega)
  | fu + 1, j, s, h1, h2 => by
    rw [M_X7_settles_L10]
    simp only [nl_0, nl_1, nl_2, nl_3, nl_4, nl_5, nl_6, nl_7, nl_8, nl_9, nl_10, nl_14, nl_20, nl_30, nl_32, nl_48, nl_57, nl_59, nl_60, nl_64, nl_99, nl_100, nl_102, nl_126, nl_140, nl_147, nl_181, nl_255, nl_999]
    by_cases hj : j = 14
    · subst hj
      rw [i_le_t (Nat.le_refl _) (by omega)]
      exact ⟨s, rfl, Ex.rf, fun i h3 h4 => by omega, fun i _ => rfl⟩
    · rw [i_le_f (by omega) (by omega), wr_nI (by omega) (by decide), nP]
      obtain ⟨s', e1, e2, e3, e4⟩ := l10 (kk := kk) fu (j + 1) (up s 71 j (nI 0)) (by omega) (by omega)
      refine ⟨s', e1, Ex.u1.tr1 e2, fun i h3 h4 => ?_, fun i h3 => by rw [e4 i (by omega), up_i (by omega)]⟩
      by_cases hi : i = j
      · subst hi; rw [e4 i (by omega), up_s]
      · exact e3 i (by omega) h4
theorem l31 {n : Nat} (hn : n ≤ 6) {D : Nat → Nat → Nat} {kk : St → Option (Int32 × St)} : ∀ (fu g : Nat) (s : St), s.1 67 0 = nI n → atD s n D → g ≤ n → n < fu + g → ∃ s', M_X7_settles_L31 kk fu (nI g) s = kk s' ∧ Ex (fun q => 68 ≤ q ∧ q ≤ 71) s s' ∧ (∀ f, g ≤ f → f < n → s'.1 68 f = nI (D f 0) ∧ s'.1 69 f = nI (D f 2) ∧ s'.1 70 f = nI (D f 3) ∧ s'.1 71 (2 + f) = nI (D f 1) ∧ s'.1 71 (8 + f) = nI (D f 4)) ∧ (∀ q, q < 2 → s'.1 71 q = s.1 71 q) ∧ ∀ f, f < g → s'.1 68 f = s.1 68 f ∧ s'.1 69 f = s.1 69 f ∧ s'.1 70 f = s.1 70 f ∧ s'.1 71 (2 + f) = s.1 71 (2 + f) ∧ s'.1 71 (8 + f) = s.1 71 (8 + f)
  | 0, g, s, _, _, h1, h2 => absurd h2 (by omega)
  | fu + 1, g, s, h0, hA, h1, h2 => by
    rw [M_X7_settles_L31, h0]
    simp only [nl_0, nl_1, nl_2, nl_3, nl_4, nl_5, nl_6, nl_7, nl_8, nl_9, nl_10, nl_14, nl_20, nl_30, nl_32, nl_48, nl_57, nl_59, nl_60, nl_64, nl_99, nl_100, nl_102, nl_126, nl_140, nl_147, nl_181, nl_255, nl_999]
    by_cases hg : g = n
    · subst hg
      rw [i_le_t (Nat.le_refl _) (by omega)]
      exact ⟨s, rfl, Ex.rf, fun f h3 h4 => by omega, fun q _ => rfl, fun f _ => ⟨rfl, rfl, rfl, rfl, rfl⟩⟩
    · have hA' := hA g (by omega)
      have a0 := hA' 0 (by omega)
      rw [i_le_f (by omega) (by omega), nM, rd_nI (by omega) (by decide), show 5 * g = 5 * g + 0 from rfl, a0, wr_nI (by omega) (by decide), show 5 * g + 0 = 5 * g from rfl, nP, rd_nI (by omega) (by decide), up_c (a := 77) (by decide), hA' 2 (by omega), wr_nI (by omega) (by decide), nP, rd_nI (by omega) (by decide), up_c (a := 77) (by decide), up_c (a := 77) (by decide), hA' 3 (by omega), wr_nI (by omega) (by decide), nP, rd_nI (by omega) (by decide), up_c (a := 77) (by decide), up_c (a := 77) (by decide), up_c (a := 77) (by decide), hA' 1 (by omega), nP, wr_nI (by omega) (by decide), nP, rd_nI (by omega) (by decide), up_c (a := 77) (by decide), up_c (a := 77) (by decide), up_c (a := 77) (by decide), up_c (a := 77) (by decide), hA' 4 (by omega), nP, wr_nI (by omega) (by decide), nP]
      generalize hS : up (up (up (up (up s 68 g (nI (D g 0))) 69 g (nI (D g 2))) 70 g (nI (D g 3))) 71 (2 + g) (nI (D g 1))) 71 (8 + g) (nI (D g 4)) = S
      have E : Ex (fun q => 68 ≤ q ∧ q ≤ 71) s S := by
        rw [← hS]
        exact ((((Ex.u2 (by omega)).tr1 (Ex.u2 (by omega))).tr1 (Ex.u2 (by omega))).tr1 (Ex.u2 (by omega))).tr1 (Ex.u2 (by omega))
      have c68 : S.1 68 = (up s 68 g (nI (D g 0))).1 68 := by rw [← hS, up_c (by decide), up_c (by decide), up_c (by decide), up_c (by decide)]
      have c69 : S.1 69 = (up (up s 68 g (nI (D g 0))) 69 g (nI (D g 2))).1 69 := by rw [← hS, up_c (by decide), up_c (by decide), up_c (by decide)]
      have c70 : S.1 70 = (up (up (up s 68 g (nI (D g 0))) 69 g (nI (D g 2))) 70 g (nI (D g 3))).1 70 := by rw [← hS, up_c (by decide), up_c (by decide)]
      obtain ⟨s', e1, e2, e3, e4, e5⟩ := l31 hn (kk := kk) fu (g + 1) S (by rw [E.1 67 (by omega)]; exact h0) (fun f hf j hj => by rw [E.1 77 (by omega)]; exact hA f hf j hj) (by omega) (by omega)
      refine ⟨s', e1, E.tr1 e2, fun f h3 h4 => ?_, fun q hq => ?_, fun f hf => ?_⟩
      · by_cases hf : f = g
        · subst hf
          obtain ⟨r1, r2, r3, r4, r5⟩ := e5 f (by omega)
          rw [r1, r2, r3, r4, r5, c68, c69, c70, ← hS]
          exact ⟨up_s, up_s, up_s, by rw [up_i (by omega), up_s], up_s⟩
        · exact e3 f (by omega) h4
      · rw [e4 q hq, ← hS, up_i (by omega), up_i (by omega), up_c (by decide), up_c (by decide), up_c (by decide)]
      · obtain ⟨r1, r2, r3, r4, r5⟩ := e5 f (by omega)
        rw [r1, r2, r3, r4, r5, c68, c69, c70, ← hS]
        refine ⟨by rw [up_i (by omega)], by rw [up_i (by omega), up_c (by decide)], by rw [up_i (by omega), up_c (by decide), up_c (by decide)], ?_, ?_⟩
        · rw [up_i (by omega), up_i (by omega), up_c (by decide), up_c (by decide), up_c (by decide)]
        · rw [up_i (by omega), up_i (by omega), up_c (by decide), up_c (by decide), up_c (by decide)]
def newA (n : Nat) (D : Nat → Nat → Nat) : Ab := (n, fun f => D f 0, fun f => D f 2, fun f => D f 3, (0, 0, fun f => D f 1, fun f => D f 4), [], fun _ => none, [], [])
theorem settle_m {n : Nat} (hn : n ≤ 6) {D : Nat → Nat → Nat} {s : St} (h20 : s.1 67 20 = nI n) (hA : atD s n D) : ∃ s', M_X7_settles s = some (0, s') ∧ Rm (newA n D) s' ∧ Ex (fun q => q = 67 ∨ (68 ≤ q ∧ q ≤ 71) ∨ q = 74) s s' ∧ s'.1 67 19 = s.1 67 19 := by
  obtain ⟨s1, a1, a2, a3, -⟩ := l10 (kk := fun s3 => M_X7_settles_L31 (fun s14 => pu s14 67 6 (0) fun s15 => pu s15 67 9 (0) fun s16 => wr s16 74 2 (0) (vp_nar .boolean (0)) fun s17 => wr s17 74 2 (1) (vp_nar .boolean (0)) fun s18 => pu s18 67 13 (0) fun s19 => some (0, s19)) 400 (0) s3) 400 0 (up s 67 0 (nI n)) (by omega) (by omega)
  obtain ⟨s2, b1', b2, b3, b4, -⟩ := l31 hn (D := D) (kk := fun s14 => pu s14 67 6 (0) fun s15 => pu s15 67 9 (0) fun s16 => wr s16 74 2 (0) (vp_nar .boolean (0)) fun s17 => wr s17 74 2 (1) (vp_nar .boolean (0)) fun s18 => pu s18 67 13 (0) fun s19 => some (0, s19)) 400 0 s1 (by rw [a2.1 67 (by decide), up_s]) (fun f hf j hj => by rw [a2.1 77 (by decide), up_c (by decide)]; exact hA f hf j hj) (by omega) (by omega)
  have c67 : s2.1 67 = (up s 67 0 (nI n)).1 67 := by rw [b2.1 67 (by omega), a2.1 67 (by decide)]
  refine ⟨up (up (up (up (up s2 67 6 (nI 0)) 67 9 (nI 0)) 74 0 (nI 0)) 74 1 (nI 0)) 67 13 (nI 0), ?_, ⟨⟨?_, fun f hf => ?_⟩, ⟨?_, ?_, fun f hf => ?_⟩, ⟨?_, fun i c hi => by simp [aH, newA] at hi⟩, fun i hi => ⟨?_, fun c hc => by cases hc⟩, ⟨?_, fun i c hi => by simp [aT, newA] at hi⟩, ⟨up_s, fun i hi => absurd hi (Nat.not_lt_zero i)⟩⟩, ?_, ?_⟩
  · unfold M_X7_settles
    rw [h20, pu_b]
    refine (a1.trans b1').trans ?_
    simp only [nl_0, nl_1, nl_2, nl_3, nl_4, nl_5, nl_6, nl_7, nl_8, nl_9, nl_10, nl_14, nl_20, nl_30, nl_32, nl_48, nl_57, nl_59, nl_60, nl_64, nl_99, nl_100, nl_102, nl_126, nl_140, nl_147, nl_181, nl_255, nl_999]
    rw [pu_b, pu_b, narb0, wr_nI (by decide) (by decide), wr_nI (by decide) (by decide), pu_b]
  · rw [up_i (by decide), up_c (by decide), up_c (by decide), up_i (by decide), up_i (by decide), c67, up_s]; rfl
  · have hf : f < n := hf
    obtain ⟨r1, r2, r3, r4, r5⟩ := b3 f (by omega) hf
    rw [up_c (by decide), up_c (by decide), up_c (by decide), up_c (by decide), up_c (by decide), up_c (a := 69) (by decide), up_c (a := 69) (by decide), up_c (a := 69) (by decide), up_c (a := 69) (by decide), up_c (a := 69) (by decide), up_c (a := 70) (by decide), up_c (a := 70) (by decide), up_c (a := 70) (by decide), up_c (a := 70) (by decide), up_c (a := 70) (by decide)]
    exact ⟨r1, r2, r3⟩
  · rw [up_c (by decide), up_c (by decide), up_c (by decide), up_c (by decide), up_c (by decide), b4 0 (by omega)]
    exact a3 0 (by omega) (by omega)
  · rw [up_c (by decide), up_c (by decide), up_c (by decide), up_c (by decide), up_c (by decide), b4 (0 + 1) (by omega)]
    exact a3 1 (by omega) (by omega)
  · have hf : f < n := hf
    obtain ⟨r1, r2, r3, r4, r5⟩ := b3 f (by omega) hf
    rw [up_c (by decide), up_c (by decide), up_c (by decide), up_c (by decide), up_c (by decide), show 0 + 2 + f = 2 + f by omega, show 0 + 8 + f = 8 + f by omega]
    exact ⟨r4, r5⟩
  · rw [up_i (by decide), up_c (by decide), up_c (by decide), up_i (by decide), up_s]; rfl
  · rw [up_c (by decide)]
    match i, hi with
    | 0, _ => rw [up_i (by decide), up_s]; rfl
    | 1, _ => rw [up_s]; rfl
  · rw [up_i (by decide), up_c (by decide), up_c (by decide), up_s]; rfl
  · have m1 : Ex (fun q => q = 67 ∨ (68 ≤ q ∧ q ≤ 71) ∨ q = 74) s (up s 67 0 (nI n)) := Ex.u2 (by omega)
    exact ((((((m1.tr1 (a2.mono (fun q hq => by omega))).tr1 (b2.mono (fun q hq => by omega))).tr1 (Ex.u2 (by omega))).tr1 (Ex.u2 (by omega))).tr1 (Ex.u2 (by omega))).tr1 (Ex.u2 (by omega))).tr1 (Ex.u2 (by omega))
  · rw [up_i (by decide), up_c (by decide), up_c (by decide), up_i (by decide), up_i (by decide), c67, up_i (by decide)]
def pars (T : List Nat) : Nat ⊕ (Nat × Nat × (Nat → Nat → Nat)) := ps T 7 0 (tok T 0) (fun _ _ => 0)
/-- what comes of it: where it fails, or the valley -/
def vres (T : List Nat) : Nat ⊕ (Nat × (Nat → Nat → Nat)) := match pars T with
  | .inl e => .inl e
  | .inr (n, e, D) => if alK D n n 0 then .inr (n, D) else .inl e
theorem valley_m {a : Ab} (ok : okA a) {s : St} (hx : Rm a s) : ∃ s', FrM s s' ∧ s'.2 67 = s.2 67 ∧ match vres (aX a) with
    | .inl e => M_X7_valley s = some (-10 - nI e, s') ∧ Sm s s'
    | .inr (n, D) => M_X7_valley s = some (nI n, s') ∧ Rm (newA n D) s' := by
  have hT : okX (aX a) := okX_of ok.2.2.2.2.2.2
  have hL := hT.1
  generalize hS0 : up (up (up (up s 67 14 (nI 0)) 67 18 (nI 0)) 67 19 (nI 0)) 67 20 (nI 0) = S0
  have E0 : Ex (fun q => q = 67) s S0 := by rw [← hS0]; exact ((Ex.u1.tr1 Ex.u1).tr1 Ex.u1).tr1 Ex.u1
  have hs0 : tM (aX a) S0 := ⟨by rw [← hS0, up_i (by decide), up_i (by decide), up_i (by decide), up_i (by decide)]; exact hx.2.2.2.2.2.1, fun i hi => by rw [E0.1 76 (by decide)]; exact hx.2.2.2.2.2.2 i hi⟩
  obtain ⟨s1, a1, a2, a3, a4⟩ := next_m hT (Nat.zero_le _) hs0 (by rw [← hS0, up_i (by decide), up_i (by decide), up_i (by decide), up_s])
  have hMB : MB (aX a) (false, tok (aX a) 0) s1 := ⟨⟨by rw [a3 13 (by omega)]; exact hs0.1, fun i hi => by rw [a2.1 76 (by decide)]; exact hs0.2 i hi⟩, tok_ok hT (Nat.zero_le _), a4, by rw [a3 18 (by omega), ← hS0, up_i (by decide), up_i (by decide), up_s]; rfl⟩
  generalize hK : (fun s10 : St => M_X7_valley_L57 (fun s16 => if (s16.1 67 18) = 0 then (cl (M_X7_settles s16) fun r17 s18 => some ((s18.1 67 19), s18)) else (some (((-10) - (s16.1 67 15)), s16))) 400 (0) s10) = K
  obtain ⟨s2, b1', b2, b3, b4⟩ := l24 hT (kk := K) 400 0 _ (fun _ _ => 0) s1 hMB (by rw [a3 20 (by omega), ← hS0, up_s]) (by rw [a3 19 (by omega), ← hS0, up_i (by decide), up_s]) (by omega) (fun g hg => absurd hg (Nat.not_lt_zero g)) (by omega)
  have hpo : rsOk (pars (aX a)) := ps_ok hT 7 0 _ _ (tok_ok hT (Nat.zero_le _)) (by omega) (fun g hg => absurd hg (Nat.not_lt_zero g))
  have run : M_X7_valley s = K s2 := by
    unfold M_X7_valley
    rw [← b1', pu_b, show (0 : Int32) = nI 0 from rfl, puZ0, pu_b, pu_b, hS0, show M_X7_next S0 = some (nI 0, s1) from a1, cl_some, ← hK]; rfl
  have E2 : Ex (fun q => q = 67 ∨ q = 77) s s2 := ((E0.tr1 a2).mono (fun q hq => by omega)).tr1 b2
  have f2 : ∀ q, q < 14 → s2.1 67 q = s.1 67 q := fun q hq => by rw [b3 q (by omega), a3 q (by omega), ← hS0, up_i (by omega), up_i (by omega), up_i (by omega), up_i (by omega)]
  have sm2 : Sm s s2 := ⟨fun k h1 h2 => E2.1 k (by omega), f2 0 (by omega), f2 6 (by omega), f2 9 (by omega), f2 13 (by omega)⟩
  have b4 : rsM (pars (aX a)) s2 := b4
  rw [run, ← hK]
  unfold vres
  match hp : pars (aX a), b4, hpo with
  | .inl e, b4, _ =>
    obtain ⟨h18, h15⟩ := b4
    refine ⟨s2, E2.frm (fun k hk => by omega), by rw [E2.2], ?_, sm2⟩
    show M_X7_valley_L57 _ 400 0 s2 = _
    rw [M_X7_valley_L57, h18]
    have : (if nI 1 = (0 : Int32) then (cl (M_X7_settles s2) fun r17 s18 => some ((s18.1 67 19), s18)) else (some (((-10) - (s2.1 67 15)), s2))) = some (-10 - nI e, s2) := by rw [if_neg (by decide), h15]
    split
    · exact this
    · rw [if_neg (by decide)]; exact this
  | .inr (n, e, D), b4, hpo =>
    obtain ⟨h18, h15, h20, h19, hA⟩ := b4
    obtain ⟨hn, he, hD⟩ := hpo
    obtain ⟨s3, c1, c2, c3, c4⟩ := l57 hn hD (kk := fun s16 => if (s16.1 67 18) = 0 then (cl (M_X7_settles s16) fun r17 s18 => some ((s18.1 67 19), s18)) else (some (((-10) - (s16.1 67 15)), s16))) 400 0 s2 h20 h18 hA (by omega) (by omega)
    have c1 : M_X7_valley_L57 (fun s16 => if (s16.1 67 18) = 0 then (cl (M_X7_settles s16) fun r17 s18 => some ((s18.1 67 19), s18)) else (some (((-10) - (s16.1 67 15)), s16))) 400 0 s2 = _ := c1
    have c4 : s3.1 67 18 = nI (b1 (!(alK D n n 0))) := c4
    have E3 : Ex (fun q => q = 67 ∨ q = 77) s s3 := E2.tr1 (c2.mono (fun q hq => by omega))
    dsimp only
    rw [c1, c4]
    by_cases hal : alK D n n 0 = true
    · rw [if_pos hal, hal]
      obtain ⟨s4, d1, d2, d3, d4⟩ := settle_m hn (D := D) (s := s3) (by rw [c3 20 (by decide)]; exact h20) (fun f hf j hj => by rw [c2.1 77 (by decide)]; exact hA f hf j hj)
      have E4 : Ex (fun q => 67 ≤ q) s s4 := (E3.mono (fun q hq => by omega)).tr1 (d3.mono (fun q hq => by omega))
      refine ⟨s4, E4.frm (fun k hk => hk), by rw [E4.2], ?_, d2⟩
      rw [if_pos (by rfl), d1, cl_some, d4, c3 19 (by decide), h19]
    · rw [if_neg hal, show alK D n n 0 = false by simpa using hal]
      refine ⟨s3, E3.frm (fun k hk => by omega), by rw [E3.2], ?_, sm2.tr ⟨fun k h1 h2 => c2.1 k (by omega), c3 0 (by decide), c3 6 (by decide), c3 9 (by decide), c3 13 (by decide)⟩⟩
      rw [if_neg (by decide), c3 15 (by decide), h15]
