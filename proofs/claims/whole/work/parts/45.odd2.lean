theorem ten_le {n : Nat} (hn : n ≤ 8) : 10 ^ n ≤ 100000000 := Nat.le_trans (Nat.pow_le_pow_right (by decide) hn) (by decide)
theorem op_odds (x1 x2 x3 x4 : Int32) : ∀ a, okA a → Op2 (M_X6_odds x1 x2 x3 x4) (M_X7_odds x1 x2 x3 x4) a := by
  intro a ok
  have hN := ok.1
  rcases pk_ix x1 (n := aN a) (by omega) with h | h | ⟨f, hf, rfl⟩
  · exact op2_rd ok (-1) (fun s hx => by unfold M_X6_odds; rw [has_x0 hx.1.1 (Or.inl h)]; rfl) (fun s hx => by unfold M_X7_odds; rw [isF_0 hx.1.1 hN (Or.inl h)]; rfl)
  · exact op2_rd ok (-1) (fun s hx => by unfold M_X6_odds; rw [has_x0 hx.1.1 (Or.inr h)]; rfl) (fun s hx => by unfold M_X7_odds; rw [isF_0 hx.1.1 hN (Or.inr h)]; rfl)
  have hX : ∀ s, Rx a s → M_X1_has 9 (nI f) s = some (1, s) := fun s hx => has_x1 hx.1.1 hf hN
  have hM : ∀ s, Rm a s → M_X7_isFarmer (nI f) s = some (1, s) := fun s hx => isF_1 hx.1.1 hf hN
  rcases in_cases x2 (m := 10) (by decide) with h | ⟨x, hx10, rfl⟩
  · refine op2_rd ok (-1) (fun s hx => ?_) (fun s hx => ?_)
    · unfold M_X6_odds; rw [hX s hx, cl_some, if_neg (by decide), nl_10, wi_0 h]; rfl
    · unfold M_X7_odds; rw [hM s hx, cl_some, if_neg (by decide), nl_10, in_0 h]; rfl
  rcases in_cases x3 (m := 8) (by decide) with h | ⟨n, hn, rfl⟩
  · refine op2_rd ok (-1) (fun s hx => ?_) (fun s hx => ?_)
    · unfold M_X6_odds; rw [hX s hx, cl_some, if_neg (by decide), nl_10, wi_1 hx10 (by decide), cl_some, if_neg (by decide), nl_8, wi_0 h]; rfl
    · unfold M_X7_odds; rw [hM s hx, cl_some, if_neg (by decide), nl_10, in_1 hx10 (by decide), cl_some, if_neg (by decide), nl_8, in_0 h]; rfl
  rcases in_cases x4 (m := 1) (by decide) with h | ⟨w, hw, rfl⟩
  · refine op2_rd ok (-1) (fun s hx => ?_) (fun s hx => ?_)
    · unfold M_X6_odds; rw [hX s hx, cl_some, if_neg (by decide), nl_10, wi_1 hx10 (by decide), cl_some, if_neg (by decide), nl_8, wi_1 hn (by decide), cl_some, if_neg (by decide), nl_1, wi_0 h]; rfl
    · unfold M_X7_odds; rw [hM s hx, cl_some, if_neg (by decide), nl_10, in_1 hx10 (by decide), cl_some, if_neg (by decide), nl_8, in_1 hn (by decide), cl_some, if_neg (by decide), nl_1, in_0 h]; rfl
  have hl := (ok.2.2.1.2.2 f hf).1
  have hT := ten_le hn
  have h27 : (2 : Nat) ^ 27 = 134217728 := by decide
  have h2n : 2 ^ n ≤ 2 ^ 8 := Nat.pow_le_pow_right (by decide) hn
  have hT0 : 0 < 10 ^ n := Nat.pow_pos (by decide)
  have hS := wg_le hx10 n (cL (aC a) f)
  have hg : 0 < Nat.gcd (10 ^ n) (wg x n (cL (aC a) f)) := Nat.gcd_pos_of_pos_left _ hT0
  have hg2 : Nat.gcd (10 ^ n) (wg x n (cL (aC a) f)) ≤ 10 ^ n := Nat.gcd_le_left _ hT0
  refine ⟨a, if w = 0 then nI (wg x n (cL (aC a) f) / Nat.gcd (10 ^ n) (wg x n (cL (aC a) f))) else nI (10 ^ n / Nat.gcd (10 ^ n) (wg x n (cL (aC a) f))), 0, ok, opX_read fun s hx => ?_, opM_read fun s hx => ?_⟩
  · obtain ⟨s1, e1, e2, e3⟩ := weigh_x hx10 hn s
    refine ⟨s1, ?_, e2.sx (fun k hk => by unfold rx; omega), e2.frx (fun k hk => by omega), by rw [e2.2]⟩
    have hcd : M_X6_commonDivisor (nI (10 ^ n)) (nI (wg x n (cL (aC a) f))) s1 = some (nI (Nat.gcd (10 ^ n) (wg x n (cL (aC a) f))), s1) := by
      unfold M_X6_commonDivisor
      rw [nl_0, gcd_x 27 400 _ _ 0 (by omega) (by rw [h27]; omega) (by omega) (by omega) (by omega), i_eq_f (by omega) (by omega) (by decide)]
    have h16 : s1.1 16 f = nI (cL (aC a) f) := by rw [e2.1 16 (by omega)]; exact (hx.2.1.2.2 f hf).1
    have h66 : s1.1 66 0 = nI (10 ^ n) := by rw [e3 0 (by omega), wg_0]
    unfold M_X6_odds
    simp only [jn]
    rw [hX s hx, cl_some, if_neg (by decide), nl_10, wi_1 hx10 (by decide), cl_some, if_neg (by decide), nl_8, wi_1 hn (by decide), cl_some, if_neg (by decide), nl_1, wi_1 hw (by decide), cl_some, if_neg (by decide), e1, cl_some, rd_nI (by omega) (by decide), h16]
    have fin : ∀ v, v = nI (wg x n (cL (aC a) f)) → (rd s1 66 9 0 fun v15 => cl (M_X6_commonDivisor v15 v s1) fun r16 s17 => if nI w = 0 then dv r16 <| some (v / r16, s17) else dv r16 <| some (v15 / r16, s17)) = some (if w = 0 then nI (wg x n (cL (aC a) f) / Nat.gcd (10 ^ n) (wg x n (cL (aC a) f))) else nI (10 ^ n / Nat.gcd (10 ^ n) (wg x n (cL (aC a) f))), s1) := by
      intro v hv
      subst hv
      rw [nl_0, rd_nI (by decide) (by decide), h66, hcd, cl_some]
      by_cases h0 : w = 0
      · rw [i_eq_t h0, dv_nI hg (by omega), pk_div (by omega) hg (by omega), if_pos h0]
      · rw [i_eq_f h0 (by omega) (by decide), dv_nI hg (by omega), pk_div (by omega) hg (by omega), if_neg h0]
    by_cases hln : cL (aC a) f ≤ n
    · rw [i_le_t hln (by omega), rd_nI (by omega) (by decide)]
      exact fin _ (e3 _ (by omega))
    · rw [i_le_f (by omega) (by omega)]
      exact fin _ (by rw [wg_hi x n _ (by omega)]; rfl)
  · refine ⟨s, ?_, Sm.rf, FrM.rf, rfl⟩
    have hlo : M_X7_lowest (nI (wg x n (cL (aC a) f))) (nI (10 ^ n)) (nI w) s = some (if w = 0 then nI (wg x n (cL (aC a) f) / Nat.gcd (10 ^ n) (wg x n (cL (aC a) f))) else nI (10 ^ n / Nat.gcd (10 ^ n) (wg x n (cL (aC a) f))), s) := by
      unfold M_X7_lowest
      rw [gcd_m 27 400 _ _ (by omega) (by rw [h27]; omega) (by omega) (by omega), Nat.gcd_comm (wg x n (cL (aC a) f)) (10 ^ n), nl_0]
      by_cases h0 : w = 0
      · rw [i_eq_t h0, dv_nI hg (by omega), pk_div (by omega) hg (by omega), if_pos h0]
      · rw [i_eq_f h0 (by omega) (by decide), dv_nI hg (by omega), pk_div (by omega) hg (by omega), if_neg h0]
    have hsum := swt_wg (x := x) n (cL (aC a) f) hn hx10
    unfold M_X7_odds
    rw [hM s hx, cl_some, if_neg (by decide), nl_10, in_1 hx10 (by decide), cl_some, if_neg (by decide), nl_8, in_1 hn (by decide), cl_some, if_neg (by decide), nl_1, in_1 hw (by decide), cl_some, if_neg (by decide), show nI 1 = nI (10 ^ 0) from rfl, nl_0, od49 hn 400 0 (by omega) (by omega), od71 (by omega) hx10 hn hl (st2 hx.2.1 hf) 400 0 0 (Nat.zero_le _) (by omega), Nat.zero_add, Nat.sub_zero]
    rw [show sm (fun B => if pc B < cL (aC a) f then 0 else pr x B n) (2 ^ n) 0 = wg x n (cL (aC a) f) from hsum, hlo, cl_some]
