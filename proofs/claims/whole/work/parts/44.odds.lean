/-! ===== the lowest terms ===== -/
theorem dv_nI {α : Type} {b : Nat} {c : Option α} (h : 0 < b) (hb : b < 2147483648) : dv (nI b) c = c := by
  unfold dv
  rw [if_neg]
  rw [show (0 : Int32) = nI 0 from rfl, eEQ hb (by decide)]; omega
theorem rem_nI {a b : Nat} (ha : a < 2147483648) (h : 0 < b) (hb : b < 2147483648) : nI a - nI a / nI b * nI b = nI (a % b) := by
  rw [pk_div ha h hb, nM, nS (Nat.div_mul_le_self a b)]
  congr 1
  have := Nat.mod_add_div a b
  rw [Nat.mul_comm b] at this
  omega
theorem half_mod {b r : Nat} (hr : 0 < r) (hrb : r < b) : 2 * (b % r) < b := by
  have h1 := Nat.mod_lt b hr
  by_cases h : 2 * r ≤ b
  · omega
  · have : b % r = b - r := by
      rw [Nat.mod_eq_sub_mod (by omega), Nat.mod_eq_of_lt (by omega)]
    omega
theorem gcd_m {x0 x1 x2 : Int32} {kk : Int32 → St → Option (Int32 × St)} {s : St} : ∀ (k fu a b : Nat), a < 2147483648 → b < 2 ^ k → b < 2147483648 → 2 * k < fu → M_X7_lowest_L5 x0 x1 x2 kk fu (nI a) (nI b) s = kk (nI (Nat.gcd a b)) s
  | k, 0, a, b, _, _, _, h => absurd h (by omega)
  | 0, fu + 1, a, b, ha, hb, hb2, h => by
    have : b = 0 := by simpa using hb
    subst this
    rw [M_X7_lowest_L5, nl_0, i_le_t (Nat.le_refl _) (by omega), Nat.gcd_zero_right]
  | k + 1, fu + 1, a, b, ha, hb, hb2, h => by
    rw [M_X7_lowest_L5, nl_0]
    by_cases h0 : b = 0
    · subst h0
      rw [i_le_t (Nat.le_refl _) (by omega), Nat.gcd_zero_right]
    · have h1 := Nat.mod_lt a (show 0 < b by omega)
      rw [i_le_f (by omega) hb2, dv_nI (by omega) hb2, rem_nI ha (by omega) hb2]
      match fu, h with
      | fu + 1, h =>
        rw [M_X7_lowest_L5, nl_0]
        by_cases h2 : a % b = 0
        · rw [h2, i_le_t (Nat.le_refl _) (by omega), Nat.gcd_comm a b, Nat.gcd_rec b a, h2, Nat.gcd_zero_left]
        · have h3 := half_mod (b := b) (r := a % b) (by omega) h1
          rw [i_le_f (by omega) (by omega), dv_nI (by omega) (by omega), rem_nI hb2 (by omega) (by omega), gcd_m k fu (a % b) (b % (a % b)) (by omega) (by rw [Nat.pow_succ] at hb; omega) (by omega) (by omega), Nat.gcd_comm a b, Nat.gcd_rec b a, Nat.gcd_comm (a % b) (b % (a % b)), ← Nat.gcd_rec]
theorem gcd_x {kk : Int32 → St → Option (Int32 × St)} {s : St} : ∀ (k fu a b j : Nat), a < 2147483648 → b < 2 ^ k → b < 2147483648 → 2 * k < fu → j + 2 * k ≤ 64 → M_X6_commonDivisor_L7 kk fu (nI a) (nI b) (nI j) s = kk (nI (Nat.gcd a b)) s
  | k, 0, a, b, j, _, _, _, h, _ => absurd h (by omega)
  | 0, fu + 1, a, b, j, ha, hb, hb2, h, hj => by
    have : b = 0 := by simpa using hb
    subst this
    rw [M_X6_commonDivisor_L7, nl_0, nl_64, i_eq_t rfl, Nat.gcd_zero_right]
    split <;> rfl
  | k + 1, fu + 1, a, b, j, ha, hb, hb2, h, hj => by
    rw [M_X6_commonDivisor_L7, nl_0, nl_64, nl_1]
    by_cases h0 : b = 0
    · subst h0
      rw [i_eq_t rfl, Nat.gcd_zero_right]
      split <;> rfl
    · have h1 := Nat.mod_lt a (show 0 < b by omega)
      rw [i_le_f (by omega) (by omega), i_eq_f h0 hb2 (by decide), dv_nI (by omega) hb2, rem_nI ha (by omega) hb2, nP]
      match fu, h with
      | fu + 1, h =>
        rw [M_X6_commonDivisor_L7, nl_0, nl_64, nl_1]
        by_cases h2 : a % b = 0
        · rw [h2, i_eq_t rfl, Nat.gcd_comm a b, Nat.gcd_rec b a, h2, Nat.gcd_zero_left]
          split <;> rfl
        · have h3 := half_mod (b := b) (r := a % b) (by omega) h1
          rw [i_le_f (by omega) (by omega), i_eq_f h2 (by omega) (by decide), dv_nI (by omega) (by omega), rem_nI hb2 (by omega) (by omega), nP, gcd_x k fu (a % b) (b % (a % b)) (j + 1 + 1) (by omega) (by rw [Nat.pow_succ] at hb; omega) (by omega) (by omega) (by omega), Nat.gcd_comm a b, Nat.gcd_rec b a, Nat.gcd_comm (a % b) (b % (a % b)), ← Nat.gcd_rec]
/-! ===== the weights ===== -/
def wg (x : Nat) : Nat → Nat → Nat
  | 0, k => if k = 0 then 1 else 0
  | n + 1, 0 => 10 * wg x n 0
  | n + 1, k + 1 => x * wg x n k + (10 - x) * wg x n (k + 1)
theorem wg_0 (x : Nat) : ∀ n, wg x n 0 = 10 ^ n
  | 0 => rfl
  | n + 1 => by
    show 10 * wg x n 0 = 10 ^ (n + 1)
    rw [wg_0 x n, Nat.pow_succ, Nat.mul_comm]
theorem wg_le {x : Nat} (hx : x ≤ 10) : ∀ n k, wg x n k ≤ 10 ^ n
  | 0, k => by
    show (if k = 0 then 1 else 0) ≤ 1
    split <;> omega
  | n + 1, 0 => by rw [wg_0]; exact Nat.le_refl _
  | n + 1, k + 1 => by
    show x * wg x n k + (10 - x) * wg x n (k + 1) ≤ 10 ^ (n + 1)
    have h1 := Nat.mul_le_mul_left x (wg_le hx n k)
    have h2 := Nat.mul_le_mul_left (10 - x) (wg_le hx n (k + 1))
    have h3 : x * 10 ^ n + (10 - x) * 10 ^ n = 10 * 10 ^ n := by rw [← Nat.add_mul]; congr 1; omega
    rw [Nat.pow_succ, Nat.mul_comm (10 ^ n) 10]
    omega
theorem wg_hi (x : Nat) : ∀ n k, n < k → wg x n k = 0
  | 0, k, h => if_neg (by omega)
  | n + 1, 0, h => absurd h (by omega)
  | n + 1, k + 1, h => by
    show x * wg x n k + (10 - x) * wg x n (k + 1) = 0
    rw [wg_hi x n k (by omega), wg_hi x n (k + 1) (by omega)]; rfl
/-- the reference: every way the days can go -/
def pr (x B : Nat) : Nat → Nat
  | 0 => 1
  | j + 1 => pr x B j * (if B.testBit j then x else 10 - x)
def swt (x n l : Nat) : Nat := sm (fun B => if pc B < l then 0 else pr x B n) (2 ^ n) 0
theorem sm_mul {f : Nat → Nat} {m : Nat} : ∀ (c j : Nat), sm (fun i => f i * m) c j = sm f c j * m
  | 0, j => by simp [sm]
  | c + 1, j => by rw [sm_s, sm_s, sm_mul c (j + 1), Nat.add_mul]
theorem sm_shift {f : Nat → Nat} {d : Nat} : ∀ (c j : Nat), sm f c (j + d) = sm (fun i => f (i + d)) c j
  | 0, j => rfl
  | c + 1, j => by
    rw [sm_s, sm_s, show j + d + 1 = (j + 1) + d by omega, sm_shift c (j + 1)]
theorem tb_lo : ∀ n, n < 8 → ∀ B, B < 2 ^ n → B.testBit n = false ∧ (B + 2 ^ n).testBit n = true ∧ pc (B + 2 ^ n) = pc B + 1 := by decide +kernel
theorem tb_hi : ∀ n, n < 8 → ∀ B, B < 2 ^ n → ∀ j, j < n → (B + 2 ^ n).testBit j = B.testBit j := by decide +kernel
theorem pr_congr {x B C : Nat} : ∀ n, (∀ j, j < n → B.testBit j = C.testBit j) → pr x B n = pr x C n
  | 0, _ => rfl
  | n + 1, h => by
    show pr x B n * _ = pr x C n * _
    rw [pr_congr n (fun j hj => h j (by omega)), h n (by omega)]
theorem swt_wg {x : Nat} : ∀ n l, n ≤ 8 → x ≤ 10 → swt x n l = wg x n l
  | 0, l, _, _ => by
    show (if pc 0 < l then 0 else 1) + 0 = if l = 0 then 1 else 0
    rw [show pc 0 = 0 from by decide]
    by_cases h : l = 0
    · subst h; rfl
    · rw [if_pos (by omega), if_neg h]
  | n + 1, l, hn, hx => by
    have e1 := sm_split (f := fun B => if pc B < l then 0 else pr x B (n + 1)) (2 ^ n) (2 ^ n) 0
    have e2 : sm (fun B => if pc B < l then 0 else pr x B (n + 1)) (2 ^ n) 0 = swt x n l * (10 - x) := by
      unfold swt
      rw [← sm_mul]
      refine sm_congr _ _ (fun B h1 h2 => ?_)
      show (if pc B < l then 0 else pr x B n * (if B.testBit n then x else 10 - x)) = _
      rw [(tb_lo n (by omega) B (by omega)).1, if_neg (show ¬ (false = true) by decide)]
      split
      · rw [Nat.zero_mul]
      · rfl
    have e3 : sm (fun B => if pc B < l then 0 else pr x B (n + 1)) (2 ^ n) (0 + 2 ^ n) = swt x n (l - 1) * x := by
      unfold swt
      rw [← sm_mul, sm_shift]
      refine sm_congr _ _ (fun B h1 h2 => ?_)
      have hb := tb_lo n (by omega) B (by omega)
      show (if pc (B + 2 ^ n) < l then 0 else pr x (B + 2 ^ n) n * (if (B + 2 ^ n).testBit n then x else 10 - x)) = _
      rw [hb.2.1, hb.2.2, if_pos rfl, pr_congr n (fun j hj => tb_hi n (by omega) B (by omega) j hj)]
      by_cases h : pc B < l - 1
      · rw [if_pos (by omega), if_pos h, Nat.zero_mul]
      · rw [if_neg (by omega), if_neg h]
    have e4 : swt x (n + 1) l = swt x n l * (10 - x) + swt x n (l - 1) * x := by
      rw [← e2, ← e3, ← e1]
      unfold swt
      rw [Nat.pow_succ, Nat.mul_two]
    rw [e4, swt_wg n l (by omega) hx, swt_wg n (l - 1) (by omega) hx]
    match l with
    | 0 =>
      show wg x n 0 * (10 - x) + wg x n 0 * x = 10 * wg x n 0
      rw [← Nat.mul_add, Nat.mul_comm]; congr 1; omega
    | l + 1 =>
      show wg x n (l + 1) * (10 - x) + wg x n l * x = x * wg x n l + (10 - x) * wg x n (l + 1)
      rw [Nat.mul_comm _ x, Nat.mul_comm _ (10 - x), Nat.add_comm]
theorem od49 {x1 x2 x4 x5 : Int32} {n : Nat} (hn : n ≤ 8) {kk : Int32 → St → Option (Int32 × St)} {s : St} : ∀ (fu j : Nat), j ≤ n → n < fu + j → M_X7_odds_L49 x1 x2 (nI n) x4 x5 kk fu (nI (10 ^ j)) (nI j) s = kk (nI (10 ^ n)) s
  | 0, j, h1, h2 => absurd h2 (by omega)
  | fu + 1, j, h1, h2 => by
    rw [M_X7_odds_L49]
    by_cases hj : j = n
    · subst hj
      rw [i_le_t (Nat.le_refl _) (by omega)]
    · rw [i_le_f (by omega) (by omega), nl_10, nM, show nI j + 1 = nI (j + 1) from nP, ← Nat.pow_succ, od49 hn fu (j + 1) (by omega) (by omega)]
theorem od85 {x1 x4 x5 x6 : Int32} {x n B : Nat} (hx : x ≤ 10) (hn : n ≤ 8) (hB : B < 256) {kk : Int32 → St → Option (Int32 × St)} {s : St} : ∀ (fu j : Nat), j ≤ n → n < fu + j → M_X7_odds_L85 x1 (nI x) (nI n) x4 x5 x6 (nI B) kk fu (nI (pr x B j)) (nI j) s = kk (nI (pr x B n)) s
  | 0, j, h1, h2 => absurd h2 (by omega)
  | fu + 1, j, h1, h2 => by
    rw [M_X7_odds_L85]
    simp only [nl_0, nl_1, nl_2, nl_3, nl_4, nl_5, nl_6, nl_7, nl_8, nl_9, nl_10, nl_14, nl_20, nl_30, nl_32, nl_48, nl_57, nl_59, nl_60, nl_64, nl_99, nl_100, nl_102, nl_126, nl_140, nl_147, nl_181, nl_255, nl_999, jn]
    by_cases hj : j = n
    · subst hj
      rw [i_le_t (Nat.le_refl _) (by omega)]
    · rw [i_le_f (by omega) (by omega), has_m hB (by omega), cl_some, nS hx, nM, nM, nP]
      by_cases hb : B.testBit j = true
      · rw [if_pos hb, i_eq_f (by decide) (by decide) (by decide)]
        have := od85 (x1 := x1) (x4 := x4) (x5 := x5) (x6 := x6) hx hn hB (kk := kk) (s := s) fu (j + 1) (by omega) (by omega)
        rw [show pr x B (j + 1) = pr x B j * x from by show pr x B j * _ = _; rw [if_pos hb]] at this
        exact this
      · rw [if_neg hb, i_eq_t rfl]
        have := od85 (x1 := x1) (x4 := x4) (x5 := x5) (x6 := x6) hx hn hB (kk := kk) (s := s) fu (j + 1) (by omega) (by omega)
        rw [show pr x B (j + 1) = pr x B j * (10 - x) from by show pr x B j * _ = _; rw [if_neg hb]] at this
        exact this
theorem od71 {x4 x6 : Int32} {f x n l : Nat} (hf : f < 6) (hx : x ≤ 10) (hn : n ≤ 8) (hl : l ≤ 9) {kk : Int32 → St → Option (Int32 × St)} {s : St} (hs : s.1 71 (2 + f) = nI l) : ∀ (fu B acc : Nat), B ≤ 2 ^ n → 2 ^ n < fu + B → M_X7_odds_L71 (nI f) (nI x) (nI n) x4 x6 kk fu (nI acc) (nI B) s = kk (nI (acc + sm (fun B => if pc B < l then 0 else pr x B n) (2 ^ n - B) B)) s
  | 0, B, acc, h1, h2 => absurd h2 (by omega)
  | fu + 1, B, acc, h1, h2 => by
    have h8 : 2 ^ n ≤ 256 := Nat.pow_le_pow_right (by decide) hn
    rw [M_X7_odds_L71]
    simp only [nl_0, nl_1, nl_2, nl_3, nl_4, nl_5, nl_6, nl_7, nl_8, nl_9, nl_10, nl_14, nl_20, nl_30, nl_32, nl_48, nl_57, nl_59, nl_60, nl_64, nl_99, nl_100, nl_102, nl_126, nl_140, nl_147, nl_181, nl_255, nl_999, jn]
    rw [bt_sh1 (by omega)]
    by_cases hB : B = 2 ^ n
    · rw [hB, i_le_t (Nat.le_refl _) (by omega), Nat.sub_self]; rfl
    · have hp := pc_le B
      rw [i_le_f (by omega) (by omega), show nI 1 = nI (pr x B 0) from rfl, od85 hx hn (by omega) 400 0 (by omega) (by omega), bits (by omega), cl_some, show nI (pr x B 0) = nI 1 from rfl, nP, nP, rd_nI (by omega) (by decide), hs, show 2 ^ n - B = (2 ^ n - (B + 1)) + 1 by omega, sm_s (f := fun B => if pc B < l then 0 else pr x B n)]
      by_cases h : pc B < l
      · rw [i_lt_t h (by omega), nP, od71 hf hx hn hl hs fu (B + 1) _ (by omega) (by omega), if_pos h, Nat.add_assoc]
      · rw [i_lt_f (by omega) (by omega), nP, nP, od71 hf hx hn hl hs fu (B + 1) _ (by omega) (by omega), if_neg h, Nat.add_assoc]
/-! the class: the same, day by day -/
def wAt (s : St) (x n : Nat) : Prop := ∀ k, k ≤ 8 → s.1 66 k = nI (wg x n k)
theorem w9 {x1 x2 : Int32} {kk : St → Option (Int32 × St)} : ∀ (fu j : Nat) (s : St), j ≤ 9 → 9 < fu + j → ∃ s', M_X6_weigh_L9 x1 x2 kk fu (nI j) s = kk s' ∧ Ex (fun q => q = 66) s s' ∧ (∀ i, j ≤ i → i < 9 → s'.1 66 i = nI 0) ∧ ∀ i, i < j → s'.1 66 i = s.1 66 i
  | 0, j, s, h1, h2 => absurd h2 (by omega)
  | fu + 1, j, s, h1, h2 => by
    rw [M_X6_weigh_L9]
    simp only [nl_0, nl_1, nl_2, nl_3, nl_4, nl_5, nl_6, nl_7, nl_8, nl_9, nl_10, nl_14, nl_20, nl_30, nl_32, nl_48, nl_57, nl_59, nl_60, nl_64, nl_99, nl_100, nl_102, nl_126, nl_140, nl_147, nl_181, nl_255, nl_999]
    by_cases hj : j = 9
    · subst hj
      rw [i_lt_t (by omega) (by omega)]
      exact ⟨s, rfl, Ex.rf, fun i h3 h4 => by omega, fun i _ => rfl⟩
    · rw [i_lt_f (by omega) (by omega), wr_nI (by omega) (by decide), nP]
      obtain ⟨s', e1, e2, e3, e4⟩ := w9 (x1 := x1) (x2 := x2) (kk := kk) fu (j + 1) (up s 66 j (nI 0)) (by omega) (by omega)
      refine ⟨s', e1, Ex.u1.tr1 e2, fun i h3 h4 => ?_, fun i h3 => by rw [e4 i (by omega), up_i (by omega)]⟩
      by_cases hi : i = j
      · subst hi; rw [e4 i (by omega), up_s]
      · exact e3 i (by omega) h4
theorem dn1 {k : Nat} (h : 0 < k) : nI k + -1 = nI (k - 1) := by
  rw [← nS (show 1 ≤ k by omega), Int32.sub_eq_add_neg]; rfl
theorem w39 {x2 x3 : Int32} {x n : Nat} (hx : x ≤ 10) {kk : St → Option (Int32 × St)} : ∀ (fu k : Nat) (s : St), k ≤ 8 → k < fu → (∀ i, i ≤ k → s.1 66 i = nI (wg x n i)) → ∃ s', M_X6_weigh_L39 (nI x) x2 x3 kk fu (nI k) s = kk s' ∧ Ex (fun q => q = 66) s s' ∧ (∀ i, 1 ≤ i → i ≤ k → s'.1 66 i = nI (wg x (n + 1) i)) ∧ ∀ i, i = 0 ∨ k < i → s'.1 66 i = s.1 66 i
  | 0, k, s, h1, h2, _ => absurd h2 (by omega)
  | fu + 1, k, s, h1, h2, h3 => by
    rw [M_X6_weigh_L39]
    simp only [nl_1, nl_10]
    by_cases hk : k = 0
    · subst hk
      rw [i_lt_t (by omega) (by omega)]
      exact ⟨s, rfl, Ex.rf, fun i h3 h4 => by omega, fun i _ => rfl⟩
    · rw [i_lt_f (by omega) (by omega), nS (by omega), rd_nI (by omega) (by decide), rd_nI (by omega) (by decide), h3 _ (by omega), h3 _ (by omega), nS hx, nM, nM, nP, wr_nI (by omega) (by decide), show nI k + -nI 1 = nI (k - 1) from dn1 (by omega)]
      have hv : x * wg x n (k - 1) + (10 - x) * wg x n k = wg x (n + 1) k := by
        obtain ⟨m, rfl⟩ : ∃ m, k = m + 1 := ⟨k - 1, by omega⟩
        rfl
      rw [hv]
      obtain ⟨s', e1, e2, e3, e4⟩ := w39 (x2 := x2) (x3 := x3) hx (kk := kk) fu (k - 1) (up s 66 k (nI (wg x (n + 1) k))) (by omega) (by omega) (fun i hi => by rw [up_i (by omega)]; exact h3 i (by omega))
      refine ⟨s', e1, Ex.u1.tr1 e2, fun i h4 h5 => ?_, fun i h4 => by rw [e4 i (by omega), up_i (by omega)]⟩
      by_cases hi : i = k
      · subst hi; rw [e4 i (by omega), up_s]
      · exact e3 i h4 (by omega)
theorem w30 {x n : Nat} (hx : x ≤ 10) (hn : n ≤ 8) {kk : St → Option (Int32 × St)} : ∀ (fu j : Nat) (s : St), j ≤ n → n < fu + j → wAt s x j → ∃ s', M_X6_weigh_L30 (nI x) (nI n) kk fu (nI j) s = kk s' ∧ Ex (fun q => q = 66) s s' ∧ wAt s' x n
  | 0, j, s, h1, h2, _ => absurd h2 (by omega)
  | fu + 1, j, s, h1, h2, h3 => by
    rw [M_X6_weigh_L30]
    simp only [nl_0, nl_1, nl_2, nl_3, nl_4, nl_5, nl_6, nl_7, nl_8, nl_9, nl_10, nl_14, nl_20, nl_30, nl_32, nl_48, nl_57, nl_59, nl_60, nl_64, nl_99, nl_100, nl_102, nl_126, nl_140, nl_147, nl_181, nl_255, nl_999]
    by_cases hj : j = n
    · subst hj
      rw [i_le_t (Nat.le_refl _) (by omega)]
      exact ⟨s, rfl, Ex.rf, h3⟩
    · rw [i_le_f (by omega) (by omega), nP]
      obtain ⟨s1, e1, e2, e3, e4⟩ := w39 (x2 := nI n) (x3 := nI j) (x := x) (n := j) hx (kk := fun s7 => rd s7 66 9 (nI 0) fun v8 => wr s7 66 9 (nI 0) (nI 10 * v8) fun s9 => M_X6_weigh_L30 (nI x) (nI n) kk fu (nI (j + 1)) s9) 400 8 s (by omega) (by omega) (fun i hi => h3 i hi)
      rw [e1, rd_nI (by decide) (by decide), e4 0 (Or.inl rfl), h3 0 (by omega), nM, wr_nI (by decide) (by decide)]
      obtain ⟨s2, g1, g2, g3⟩ := w30 hx hn (kk := kk) fu (j + 1) (up s1 66 0 (nI (10 * wg x j 0))) (by omega) (by omega) (fun k hk => by
        by_cases h0 : k = 0
        · subst h0; rw [up_s]; rfl
        · rw [up_i h0]; exact e3 k (by omega) hk)
      exact ⟨s2, g1, (e2.tr1 Ex.u1).tr1 g2, g3⟩
theorem weigh_x {x n : Nat} (hx : x ≤ 10) (hn : n ≤ 8) (s : St) : ∃ s', M_X6_weigh (nI x) (nI n) s = some (0, s') ∧ Ex (fun q => q = 66) s s' ∧ wAt s' x n := by
  obtain ⟨s1, e1, e2, e3, e4⟩ := w9 (x1 := nI x) (x2 := nI n) (kk := fun s3 => M_X6_weigh_L30 (nI x) (nI n) (fun s10 => some (0, s10)) 400 0 s3) 400 1 (up s 66 0 (nI 1)) (by omega) (by omega)
  obtain ⟨s2, g1, g2, g3⟩ := w30 hx hn (kk := fun s10 => some (0, s10)) 400 0 s1 (by omega) (by omega) (fun k hk => by
    by_cases h0 : k = 0
    · subst h0; rw [e4 0 (by omega), up_s]; rfl
    · rw [e3 k (by omega) (by omega)]
      show _ = nI (if k = 0 then 1 else 0)
      rw [if_neg h0])
  refine ⟨s2, ?_, (Ex.u1.tr1 e2).tr1 g2, g3⟩
  unfold M_X6_weigh
  rw [show wr s 66 9 0 1 = wr s 66 9 (nI 0) (nI 1) (α := Int32 × St) from rfl, wr_nI (by decide) (by decide)]
  exact e1.trans g1
