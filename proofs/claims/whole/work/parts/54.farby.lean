theorem far_m {a b : Nat} (ha : a ≤ 30) (hb : b ≤ 30) {s : St} : M_X7_far (nI a) (nI b) s = some (nI (if b ≤ a then a - b else b - a), s) := by
  unfold M_X7_far
  by_cases h : b ≤ a
  · rw [i_le_t h (by omega), nS h, if_pos h]
  · rw [i_le_f (by omega) (by omega), nS (by omega), if_neg h]
theorem dgt_s {k r : Nat} : dgt (k + 1) r k = r % 6 := by
  unfold dgt
  rw [show k + 1 - 1 - k = 0 by omega, Nat.pow_zero, Nat.div_one]
theorem dgt_d {k r f : Nat} (hf : f < k) : dgt (k + 1) r f = dgt k (r / 6) f := by
  unfold dgt
  rw [show k + 1 - 1 - f = (k - 1 - f) + 1 by omega, Nat.pow_succ, Nat.mul_comm (6 ^ (k - 1 - f)) 6, ← Nat.div_div_eq_div_mul]
theorem dnk {k : Nat} : nI k + -nI 1 = if k = 0 then -1 else nI (k - 1) := by
  by_cases hx : k = 0
  · subst hx; rw [if_pos rfl]; decide
  · rw [if_neg hx]; exact dn1 (by omega)
theorem fbm {a : Ab} (ok : okA a) {kk : Int32 → Int32 → St → Option (Int32 × St)} : ∀ (fu k r A d : Nat) (b : Bool) (s : St), k ≤ aN a → k < fu → A < 64 → r < 100000 → mN a s → ∃ s', M_X7_farBy_L18 kk fu (nI r) (nI A) (nI d) (nI (b1 b)) (if k = 0 then -1 else nI (k - 1)) s = kk (nI (bw (aF a) (aN a) k r A d b).1) (nI (b1 (bw (aF a) (aN a) k r A d b).2)) s' ∧ Ex (fun q => q = 79) s s' ∧ (∀ f, f < k → s'.1 79 f = nI (dgt k r f)) ∧ ∀ f, k ≤ f → s'.1 79 f = s.1 79 f
  | 0, k, r, A, d, b, s, _, h, _, _, _ => absurd h (by omega)
  | fu + 1, 0, r, A, d, b, s, h1, h2, hA, hr, hx => by
    rw [M_X7_farBy_L18, if_pos rfl, if_pos (by decide)]
    exact ⟨s, rfl, Ex.rf, fun f hf => absurd hf (Nat.not_lt_zero f), fun f _ => rfl⟩
  | fu + 1, k + 1, r, A, d, b, s, h1, h2, hA, hr, hx => by
    have hn := ok.1
    have hg : r % 6 < 6 := Nat.mod_lt _ (by decide)
    have hq : r / 6 < 100000 := by omega
    have hA' : A ||| 2 ^ (r % 6) < 64 := Nat.or_lt_two_pow (n := 6) hA (Nat.pow_lt_pow_right (by decide) hg)
    have hFk := (ok.2.1 k (by omega)).1
    have e0 : (if k + 1 = 0 then (-1 : Int32) else nI (k + 1 - 1)) = nI k := by rw [if_neg (by omega)]; rfl
    rw [M_X7_farBy_L18, e0]
    simp only [nl_0, nl_1, nl_2, nl_3, nl_4, nl_5, nl_6, nl_7, nl_8, nl_9, nl_10, nl_14, nl_20, nl_30, nl_32, nl_48, nl_57, nl_59, nl_60, nl_64, nl_99, nl_100, nl_102, nl_126, nl_140, nl_147, nl_181, nl_255, nl_999, jn, if_true]
    rw [i_lt_f (by omega) (by omega), dv_nI (by decide) (by decide), dv_nI (by decide) (by decide), rem_nI (by omega) (by decide) (by decide), wr_nI (by omega) (by decide), dnk, pk_div (by omega) (by decide) (by decide), bt_or1 hA hg]
    generalize hS : up s 79 k (nI (r % 6)) = S
    have hx1 : mN a S := by rw [← hS]; exact hx.ex (by rw [up_c (by decide)]) (Ex.u1 (k := 79)) (fun k hk => by omega)
    have ES : Ex (fun q => q = 79) s S := by rw [← hS]; exact Ex.u1
    -- what comes of it
    have key : ∀ (d' : Nat) (b' : Bool), b' = (b && decide (r % 6 < aN a ∧ r % 6 ≠ k ∧ A.testBit (r % 6) = false)) → d' = d + (if b' = true then ds (aF a) k (r % 6) else 0) → ∃ s', M_X7_farBy_L18 kk fu (nI (r / 6)) (nI (A ||| 2 ^ (r % 6))) (nI d') (nI (b1 b')) (if k = 0 then -1 else nI (k - 1)) S = kk (nI (bw (aF a) (aN a) (k + 1) r A d b).1) (nI (b1 (bw (aF a) (aN a) (k + 1) r A d b).2)) s' ∧ Ex (fun q => q = 79) s s' ∧ (∀ f, f < k + 1 → s'.1 79 f = nI (dgt (k + 1) r f)) ∧ ∀ f, k + 1 ≤ f → s'.1 79 f = s.1 79 f := by
      intro d' b' hb' hd'
      obtain ⟨s', e1, e2, e3, e4⟩ := fbm ok (kk := kk) fu k (r / 6) (A ||| 2 ^ (r % 6)) d' b' S (by omega) (by omega) hA' hq hx1
      refine ⟨s', ?_, ES.tr1 e2, fun f hf => ?_, fun f hf => by rw [e4 f (by omega), ← hS, up_i (by omega)]⟩
      · rw [e1, bw_s, hd', hb']
      · by_cases hfk : f = k
        · subst hfk; rw [e4 f (Nat.le_refl _), ← hS, up_s, dgt_s]
        · rw [e3 f (by omega), dgt_d (by omega)]
    have bad : (b && decide (r % 6 < aN a ∧ r % 6 ≠ k ∧ A.testBit (r % 6) = false)) = false → ∃ s', M_X7_farBy_L18 kk fu (nI (r / 6)) (nI (A ||| 2 ^ (r % 6))) (nI d + nI 0) (nI 0) (if k = 0 then -1 else nI (k - 1)) S = kk (nI (bw (aF a) (aN a) (k + 1) r A d b).1) (nI (b1 (bw (aF a) (aN a) (k + 1) r A d b).2)) s' ∧ Ex (fun q => q = 79) s s' ∧ (∀ f, f < k + 1 → s'.1 79 f = nI (dgt (k + 1) r f)) ∧ ∀ f, k + 1 ≤ f → s'.1 79 f = s.1 79 f := fun h => by
      rw [nP]
      exact key (d + 0) false h.symm (by rw [if_neg (by decide)])
    cases b
    · rw [show nI (b1 false) = nI 0 from rfl, i_eq_t rfl]
      exact bad (Bool.false_and _)
    · rw [show nI (b1 true) = nI 1 from rfl, i_eq_f (by decide) (by decide) (by decide)]
      by_cases hgn : r % 6 < aN a
      · rw [isF_1 hx1.1 hgn hn, cl_some, show (1 : Int32) = nI 1 from rfl, i_eq_f (by decide) (by decide) (by decide)]
        by_cases hgk : r % 6 = k
        · rw [i_eq_t hgk]
          exact bad (by rw [decide_eq_false (fun w => w.2.1 hgk)]; rfl)
        · rw [i_eq_f hgk (by omega) (by omega), has_m (by omega) (by omega), cl_some]
          by_cases ht : A.testBit (r % 6) = true
          · rw [if_pos ht, i_eq_f (by decide) (by decide) (by decide)]
            exact bad (by rw [decide_eq_false (fun w => by rw [ht] at w; cases w.2.2)]; rfl)
          · have ht : A.testBit (r % 6) = false := by simpa using ht
            have hFg := (ok.2.1 (r % 6) hgn).1
            rw [ht, if_pos (by rfl), i_eq_f (by decide) (by decide) (by decide), rd_nI (by omega) (by decide), (hx1.2 k (by omega)).1, rd_nI hg (by decide), (hx1.2 _ hgn).1, far_m hFk hFg, cl_some, nP]
            exact key _ true (by rw [decide_eq_true ⟨hgn, hgk, ht⟩]; rfl) (by rw [if_pos rfl]; rfl)
      · rw [isF_0 hx1.1 hn (Or.inr (by rw [eLE (by omega) (by omega)]; omega)), cl_some, show (0 : Int32) = nI 0 from rfl, i_eq_t rfl]
        exact bad (by rw [decide_eq_false (fun w => hgn w.1)]; rfl)
def rOf (p : Option (Nat × Nat)) : Int32 := match p with
  | none => -1
  | some (_, d) => nI d
theorem farBy_m {a : Ab} (ok : okA a) {x : Nat} (hx6 : x < 100000) (h0 : aN a ≠ 0) {s : St} (hx : mN a s) : ∃ s', M_X7_farBy (nI x) s = some (rOf (pvl (aF a) (aN a) (aN a) x), s') ∧ Ex (fun q => q = 79) s s' ∧ ∀ f, f < aN a → s'.1 79 f = nI (dgt (aN a) x f) := by
  have hn := ok.1
  obtain ⟨s', e1, e2, e3, -⟩ := fbm ok (kk := fun v16 v17 s18 => if v17 = 0 then some ((-1), s18) else some (v16, s18)) 400 (aN a) x 0 0 true s (Nat.le_refl _) (by omega) (by decide) hx6 hx
  refine ⟨s', ?_, e2, e3⟩
  rw [if_neg h0] at e1
  unfold M_X7_farBy
  rw [hx.1, nl_1, nS (by omega)]
  refine e1.trans ?_
  have hb := bw_pvl (F := aF a) (n := aN a) (aN a) x 0 0 (by decide)
  cases hp : pvl (aF a) (aN a) (aN a) x with
  | none =>
    rw [hp] at hb
    dsimp only at hb
    rw [hb, if_pos (by rfl)]; rfl
  | some p =>
    obtain ⟨B, e⟩ := p
    rw [hp] at hb
    dsimp only at hb
    rw [if_pos (Nat.and_zero B), Nat.zero_add] at hb
    rw [hb, if_neg (show ¬ nI (b1 true) = 0 by decide)]; rfl
/-! the numbers one after another -/
theorem pvl_d {F : Nat → Nat} {n : Nat} (hF : ∀ f, f < n → F f ≤ 30) : ∀ (i m B d : Nat), i ≤ n → pvl F n i m = some (B, d) → d ≤ 30 * i
  | 0, m, B, d, _, h => by cases h; omega
  | i + 1, m, B, d, hi, h => by
    unfold pvl at h
    cases hp : pvl F n i (m / 6) with
    | none => rw [hp] at h; cases h
    | some p =>
      obtain ⟨B', e'⟩ := p
      rw [hp] at h
      dsimp only at h
      split at h
      · rename_i hc
        cases h
        have := pvl_d hF i _ _ _ (by omega) hp
        have h1 := hF i (by omega)
        have h2 := hF (m % 6) hc.1
        unfold ds
        split <;> omega
      · cases h
def m3 (σ : Bs) : Int32 := match σ with
  | none => -9
  | some (d, _) => nI d
def m4 (σ : Bs) : Nat := match σ with
  | none => 0
  | some (_, x) => x
def okB (σ : Bs) : Prop := match σ with
  | none => True
  | some (d, x) => d ≤ 180 ∧ x < 50000
theorem act_ok {F : Nat → Nat} {n : Nat} (hn : n ≤ 6) (hF : ∀ f, f < n → F f ≤ 30) {x : Nat} (hx : x < 50000) {σ : Bs} (h : okB σ) : okB (actx F n x σ) := by
  unfold actx
  cases hp : pvl F n n x with
  | none => exact h
  | some p =>
    obtain ⟨B, d⟩ := p
    have hd := pvl_d hF n x B d (Nat.le_refl _) hp
    show okB (ubs σ d x)
    unfold ubs
    cases σ with
    | none => exact ⟨by omega, hx⟩
    | some q =>
      dsimp only
      split
      · exact ⟨by omega, hx⟩
      · exact h
theorem l48 {a : Ab} (ok : okA a) (h0 : aN a ≠ 0) {x1 : Int32} {N : Nat} (hN : N < 50000) {kk : Int32 → Int32 → St → Option (Int32 × St)} : ∀ (fu x : Nat) (σ : Bs) (s : St), mN a s → okB σ → x ≤ N → N < fu + x → ∃ s', M_X7_hang_L48 x1 (nI N) kk fu (m3 σ) (nI (m4 σ)) (nI x) s = kk (m3 (fo (actx (aF a) (aN a)) (N - x) x σ)) (nI (m4 (fo (actx (aF a) (aN a)) (N - x) x σ))) s' ∧ Ex (fun q => q = 79) s s' ∧ okB (fo (actx (aF a) (aN a)) (N - x) x σ)
  | 0, x, σ, s, _, _, h1, h2 => absurd h2 (by omega)
  | fu + 1, x, σ, s, hx, hB, h1, h2 => by
    have hn := ok.1
    have hF : ∀ f, f < aN a → aF a f ≤ 30 := fun f hf => (ok.2.1 f hf).1
    rw [M_X7_hang_L48, hx.1]
    simp only [nl_0, nl_1, nl_2, nl_3, nl_4, nl_5, nl_6, nl_7, nl_8, nl_9, nl_10, nl_14, nl_20, nl_30, nl_32, nl_48, nl_57, nl_59, nl_60, nl_64, nl_99, nl_100, nl_102, nl_126, nl_140, nl_147, nl_181, nl_255, nl_999, jn, if_true]
    by_cases hxN : x = N
    · subst hxN
      rw [i_le_t (Nat.le_refl _) (by omega), Nat.sub_self]
      exact ⟨s, rfl, Ex.rf, hB⟩
    · rw [i_le_f (by omega) (by omega), i_le_f (by omega) (by omega)]
      obtain ⟨s1, a1, a2, a3⟩ := farBy_m ok (x := x) (by omega) h0 hx
      rw [a1, cl_some, nP, show N - x = (N - (x + 1)) + 1 by omega, fo_s]
      have go : ∀ σ', okB σ' → ∃ s', M_X7_hang_L48 x1 (nI N) kk fu (m3 σ') (nI (m4 σ')) (nI (x + 1)) s1 = kk (m3 (fo (actx (aF a) (aN a)) (N - (x + 1)) (x + 1) σ')) (nI (m4 (fo (actx (aF a) (aN a)) (N - (x + 1)) (x + 1) σ'))) s' ∧ Ex (fun q => q = 79) s s' ∧ okB (fo (actx (aF a) (aN a)) (N - (x + 1)) (x + 1) σ') := fun σ' hσ => by
        obtain ⟨s', r1, r2, r3⟩ := l48 ok h0 (x1 := x1) hN (kk := kk) fu (x + 1) σ' s1 (hx.ex (by rw [a2.1 67 (by omega)]) a2 (fun k hk => by omega)) hσ (by omega) (by omega)
        exact ⟨s', r1, a2.tr1 r2, r3⟩
      have hok := act_ok (n := aN a) hn hF (x := x) (by omega) hB
      cases hp : pvl (aF a) (aN a) (aN a) x with
      | none =>
        have e : actx (aF a) (aN a) x σ = σ := by unfold actx; rw [hp]
        rw [e, if_pos (show rOf none < nI 0 by decide)]
        exact go σ hB
      | some p =>
        obtain ⟨B, d⟩ := p
        have hd := pvl_d hF (aN a) x B d (Nat.le_refl _) hp
        have e : actx (aF a) (aN a) x σ = ubs σ d x := by unfold actx; rw [hp]
        rw [e] at hok ⊢
        rw [show rOf (some (B, d)) = nI d from rfl, i_lt_f (by omega) (by omega)]
        cases σ with
        | none =>
          rw [if_pos (show m3 none < nI 0 by decide), i_eq_f (by decide) (by decide) (by decide), i_eq_f (by decide) (by decide) (by decide)]
          exact go (some (d, x)) hok
        | some q =>
          obtain ⟨b, y⟩ := q
          have hb : b ≤ 180 := hB.1
          rw [show m3 (some (b, y)) = nI b from rfl, show m4 (some (b, y)) = y from rfl, i_lt_f (by omega) (by omega)]
          by_cases hlt : d < b
          · have e2 : ubs (some (b, y)) d x = some (d, x) := if_pos hlt
            rw [e2] at hok ⊢
            rw [i_le_f hlt (by omega), i_eq_f (by decide) (by decide) (by decide), i_eq_f (by decide) (by decide) (by decide)]
            exact go (some (d, x)) hok
          · have e2 : ubs (some (b, y)) d x = some (b, y) := if_neg hlt
            rw [e2] at hok ⊢
            rw [i_le_t (by omega) (by omega)]
            exact go (some (b, y)) hok
theorem l20 {a : Ab} (ok : okA a) {x1 : Int32} {kk : Int32 → St → Option (Int32 × St)} {s : St} (hx : mN a s) : ∀ (fu j : Nat), j ≤ aN a → aN a < fu + j → M_X7_hang_L20 x1 kk fu (nI (6 ^ j)) (nI j) s = kk (nI (6 ^ aN a)) s
  | 0, j, h1, h2 => absurd h2 (by omega)
  | fu + 1, j, h1, h2 => by
    have hn := ok.1
    rw [M_X7_hang_L20, hx.1]
    by_cases hj : j = aN a
    · rw [hj, i_le_t (Nat.le_refl _) (by omega)]
    · rw [i_le_f (by omega) (by omega), nl_6, nM, show nI j + 1 = nI (j + 1) from nP, ← Nat.pow_succ, l20 ok hx fu (j + 1) (by omega) (by omega)]
