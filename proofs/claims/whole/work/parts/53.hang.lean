/-! ===== hang: every way, in order ===== -/
def fo {σ : Type} (h : Nat → σ → σ) : Nat → Nat → σ → σ
  | 0, _, x => x
  | k + 1, j, x => fo h k (j + 1) (h j x)
theorem fo_s {σ : Type} {h : Nat → σ → σ} {k j : Nat} {x : σ} : fo h (k + 1) j x = fo h k (j + 1) (h j x) := rfl
theorem fo_add {σ : Type} {h : Nat → σ → σ} : ∀ (k l j : Nat) (x : σ), fo h (k + l) j x = fo h l (j + k) (fo h k j x)
  | 0, l, j, x => by rw [Nat.zero_add]; rfl
  | k + 1, l, j, x => by
    rw [show k + 1 + l = (k + l) + 1 by omega, fo_s, fo_s, fo_add k l (j + 1) (h j x), show j + (k + 1) = j + 1 + k by omega]
theorem fo_congr {σ : Type} {h h' : Nat → σ → σ} : ∀ (k j : Nat) (x : σ), (∀ i, j ≤ i → i < j + k → ∀ y, h i y = h' i y) → fo h k j x = fo h' k j x
  | 0, j, x, _ => rfl
  | k + 1, j, x, H => by
    rw [fo_s, fo_s, H j (by omega) (by omega), fo_congr k (j + 1) _ (fun i h1 h2 => H i (by omega) (by omega))]
theorem fo_id {σ : Type} {h : Nat → σ → σ} {x : σ} : ∀ (k j : Nat), (∀ i, j ≤ i → i < j + k → h i x = x) → fo h k j x = x
  | 0, j, _ => rfl
  | k + 1, j, H => by
    rw [fo_s, H j (by omega) (by omega), fo_id k (j + 1) (fun i h1 h2 => H i (by omega) (by omega))]
theorem fo_blk {σ : Type} {h : Nat → σ → σ} {w b : Nat} : ∀ (k g : Nat) (x : σ), fo h (k * w) (b + g * w) x = fo (fun g y => fo h w (b + g * w) y) k g x
  | 0, g, x => by rw [Nat.zero_mul]; rfl
  | k + 1, g, x => by
    rw [Nat.succ_mul, Nat.add_comm (k * w) w, fo_add, fo_s, show b + g * w + w = b + (g + 1) * w by rw [Nat.succ_mul]; omega, fo_blk k (g + 1)]
def ds (F : Nat → Nat) (a b : Nat) : Nat := if F b ≤ F a then F a - F b else F b - F a
def pvl (F : Nat → Nat) (n : Nat) : Nat → Nat → Option (Nat × Nat)
  | 0, _ => some (0, 0)
  | i + 1, m => match pvl F n i (m / 6) with
    | none => none
    | some (A, d) => if m % 6 < n ∧ m % 6 ≠ i ∧ A.testBit (m % 6) = false then some (A ||| 2 ^ (m % 6), d + ds F i (m % 6)) else none
abbrev Bs : Type := Option (Nat × Nat)
def ubs (σ : Bs) (d x : Nat) : Bs := match σ with
  | none => some (d, x)
  | some (b, y) => if d < b then some (d, x) else some (b, y)
def actx (F : Nat → Nat) (n x : Nat) (σ : Bs) : Bs := match pvl F n n x with
  | none => σ
  | some (_, d) => ubs σ d x
def dfs (F : Nat → Nat) (n : Nat) : Nat → Nat → Nat → Nat → Nat → Bs → Bs
  | 0, _, m, _, d, σ => ubs σ d m
  | c + 1, i, m, A, d, σ => fo (fun g y => if g < n ∧ g ≠ i ∧ A.testBit g = false then dfs F n c (i + 1) (6 * m + g) (A ||| 2 ^ g) (d + ds F i g) y else y) 6 0 σ
theorem blk_dfs {F : Nat → Nat} {n : Nat} : ∀ (c i m : Nat) (σ : Bs), i + c = n → fo (actx F n) (6 ^ c) (m * 6 ^ c) σ = match pvl F n i m with
    | none => σ
    | some (A, d) => dfs F n c i m A d σ
  | 0, i, m, σ, h => by
    have hi : i = n := by omega
    subst hi
    rw [Nat.pow_zero, Nat.mul_one]
    show actx F i m σ = _
    unfold actx
    cases pvl F i i m <;> rfl
  | c + 1, i, m, σ, h => by
    have e := fo_blk (h := actx F n) (w := 6 ^ c) (b := m * 6 ^ (c + 1)) 6 0 σ
    rw [Nat.zero_mul, Nat.add_zero, show 6 * 6 ^ c = 6 ^ (c + 1) by rw [Nat.pow_succ, Nat.mul_comm]] at e
    rw [e]
    have e2 : ∀ g, g < 6 → ∀ y, fo (actx F n) (6 ^ c) (m * 6 ^ (c + 1) + g * 6 ^ c) y = match pvl F n i m with
        | none => y
        | some (A, d) => if g < n ∧ g ≠ i ∧ A.testBit g = false then dfs F n c (i + 1) (6 * m + g) (A ||| 2 ^ g) (d + ds F i g) y else y := by
      intro g hg y
      rw [show m * 6 ^ (c + 1) + g * 6 ^ c = (6 * m + g) * 6 ^ c by rw [Nat.pow_succ, Nat.add_mul, Nat.mul_comm (6 ^ c) 6, ← Nat.mul_assoc, Nat.mul_comm m 6], blk_dfs c (i + 1) (6 * m + g) y (by omega)]
      show (match (match pvl F n i ((6 * m + g) / 6) with
        | none => none
        | some (A, d) => if (6 * m + g) % 6 < n ∧ (6 * m + g) % 6 ≠ i ∧ A.testBit ((6 * m + g) % 6) = false then some (A ||| 2 ^ ((6 * m + g) % 6), d + ds F i ((6 * m + g) % 6)) else none) with
        | none => y
        | some (A, d) => dfs F n c (i + 1) (6 * m + g) A d y) = _
      rw [show (6 * m + g) / 6 = m by omega, show (6 * m + g) % 6 = g by omega]
      cases pvl F n i m with
      | none => rfl
      | some p =>
        obtain ⟨A, d⟩ := p
        dsimp only
        by_cases hc : g < n ∧ g ≠ i ∧ A.testBit g = false
        · rw [if_pos hc, if_pos hc]
        · rw [if_neg hc, if_neg hc]
    cases hp : pvl F n i m with
    | none =>
      dsimp only
      refine fo_id 6 0 (fun g h1 h2 => ?_)
      rw [e2 g (by omega), hp]
    | some p =>
      obtain ⟨A, d⟩ := p
      dsimp only
      unfold dfs
      refine fo_congr 6 0 σ (fun g h1 h2 y => ?_)
      rw [e2 g (by omega), hp]
theorem dfs_prune {F : Nat → Nat} {n : Nat} {b y : Nat} : ∀ (c i m A d : Nat), b ≤ d → dfs F n c i m A d (some (b, y)) = some (b, y)
  | 0, i, m, A, d, h => if_neg (by omega)
  | c + 1, i, m, A, d, h => by
    unfold dfs
    refine fo_id 6 0 (fun g h1 h2 => ?_)
    by_cases hc : g < n ∧ g ≠ i ∧ A.testBit g = false
    · rw [if_pos hc]; exact dfs_prune c (i + 1) _ _ _ (by omega)
    · rw [if_neg hc]
theorem ubs_some {σ : Bs} {d x : Nat} : (ubs σ d x).isSome = true := by
  unfold ubs
  cases σ with
  | none => rfl
  | some p => dsimp only; split <;> rfl
theorem act_keep {F : Nat → Nat} {n x : Nat} {σ : Bs} (h : σ.isSome = true) : (actx F n x σ).isSome = true := by
  unfold actx
  cases pvl F n n x with
  | none => exact h
  | some p => exact ubs_some
theorem fo_keep {F : Nat → Nat} {n : Nat} : ∀ (k j : Nat) (σ : Bs), σ.isSome = true → (fo (actx F n) k j σ).isSome = true
  | 0, j, σ, h => h
  | k + 1, j, σ, h => fo_keep k (j + 1) _ (act_keep h)
theorem fo_ex {F : Nat → Nat} {n x : Nat} {k : Nat} {σ : Bs} (hx : x < k) (h : (pvl F n n x).isSome = true) : (fo (actx F n) k 0 σ).isSome = true := by
  rw [show k = x + ((k - x - 1) + 1) by omega, fo_add, fo_s]
  refine fo_keep _ _ _ ?_
  rw [Nat.zero_add]
  unfold actx
  cases hp : pvl F n n x with
  | none => rw [hp] at h; cases h
  | some p => exact ubs_some
theorem some_way {F : Nat → Nat} {n : Nat} (hn : n ≤ 6) (h2 : 2 ≤ n) : (fo (actx F n) (6 ^ n) 0 none).isSome = true := by
  match n, hn, h2 with
  | 2, _, _ => exact fo_ex (x := 6) (by decide) rfl
  | 3, _, _ => exact fo_ex (x := 48) (by decide) rfl
  | 4, _, _ => exact fo_ex (x := 306) (by decide) rfl
  | 5, _, _ => exact fo_ex (x := 1860) (by decide) rfl
  | 6, _, _ => exact fo_ex (x := 11190) (by decide) rfl
def dgt (i m f : Nat) : Nat := m / 6 ^ (i - 1 - f) % 6
theorem dgt_last {i m g : Nat} (hg : g < 6) : dgt (i + 1) (6 * m + g) i = g := by
  unfold dgt
  rw [show i + 1 - 1 - i = 0 by omega, Nat.pow_zero, Nat.div_one]; omega
theorem dgt_old {i m g f : Nat} (hg : g < 6) (hf : f < i) : dgt (i + 1) (6 * m + g) f = dgt i m f := by
  unfold dgt
  rw [show i + 1 - 1 - f = (i - 1 - f) + 1 by omega, Nat.pow_succ, Nat.mul_comm (6 ^ (i - 1 - f)) 6, ← Nat.div_div_eq_div_mul, show (6 * m + g) / 6 = m by omega]
/-! from the last to the first -/
def bw (F : Nat → Nat) (n : Nat) : Nat → Nat → Nat → Nat → Bool → Nat × Bool
  | 0, _, _, d, b => (d, b)
  | k + 1, r, A, d, b => bw F n k (r / 6) (A ||| 2 ^ (r % 6)) (d + if (b && decide (r % 6 < n ∧ r % 6 ≠ k ∧ A.testBit (r % 6) = false)) = true then ds F k (r % 6) else 0) (b && decide (r % 6 < n ∧ r % 6 ≠ k ∧ A.testBit (r % 6) = false))
theorem bw_s {F : Nat → Nat} {n k r A d : Nat} {b : Bool} : bw F n (k + 1) r A d b = bw F n k (r / 6) (A ||| 2 ^ (r % 6)) (d + if (b && decide (r % 6 < n ∧ r % 6 ≠ k ∧ A.testBit (r % 6) = false)) = true then ds F k (r % 6) else 0) (b && decide (r % 6 < n ∧ r % 6 ≠ k ∧ A.testBit (r % 6) = false)) := rfl
theorem bw_bad {F : Nat → Nat} {n : Nat} : ∀ (k r A d : Nat), (bw F n k r A d false).2 = false
  | 0, r, A, d => rfl
  | k + 1, r, A, d => by rw [bw_s, Bool.false_and]; exact bw_bad k _ _ _
theorem set_a : ∀ A, A < 64 → ∀ B, B < 64 → ∀ g, g < 6 → ((B &&& (A ||| 2 ^ g) = 0) ↔ (B &&& A = 0 ∧ B.testBit g = false)) ∧ (((B ||| 2 ^ g) &&& A = 0) ↔ (B &&& A = 0 ∧ A.testBit g = false)) := by decide +kernel
theorem pvl_lt {F : Nat → Nat} {n : Nat} : ∀ (i m B e : Nat), pvl F n i m = some (B, e) → B < 64
  | 0, m, B, e, h => by cases h; decide
  | i + 1, m, B, e, h => by
    unfold pvl at h
    cases hp : pvl F n i (m / 6) with
    | none => rw [hp] at h; cases h
    | some p =>
      obtain ⟨B', e'⟩ := p
      rw [hp] at h
      dsimp only at h
      split at h
      · cases h
        exact Nat.or_lt_two_pow (n := 6) (pvl_lt i _ _ _ hp) (Nat.pow_lt_pow_right (by decide) (Nat.mod_lt _ (by decide)))
      · cases h
theorem bw_pvl {F : Nat → Nat} {n : Nat} : ∀ (k r A d : Nat), A < 64 → match pvl F n k r with
    | none => (bw F n k r A d true).2 = false
    | some (B, e) => if B &&& A = 0 then bw F n k r A d true = (d + e, true) else (bw F n k r A d true).2 = false
  | 0, r, A, d, hA => by
    show if 0 &&& A = 0 then _ else _
    rw [if_pos (Nat.zero_and A)]; rfl
  | k + 1, r, A, d, hA => by
    have hg : r % 6 < 6 := Nat.mod_lt _ (by decide)
    have hA' : A ||| 2 ^ (r % 6) < 64 := Nat.or_lt_two_pow (n := 6) hA (Nat.pow_lt_pow_right (by decide) hg)
    have ih := bw_pvl (F := F) (n := n) k (r / 6) (A ||| 2 ^ (r % 6)) (d + ds F k (r % 6)) hA'
    rw [bw_s, Bool.true_and]
    unfold pvl
    cases hp : pvl F n k (r / 6) with
    | none =>
      rw [hp] at ih
      dsimp only at ih ⊢
      cases hd : decide (r % 6 < n ∧ r % 6 ≠ k ∧ A.testBit (r % 6) = false)
      · exact bw_bad _ _ _ _
      · rw [if_pos rfl]; exact ih
    | some p =>
      obtain ⟨B, e⟩ := p
      rw [hp] at ih
      dsimp only at ih ⊢
      have hB := pvl_lt k _ _ _ hp
      have hs := set_a A hA B hB (r % 6) hg
      by_cases hc : r % 6 < n ∧ r % 6 ≠ k ∧ B.testBit (r % 6) = false
      · rw [if_pos hc]
        dsimp only
        by_cases ha : A.testBit (r % 6) = false
        · rw [decide_eq_true (show r % 6 < n ∧ r % 6 ≠ k ∧ A.testBit (r % 6) = false from ⟨hc.1, hc.2.1, ha⟩), if_pos rfl]
          by_cases hz : B &&& A = 0
          · rw [if_pos (hs.1.mpr ⟨hz, hc.2.2⟩)] at ih
            rw [if_pos (hs.2.mpr ⟨hz, ha⟩), ih, Nat.add_assoc, Nat.add_comm e]
          · rw [if_neg (fun w => hz (hs.1.mp w).1)] at ih
            rw [if_neg (fun w => hz (hs.2.mp w).1)]
            exact ih
        · rw [decide_eq_false (show ¬ (r % 6 < n ∧ r % 6 ≠ k ∧ A.testBit (r % 6) = false) from fun w => ha w.2.2), if_neg (fun w => ha (hs.2.mp w).2)]
          exact bw_bad _ _ _ _
      · rw [if_neg hc]
        dsimp only
        cases hd : decide (r % 6 < n ∧ r % 6 ≠ k ∧ A.testBit (r % 6) = false)
        · exact bw_bad _ _ _ _
        · have hd := of_decide_eq_true hd
          rw [if_pos rfl]
          rw [if_neg (fun w => hc ⟨hd.1, hd.2.1, (hs.1.mp w).2⟩)] at ih
          exact ih
