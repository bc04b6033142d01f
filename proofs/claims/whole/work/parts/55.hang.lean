/-! ===== hang: the class ===== -/
theorem cp_b {α : Type} {s : St} {c : St → Option α} : ∃ s', cp s 63 62 6 c = c s' ∧ Ex (fun q => q = 62) s s' ∧ ∀ i, i < 6 → s'.1 62 i = s.1 63 i := by
  refine ⟨_, rfl, ⟨fun k hk => ?_, rfl⟩, fun i hi => ?_⟩
  · show va_up s.1 62 _ k = s.1 k
    rw [va_up_ne _ _ hk]
  · show va_up s.1 62 (va_cpy (s.1 63) (s.1 62) 0 0 6) 62 i = s.1 63 i
    rw [va_up_self]
    unfold va_cpy
    simp [hi]
theorem abs_x : ∀ a, a ≤ 30 → ∀ b, b ≤ 30 → (if nI 0 ≤ nI a - nI b then nI a - nI b else nI 0 - (nI a - nI b)) = nI (if b ≤ a then a - b else b - a) := by decide +kernel
def b61 (σ : Bs) : Nat := match σ with
  | none => 181
  | some (d, _) => d
def xS (n : Nat) (σ : Bs) (s : St) : Prop := s.1 61 1 = nI (b61 σ) ∧ match σ with
  | none => True
  | some (_, x) => ∀ f, f < n → s.1 62 f = nI (dgt n x f)
def Hd (a : Ab) (c fu : Nat) : Prop := ∀ (i m A d : Nat) (σ : Bs) (s : St), i + c = aN a → A < 2 ^ aN a → d ≤ 30 * i → okB σ → m < 6 ^ i → xN a s → xS (aN a) σ s → (∀ f, f < i → s.1 63 f = nI (dgt i m f)) → ∃ s', M_X0_hangFrom fu (nI i) (nI A) (nI d) s = some (0, s') ∧ Ex (fun q => 61 ≤ q ∧ q ≤ 63) s s' ∧ xS (aN a) (dfs (aF a) (aN a) c i m A d σ) s' ∧ okB (dfs (aF a) (aN a) c i m A d σ) ∧ ∀ f, f < i → s'.1 63 f = s.1 63 f
def hstep (a : Ab) (c i m A d : Nat) (g : Nat) (y : Bs) : Bs := if g < aN a ∧ g ≠ i ∧ A.testBit g = false then dfs (aF a) (aN a) c (i + 1) (6 * m + g) (A ||| 2 ^ g) (d + ds (aF a) i g) y else y
theorem l50 {a : Ab} (ok : okA a) {c fu : Nat} (H : Hd a c fu) {i m A d : Nat} (hi : i + (c + 1) = aN a) (hA : A < 2 ^ aN a) (hd : d ≤ 30 * i) (hm : m < 6 ^ i) {kk : St → Option (Int32 × St)} : ∀ (fv g : Nat) (σ : Bs) (s : St), okB σ → xN a s → xS (aN a) σ s → (∀ f, f < i → s.1 63 f = nI (dgt i m f)) → g ≤ aN a → aN a < fv + g → ∃ s', M_X0_hangFrom_L50 (nI i) (nI A) (nI d) (M_X0_hangFrom fu) kk fv (nI g) s = kk s' ∧ Ex (fun q => 61 ≤ q ∧ q ≤ 63) s s' ∧ xS (aN a) (fo (hstep a c i m A d) (aN a - g) g σ) s' ∧ okB (fo (hstep a c i m A d) (aN a - g) g σ) ∧ ∀ f, f < i → s'.1 63 f = s.1 63 f
  | 0, g, σ, s, _, _, _, _, h1, h2 => absurd h2 (by omega)
  | fv + 1, g, σ, s, hB, hx, hS, hp, h1, h2 => by
    have hn := ok.1
    have hA6 : A < 64 := Nat.lt_of_lt_of_le hA (pow6 hn)
    rw [M_X0_hangFrom_L50, hx.1]
    simp only [nl_0, nl_1, nl_2, nl_3, nl_4, nl_5, nl_6, nl_7, nl_8, nl_9, nl_10, nl_14, nl_20, nl_30, nl_32, nl_48, nl_57, nl_59, nl_60, nl_64, nl_99, nl_100, nl_102, nl_126, nl_140, nl_147, nl_181, nl_255, nl_999, jn]
    by_cases hg : g = aN a
    · subst hg
      rw [i_le_t (Nat.le_refl _) (by omega), Nat.sub_self]
      exact ⟨s, rfl, Ex.rf, hS, hB, fun f _ => rfl⟩
    · rw [i_le_f (by omega) (by omega), nP, nP, show aN a - g = (aN a - (g + 1)) + 1 by omega, fo_s]
      have skip : ¬ (g < aN a ∧ g ≠ i ∧ A.testBit g = false) → ∃ s', M_X0_hangFrom_L50 (nI i) (nI A) (nI d) (M_X0_hangFrom fu) kk fv (nI (g + 1)) s = kk s' ∧ Ex (fun q => 61 ≤ q ∧ q ≤ 63) s s' ∧ xS (aN a) (fo (hstep a c i m A d) (aN a - (g + 1)) (g + 1) (hstep a c i m A d g σ)) s' ∧ okB (fo (hstep a c i m A d) (aN a - (g + 1)) (g + 1) (hstep a c i m A d g σ)) ∧ ∀ f, f < i → s'.1 63 f = s.1 63 f := fun hc => by
        rw [show hstep a c i m A d g σ = σ from if_neg hc]
        exact l50 ok H hi hA hd hm (kk := kk) fv (g + 1) σ s hB hx hS hp (by omega) (by omega)
      by_cases hgi : g = i
      · rw [i_eq_t hgi]
        exact skip (fun w => w.2.1 hgi)
      · rw [i_eq_f hgi (by omega) (by omega), bt_at1 (by omega) (by omega)]
        by_cases ht : A.testBit g = true
        · rw [if_pos ht, i_eq_f (by decide) (by decide) (by decide)]
          exact skip (fun w => by rw [ht] at w; cases w.2.2)
        · have ht : A.testBit g = false := by simpa using ht
          rw [ht, if_pos (by rfl), wr_nI (by omega) (by decide), rd_nI (by omega) (by decide), rd_nI (by omega) (by decide), up_c (a := 10) (by decide), (hx.2 i (by omega)).1, (hx.2 g (by omega)).1, abs_x _ (ok.2.1 i (by omega)).1 _ (ok.2.1 g (by omega)).1, nP, bt_or1 hA6 (by omega)]
          have e : hstep a c i m A d g σ = dfs (aF a) (aN a) c (i + 1) (6 * m + g) (A ||| 2 ^ g) (d + ds (aF a) i g) σ := if_pos ⟨by omega, hgi, ht⟩
          have hds : ds (aF a) i g ≤ 30 := by
            have := (ok.2.1 i (by omega)).1
            have := (ok.2.1 g (by omega)).1
            unfold ds
            split <;> omega
          have ES : Ex (fun q => 61 ≤ q ∧ q ≤ 63) s (up s 63 i (nI g)) := Ex.u2 (by omega)
          have hS1 : xS (aN a) σ (up s 63 i (nI g)) := by
            unfold xS at hS ⊢
            rw [up_c (by decide), up_c (by decide)]; exact hS
          obtain ⟨s1, r1, r2, r3, r4, r5⟩ := H (i + 1) (6 * m + g) (A ||| 2 ^ g) (d + ds (aF a) i g) σ (up s 63 i (nI g)) (by omega) (or_lt hA (by omega)) (by omega) hB (by rw [Nat.pow_succ]; omega) (hx.ex ES (fun k hk => by omega)) hS1 (fun f hf => by
            by_cases hfi : f = i
            · subst hfi; rw [up_s, dgt_last (by omega)]
            · rw [up_i hfi, dgt_old (by omega) (by omega)]; exact hp f (by omega))
          have r1' : M_X0_hangFrom fu (nI (i + 1)) (nI (A ||| 2 ^ g)) (nI (d + if aF a g ≤ aF a i then aF a i - aF a g else aF a g - aF a i)) (up s 63 i (nI g)) = some (0, s1) := r1
          rw [r1', cl_some, e]
          have p1 : ∀ f, f < i → s1.1 63 f = s.1 63 f := fun f hf => by rw [r5 f (by omega), up_i (by omega)]
          have E1 : Ex (fun q => 61 ≤ q ∧ q ≤ 63) s s1 := ES.tr1 r2
          obtain ⟨s2, u1, u2, u3, u4, u5⟩ := l50 ok H hi hA hd hm (kk := kk) fv (g + 1) _ s1 r4 (hx.ex E1 (fun k hk => by omega)) r3 (fun f hf => by rw [p1 f hf]; exact hp f hf) (by omega) (by omega)
          exact ⟨s2, u1, E1.tr1 u2, u3, u4, fun f hf => by rw [u5 f hf, p1 f hf]⟩
theorem fo_more {a : Ab} {c i m A d : Nat} (hn : aN a ≤ 6) {σ : Bs} : dfs (aF a) (aN a) (c + 1) i m A d σ = fo (hstep a c i m A d) (aN a - 0) 0 σ := by
  have e : dfs (aF a) (aN a) (c + 1) i m A d σ = fo (hstep a c i m A d) 6 0 σ := rfl
  rw [e, show (6 : Nat) = (aN a - 0) + (6 - aN a) by omega, fo_add]
  refine fo_id _ _ (fun g h1 h2 => if_neg (fun w => ?_))
  omega
theorem hd_all {a : Ab} (ok : okA a) : ∀ (c fu : Nat), c < fu → Hd a c fu
  | c, 0, h => absurd h (by omega)
  | 0, fu + 1, _ => by
    intro i m A d σ s hi hA hd hB hm hx hS hp
    have hn := ok.1
    have hin : i = aN a := by omega
    have hb : b61 σ < 1000 := by
      cases σ with
      | none => decide
      | some q => have : q.1 ≤ 180 := hB.1; show q.1 < 1000; omega
    rw [M_X0_hangFrom, hS.1]
    simp only [jn]
    by_cases hlt : d < b61 σ
    · rw [i_lt_t hlt (by omega), hx.1, i_le_t (by omega) (by omega), pu_b]
      obtain ⟨s1, c1, c2, c3⟩ := cp_b (s := up s 61 1 (nI d)) (c := fun s4 => some ((0 : Int32), s4))
      have e : dfs (aF a) (aN a) 0 i m A d σ = some (d, m) := by
        show ubs σ d m = _
        cases σ with
        | none => rfl
        | some q => exact if_pos hlt
      rw [e]
      have hm6 : m < 50000 := by
        have : 6 ^ i ≤ 6 ^ 6 := Nat.pow_le_pow_right (by decide) (by omega)
        have h6 : (6 : Nat) ^ 6 = 46656 := by decide
        omega
      refine ⟨s1, c1, (Ex.u2 (by omega)).tr1 (c2.mono (fun q hq => by omega)), ⟨by rw [c2.1 61 (by decide), up_s]; rfl, fun f hf => ?_⟩, ⟨by omega, hm6⟩, fun f hf => by rw [c2.1 63 (by decide), up_c (by decide)]⟩
      rw [c3 f (by omega), up_c (by decide), hp f (by omega), hin]
    · rw [i_lt_f (by omega) (by omega)]
      have e : dfs (aF a) (aN a) 0 i m A d σ = σ := by
        show ubs σ d m = _
        cases σ with
        | none => exact absurd (show d < 181 by omega) hlt
        | some q => exact if_neg hlt
      rw [e]
      exact ⟨s, rfl, Ex.rf, hS, hB, fun f _ => rfl⟩
  | c + 1, fu + 1, h => by
    intro i m A d σ s hi hA hd hB hm hx hS hp
    have hn := ok.1
    have hb : b61 σ < 1000 := by
      cases σ with
      | none => decide
      | some q => have : q.1 ≤ 180 := hB.1; show q.1 < 1000; omega
    rw [M_X0_hangFrom, hS.1]
    simp only [jn]
    by_cases hlt : d < b61 σ
    · rw [i_lt_t hlt (by omega), hx.1, i_le_f (by omega) (by omega), nl_6, i_lt_t (by omega) (by omega)]
      obtain ⟨s1, r1, r2, r3, r4, r5⟩ := l50 ok (hd_all ok c fu (by omega)) hi hA hd hm (kk := fun s12 => some (0, s12)) 400 0 σ s hB hx hS hp (by omega) (by omega)
      rw [← fo_more hn] at r3 r4
      exact ⟨s1, r1, r2, r3, r4, r5⟩
    · rw [i_lt_f (by omega) (by omega)]
      have e : dfs (aF a) (aN a) (c + 1) i m A d σ = σ := by
        cases σ with
        | none => exact absurd (show d < 181 by omega) hlt
        | some q => exact dfs_prune (c + 1) i m A d (show q.1 ≤ d by have : ¬ d < q.1 := hlt; omega)
      rw [e]
      exact ⟨s, rfl, Ex.rf, hS, hB, fun f _ => rfl⟩
theorem op_hang (x1 : Int32) : ∀ a, okA a → Op2 (M_X6_hang x1) (M_X7_hang x1) a := by
  intro a ok
  have hn := ok.1
  have h6 : 6 ^ aN a ≤ 6 ^ 6 := Nat.pow_le_pow_right (by decide) hn
  have h66 : (6 : Nat) ^ 6 = 46656 := by decide
  by_cases h0 : aN a = 0
  · -- nobody
    by_cases hm : x1 = -1
    · subst hm
      refine op2_rd ok (-9) (fun s hx => ?_) (fun s hx => ?_)
      · unfold M_X6_hang
        simp only [jn, if_true]
        rw [hx.1.1, h0, if_pos (by rfl)]
      · unfold M_X7_hang
        have := l20 ok (x1 := -1) (kk := fun v3 s4 => M_X7_hang_L48 (-1) v3 (fun v16 v17 s18 => if 0 ≤ (-1 : Int32) then (cl (M_X7_farBy v17 s18) fun r19 s20 => rd s20 79 6 (-1) fun v21 => some (v21, s20)) else (some (v16, s18))) 50000 (-9) (0) (0) s4) hx.1 400 0 (by omega) (by omega)
        rw [hx.1.1, h0, show M_X7_in (-1) (-1) (nI 0 - 1) s = some (1, s) from by unfold M_X7_in; rw [if_neg (by decide), if_neg (by decide)], cl_some, if_neg (by decide)]
        refine this.trans ?_
        rw [h0]
        rw [M_X7_hang_L48, hx.1.1, h0, if_neg (by decide), if_pos (by decide), if_neg (by decide)]
    · refine op2_rd ok (-1) (fun s hx => ?_) (fun s hx => ?_)
      · unfold M_X6_hang
        simp only [jn]
        rw [if_neg hm]
        rcases pk_ix x1 (n := aN a) (by omega) with h | h | ⟨f, hf, rfl⟩
        · rw [has_x0 hx.1.1 (Or.inl h)]; rfl
        · rw [has_x0 hx.1.1 (Or.inr h)]; rfl
        · omega
      · unfold M_X7_hang
        have : M_X7_in x1 (-1) (nI 0 - 1) s = some (0, s) := by
          unfold M_X7_in
          by_cases hlt : x1 < -1
          · rw [if_pos hlt]
          · rw [if_neg hlt, if_pos]
            rw [show nI 0 - 1 = (-1 : Int32) from by decide]
            rcases Int32.lt_or_lt_of_ne hm with w | w
            · exact absurd w hlt
            · exact w
        rw [hx.1.1, h0, this]; rfl
  have h1 : aN a ≠ 1 := fun w => (ok.2.1 0 (by omega)).2.2.2 w
  have hR := blk_dfs (F := aF a) (n := aN a) (aN a) 0 0 none (by omega)
  have hR : fo (actx (aF a) (aN a)) (6 ^ aN a) 0 none = dfs (aF a) (aN a) (aN a) 0 0 0 0 none := by rw [Nat.zero_mul] at hR; exact hR
  have hsome := some_way (F := aF a) hn (show 2 ≤ aN a by omega)
  obtain ⟨⟨d, x⟩, hdx⟩ : ∃ p, fo (actx (aF a) (aN a)) (6 ^ aN a) 0 none = some p := Option.isSome_iff_exists.mp hsome
  have sX : ∀ s, Rx a s → ∃ s', M_X0_search s = some (0, s') ∧ Ex (fun q => 61 ≤ q ∧ q ≤ 63) s s' ∧ s'.1 61 1 = nI d ∧ ∀ f, f < aN a → s'.1 62 f = nI (dgt (aN a) x f) := by
    intro s hx
    have E0 : Ex (fun q => 61 ≤ q ∧ q ≤ 63) s (up s 61 1 (nI 181)) := Ex.u2 (by omega)
    obtain ⟨s1, r1, r2, r3, r4, r5⟩ := hd_all ok (aN a) 9 (by omega) 0 0 0 0 none (up s 61 1 (nI 181)) (by omega) (Nat.two_pow_pos _) (by omega) trivial (by decide) (hx.1.ex E0 (fun k hk => by omega)) ⟨up_s, trivial⟩ (fun f hf => absurd hf (Nat.not_lt_zero f))
    rw [← hR, hdx] at r3
    refine ⟨s1, ?_, E0.tr1 r2, r3.1, r3.2⟩
    unfold M_X0_search
    rw [pu_b, nl_181, nl_0, show M_X0_hangFrom 9 (nI 0) (nI 0) (nI 0) (up s 61 1 (nI 181)) = some (nI 0, s1) from r1, cl_some]
  have sM : ∀ (s : St) (kk : Int32 → Int32 → St → Option (Int32 × St)), Rm a s → ∃ s', M_X7_hang_L20 x1 (fun v3 s4 => M_X7_hang_L48 x1 v3 kk 50000 (-9) (0) (0) s4) 400 (1) (0) s = kk (nI d) (nI x) s' ∧ Ex (fun q => q = 79) s s' ∧ x < 50000 := by
    intro s kk hx
    obtain ⟨s1, r1, r2, r3⟩ := l48 ok h0 (x1 := x1) (N := 6 ^ aN a) (by omega) (kk := kk) 50000 0 none s hx.1 trivial (Nat.zero_le _) (by omega)
    rw [Nat.sub_zero, hdx] at r1 r3
    refine ⟨s1, ?_, r2, r3.2⟩
    have := l20 ok (x1 := x1) (kk := fun v3 s4 => M_X7_hang_L48 x1 v3 kk 50000 (-9) (0) (0) s4) hx.1 400 0 (Nat.zero_le _) (by omega)
    exact this.trans r1
  have frX : ∀ {s s' : St}, Ex (fun q => 61 ≤ q ∧ q ≤ 63) s s' → Sx s s' ∧ FrX s s' ∧ s'.2 0 = s.2 0 := fun e => ⟨e.sx (fun k hk => by unfold rx; omega), e.frx (fun k hk => by omega), by rw [e.2]⟩
  have frM : ∀ {s s' : St}, Ex (fun q => q = 79) s s' → Sm s s' ∧ FrM s s' ∧ s'.2 67 = s.2 67 := fun e => ⟨⟨fun k h1 h2 => e.1 k (by omega), by rw [e.1 67 (by omega)], by rw [e.1 67 (by omega)], by rw [e.1 67 (by omega)], by rw [e.1 67 (by omega)]⟩, e.frm (fun k hk => by omega), by rw [e.2]⟩
  have h90 : ∀ s, Rx a s → ¬ (s.1 9 0 = 0) := fun s hx w => by
    rw [hx.1.1, show (0 : Int32) = nI 0 from rfl, eEQ (by omega) (by decide)] at w
    exact h0 w
  by_cases hm : x1 = -1
  · subst hm
    refine ⟨a, nI d, 0, ok, opX_read fun s hx => ?_, opM_read fun s hx => ?_⟩
    · obtain ⟨s1, r1, r2, r3, r4⟩ := sX s hx
      refine ⟨s1, ?_, frX r2⟩
      unfold M_X6_hang
      simp only [jn, if_true]
      rw [if_neg (h90 s hx), r1, cl_some, r3]
    · obtain ⟨s1, r1, r2, r3⟩ := sM s (fun v16 v17 s18 => if 0 ≤ (-1 : Int32) then (cl (M_X7_farBy v17 s18) fun r19 s20 => rd s20 79 6 (-1) fun v21 => some (v21, s20)) else (some (v16, s18))) hx
      refine ⟨s1, ?_, frM r2⟩
      have hin : M_X7_in (-1) (-1) (nI (aN a - 1)) s = some (1, s) := by
        unfold M_X7_in
        rw [if_neg (by decide), if_neg]
        intro w
        exact nI_pos (show aN a - 1 < 2147483648 by omega) (Int32.lt_trans w (by decide))
      unfold M_X7_hang
      rw [hx.1.1, show nI (aN a) - 1 = nI (aN a - 1) from (by rw [nl_1]; exact nS (by omega)), hin, cl_some, if_neg (by decide)]
      refine r1.trans ?_
      rw [if_neg (by decide)]
  · rcases pk_ix x1 (n := aN a) (by omega) with h | h | ⟨f, hf, rfl⟩
    · refine op2_rd ok (-1) (fun s hx => ?_) (fun s hx => ?_)
      · unfold M_X6_hang
        simp only [jn]
        rw [if_neg hm, has_x0 hx.1.1 (Or.inl h)]; rfl
      · unfold M_X7_hang M_X7_in
        have : x1 < -1 := by
          rcases Int32.lt_or_lt_of_ne hm with w | w
          · exact w
          · rw [Int32.lt_iff_toInt_lt] at w h
            have e1 : (-1 : Int32).toInt = -1 := by decide
            have e2 : (0 : Int32).toInt = 0 := by decide
            omega
        rw [if_pos this]; rfl
    · refine op2_rd ok (-1) (fun s hx => ?_) (fun s hx => ?_)
      · unfold M_X6_hang
        simp only [jn]
        rw [if_neg hm, has_x0 hx.1.1 (Or.inr h)]; rfl
      · unfold M_X7_hang
        have : M_X7_in x1 (-1) (nI (aN a - 1)) s = some (0, s) := by
          unfold M_X7_in
          by_cases hlt : x1 < -1
          · rw [if_pos hlt]
          · rw [if_neg hlt, if_pos]
            exact Int32.lt_of_lt_of_le (by rw [eLT (by omega) (by omega)]; omega) h
        rw [hx.1.1, show nI (aN a) - 1 = nI (aN a - 1) from (by rw [nl_1]; exact nS (by omega)), this]; rfl
    · refine ⟨a, nI (dgt (aN a) x f), 0, ok, opX_read fun s hx => ?_, opM_read fun s hx => ?_⟩
      · obtain ⟨s1, r1, r2, r3, r4⟩ := sX s hx
        refine ⟨s1, ?_, frX r2⟩
        unfold M_X6_hang
        simp only [jn]
        rw [if_neg hm, has_x1 hx.1.1 hf hn, cl_some, if_neg (by decide), if_neg (h90 s hx), r1, cl_some, if_neg hm, rd_nI (by omega) (by decide), r4 f hf]
      · obtain ⟨s1, r1, r2, r3⟩ := sM s (fun v16 v17 s18 => if 0 ≤ nI f then (cl (M_X7_farBy v17 s18) fun r19 s20 => rd s20 79 6 (nI f) fun v21 => some (v21, s20)) else (some (v16, s18))) hx
        obtain ⟨s2, u1, u2, u3⟩ := farBy_m ok (x := x) (by omega) h0 (s := s1) (hx.1.ex (by rw [r2.1 67 (by omega)]) r2 (fun k hk => by omega))
        refine ⟨s2, ?_, frM (r2.tr1 u2)⟩
        have hin : M_X7_in (nI f) (-1) (nI (aN a - 1)) s = some (1, s) := by
          unfold M_X7_in
          rw [if_neg (fun w => nI_pos (show f < 2147483648 by omega) (Int32.lt_trans w (by decide))), i_lt_f (by omega) (by omega)]
        unfold M_X7_hang
        rw [hx.1.1, show nI (aN a) - 1 = nI (aN a - 1) from (by rw [nl_1]; exact nS (by omega)), hin, cl_some, if_neg (by decide)]
        refine r1.trans ?_
        rw [show (0 : Int32) = nI 0 from rfl, i_le_t (by omega) (by omega), u1, cl_some, rd_nI (by omega) (by decide), u3 f hf]
