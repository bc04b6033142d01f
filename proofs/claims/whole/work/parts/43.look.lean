theorem lst_s {t : Nat → Nat → Bool} {d : Int32} {c x : Nat} : lst t d (c + 1) x = if rowc t x = 0 then lst t d c (x + 1) else nI x := rfl
theorem gup_s {t : Nat → Nat → Bool} {d : Int32} {c x : Nat} : gup t d (c + 1) x = gup t (if rowc t x = 0 then d else nI x) c (x + 1) := rfl
theorem on33 {a : Ab} (ok : okA a) {x1 : Int32} {x : Nat} (hx : x ≤ 20) {kk : Int32 → Int32 → Int32 → St → Option (Int32 × St)} {s : St} (hm : mT a s) : ∀ (fu y n : Nat) (p q : Int32), y ≤ 7 → 7 < fu + y → n ≤ 990 + y → M_X7_ones_L33 x1 (nI x) kk fu (nI n) p q (nI y) s = kk (nI (n + sm (fun y => b1 (soT (aT a) x y)) (7 - y) y)) (if n = 0 ∧ sm (fun y => b1 (soT (aT a) x y)) (7 - y) y ≠ 0 then nI x else p) (if sm (fun y => b1 (soT (aT a) x y)) (7 - y) y ≠ 0 then nI x else q) s
  | 0, y, n, p, q, h1, h2, _ => absurd h2 (by omega)
  | fu + 1, y, n, p, q, h1, h2, h3 => by
    rw [M_X7_ones_L33]
    simp only [nl_0, nl_1, nl_2, nl_3, nl_4, nl_5, nl_6, nl_7, nl_8, nl_9, nl_10, nl_14, nl_20, nl_30, nl_32, nl_48, nl_57, nl_59, nl_60, nl_64, nl_99, nl_100, nl_102, nl_126, nl_140, nl_147, nl_181, nl_255, nl_999, jn]
    by_cases hy : y = 7
    · subst hy
      rw [i_lt_t (by omega) (by omega), Nat.sub_self]
      simp [sm]
    · rw [i_lt_f (by omega) (by omega), so_m ok hx (by omega) hm, cl_some, nP, nP, show 7 - y = (7 - (y + 1)) + 1 by omega, sm_s]
      cases h : soT (aT a) x y
      · rw [show nI (b1 false) = nI 0 from rfl, i_eq_t rfl, on33 ok hx hm fu (y + 1) n p q (by omega) (by omega) (by omega), show b1 false = 0 from rfl, Nat.zero_add]
      · rw [show nI (b1 true) = nI 1 from rfl, i_eq_f (by decide) (by decide) (by decide), show b1 true = 1 from rfl]
        by_cases hn : n = 0
        · rw [i_eq_t hn, on33 ok hx hm fu (y + 1) (n + 1) (nI x) (nI x) (by omega) (by omega) (by omega), if_neg (by omega), if_pos (show n = 0 ∧ 1 + sm (fun y => b1 (soT (aT a) x y)) (7 - (y + 1)) (y + 1) ≠ 0 from ⟨hn, by omega⟩), if_pos (show 1 + sm (fun y => b1 (soT (aT a) x y)) (7 - (y + 1)) (y + 1) ≠ 0 by omega), Nat.add_assoc]
          split <;> rfl
        · rw [i_eq_f hn (by omega) (by decide), on33 ok hx hm fu (y + 1) (n + 1) p (nI x) (by omega) (by omega) (by omega), if_neg (by omega), if_neg (show ¬ (n = 0 ∧ 1 + sm (fun y => b1 (soT (aT a) x y)) (7 - (y + 1)) (y + 1) ≠ 0) from fun w => hn w.1), if_pos (show 1 + sm (fun y => b1 (soT (aT a) x y)) (7 - (y + 1)) (y + 1) ≠ 0 by omega), Nat.add_assoc]
          split <;> rfl
theorem on23 {a : Ab} (ok : okA a) {x1 : Int32} {kk : Int32 → Int32 → Int32 → St → Option (Int32 × St)} {s : St} (hm : mT a s) : ∀ (fu x n : Nat) (p q : Int32), x ≤ 21 → 21 < fu + x → n ≤ 7 * x → M_X7_ones_L23 x1 kk fu (nI n) p q (nI x) s = kk (nI (n + sm (rowc (soT (aT a))) (21 - x) x)) (if n = 0 then lst (soT (aT a)) p (21 - x) x else p) (gup (soT (aT a)) q (21 - x) x) s
  | 0, x, n, p, q, h1, h2, _ => absurd h2 (by omega)
  | fu + 1, x, n, p, q, h1, h2, h3 => by
    rw [M_X7_ones_L23]
    simp only [nl_0, nl_1, nl_2, nl_3, nl_4, nl_5, nl_6, nl_7, nl_8, nl_9, nl_10, nl_14, nl_20, nl_30, nl_32, nl_48, nl_57, nl_59, nl_60, nl_64, nl_99, nl_100, nl_102, nl_126, nl_140, nl_147, nl_181, nl_255, nl_999]
    by_cases hx : x = 21
    · subst hx
      rw [i_lt_t (by omega) (by omega), Nat.sub_self]
      show _ = kk (nI (n + 0)) (if n = 0 then p else p) q s
      rw [Nat.add_zero, ite_self]
    · have hr := rowc_le (t := soT (aT a)) (x := x)
      rw [i_lt_f (by omega) (by omega), on33 ok (by omega) hm 400 0 n p q (by omega) (by omega) (by omega), show 21 - x = (21 - (x + 1)) + 1 by omega, sm_s (f := rowc (soT (aT a))), nP]
      show M_X7_ones_L23 x1 kk fu (nI (n + rowc (soT (aT a)) x)) (if n = 0 ∧ rowc (soT (aT a)) x ≠ 0 then nI x else p) (if rowc (soT (aT a)) x ≠ 0 then nI x else q) (nI (x + 1)) s = _
      rw [on23 ok hm fu (x + 1) _ _ _ (by omega) (by omega) (by omega), Nat.add_assoc]
      rw [lst_s, gup_s]
      by_cases h0 : rowc (soT (aT a)) x = 0
      · rw [if_neg (show ¬ (n = 0 ∧ rowc (soT (aT a)) x ≠ 0) from fun w => w.2 h0), if_neg (show ¬ (rowc (soT (aT a)) x ≠ 0) from fun w => w h0), if_pos h0, if_pos h0, h0, Nat.add_zero, Nat.zero_add]; rfl
      · have h4 : ¬ (n + rowc (soT (aT a)) x = 0) := by omega
        rw [if_neg h4, if_pos (show rowc (soT (aT a)) x ≠ 0 from h0), if_neg h0, if_neg h0]
        by_cases hn : n = 0
        · rw [if_pos ⟨hn, h0⟩, if_pos hn]
        · rw [if_neg (fun w => hn w.1), if_neg hn]
theorem ones_m {a : Ab} (ok : okA a) {x1 : Int32} {s : St} (hm : mT a s) (hin : M_X7_in x1 0 2 s = some (1, s)) : M_X7_ones x1 s = if x1 = 0 then some (nI (sm (rowc (soT (aT a))) 21 0), s) else if x1 = 1 then some (lst (soT (aT a)) (-9) 21 0, s) else some (grt (soT (aT a)) (-9) 21, s) := by
  unfold M_X7_ones
  have h := on23 ok (x1 := x1) (kk := fun v17 v18 v19 s20 => if x1 = 0 then some (v17, s20) else if x1 = 1 then some (v18, s20) else some (v19, s20)) hm 400 0 0 (-9) (-9) (by omega) (by omega) (by omega)
  have g := gup_grt (t := soT (aT a)) (d := -9) 21 0
  rw [hin, cl_some, if_neg (by decide)]
  refine h.trans ?_
  rw [Nat.zero_add, if_pos rfl, show (-9 : Int32) = grt (soT (aT a)) (-9) 0 from rfl, g]; rfl
theorem tot_eq {t : Nat → Nat → Bool} : sm (fun y => sm (fun x => b1 (t x y)) 21 0) 7 0 = sm (rowc t) 21 0 := (sm_swap (g := fun x y => b1 (t x y)) 21 0 7 0).symm
theorem op_ones (x1 : Int32) : ∀ a, okA a → Op2 (M_X6_ones x1) (M_X7_ones x1) a := by
  intro a ok
  rcases in_cases x1 (m := 2) (by decide) with h | ⟨j, hj, rfl⟩
  · refine op2_same ok (-1) (fun s => ?_) (fun s => ?_)
    · unfold M_X6_ones
      rw [if_neg (by rintro rfl; revert h; decide), if_neg (by rintro rfl; revert h; decide), if_neg (by rintro rfl; revert h; decide)]
    · unfold M_X7_ones
      rw [nl_2, in_0 h]; rfl
  have hin : ∀ s, M_X7_in (nI j) 0 2 s = some (1, s) := fun s => in_1 (m := 2) hj (by decide)
  match j, hj, hin with
  | 0, _, hin =>
    refine op2_rd ok (nI (sm (rowc (soT (aT a))) 21 0)) (fun s hx => ?_) (fun s hx => ?_)
    · unfold M_X6_ones
      rw [if_pos (by rfl), nl_20, nl_0, nb_x hx.2.2.2.2.1.2 (by omega) (by omega), cl_some]
      exact congrArg (fun v => some (nI v, s)) tot_eq
    · rw [ones_m ok hx.2.2.2.2.1 (hin s), if_pos (by rfl)]
  | 1, _, hin =>
    refine op2_rd ok (lst (soT (aT a)) (-9) 21 0) (fun s hx => ?_) (fun s hx => ?_)
    · unfold M_X6_ones M_X4_leastShame
      rw [if_neg (by decide), if_pos (by rfl), nl_0, least_x hx.2.2.2.2.1.2 400 0 (by omega) (by omega), cl_some]
    · rw [ones_m ok hx.2.2.2.2.1 (hin s), if_neg (by decide), if_pos (by rfl)]
  | 2, _, hin =>
    refine op2_rd ok (grt (soT (aT a)) (-9) 21) (fun s hx => ?_) (fun s hx => ?_)
    · unfold M_X6_ones M_X4_greatestShame
      have := great_x hx.2.2.2.2.1.2 400 21 (by omega) (by omega)
      rw [if_neg (by omega), show 21 - 1 = 20 from rfl] at this
      rw [if_neg (by decide), if_neg (by decide), if_pos (by rfl), nl_20, this, cl_some]
    · rw [ones_m ok hx.2.2.2.2.1 (hin s), if_neg (by decide), if_neg (by decide)]
  | j + 3, hj, _ => exact absurd hj (by omega)
/-! ===== look ===== -/
def askd (t : Nat → Nat → Bool) (p k x y : Nat) : Nat := b1 (t x y && decide (x ≤ p ∨ y ≤ k))
def cnt (t : Nat → Nat → Bool) (p k : Nat) : Nat := sm (fun x => sm (fun y => askd t p k x y) 7 0) 21 0
theorem cnt_eq {t : Nat → Nat → Bool} {p k : Nat} (hp : p ≤ 20) (hk : k ≤ 6) : cnt t p k = sm (fun y => sm (fun x => b1 (t x y)) (p + 1) 0) 7 0 + sm (fun y => sm (fun x => b1 (t x y)) (20 - p) (p + 1)) (k + 1) 0 := by
  unfold cnt
  rw [sm_swap (g := fun x y => askd t p k x y) 21 0 7 0]
  have h : sm (fun y => sm (fun x => askd t p k x y) 21 0) 7 0 = sm (fun y => sm (fun x => b1 (t x y)) (p + 1) 0 + (if y ≤ k then sm (fun x => b1 (t x y)) (20 - p) (p + 1) else 0)) 7 0 := by
    refine sm_congr 7 0 (fun y h1 h2 => ?_)
    have e1 := sm_split (f := fun x => askd t p k x y) (p + 1) (20 - p) 0
    rw [show p + 1 + (20 - p) = 21 by omega, Nat.zero_add] at e1
    have e2 : sm (fun x => askd t p k x y) (p + 1) 0 = sm (fun x => b1 (t x y)) (p + 1) 0 := sm_congr _ _ (fun x h3 h4 => by unfold askd; rw [decide_eq_true (show x ≤ p ∨ y ≤ k by omega), Bool.and_true])
    have e3 : sm (fun x => askd t p k x y) (20 - p) (p + 1) = if y ≤ k then sm (fun x => b1 (t x y)) (20 - p) (p + 1) else 0 := by
      by_cases hy : y ≤ k
      · rw [if_pos hy]
        exact sm_congr _ _ (fun x h3 h4 => by unfold askd; rw [decide_eq_true (show x ≤ p ∨ y ≤ k by omega), Bool.and_true])
      · rw [if_neg hy, sm_congr (g := fun _ => 0) (20 - p) (p + 1) (fun x h3 h4 => by unfold askd; rw [decide_eq_false (show ¬ (x ≤ p ∨ y ≤ k) by omega), Bool.and_false]; rfl), sm_zero]
    exact e1.trans (by rw [e2, e3])
  have e : sm (fun y => if y ≤ k then sm (fun x => b1 (t x y)) (20 - p) (p + 1) else 0) 7 0 = sm (fun y => sm (fun x => b1 (t x y)) (20 - p) (p + 1)) (k + 1) 0 := by
    have e1 := sm_split (f := fun y => if y ≤ k then sm (fun x => b1 (t x y)) (20 - p) (p + 1) else 0) (k + 1) (6 - k) 0
    rw [show k + 1 + (6 - k) = 7 by omega] at e1
    rw [e1, sm_congr (g := fun _ => 0) (6 - k) (0 + (k + 1)) (fun y h1 h2 => if_neg (by omega)), sm_zero, Nat.add_zero]
    exact sm_congr _ _ (fun y h1 h2 => if_pos (by omega))
  rw [h, sm_add, e]
theorem sm_mono {f g : Nat → Nat} (h : ∀ i, f i ≤ g i) : ∀ (c j : Nat), sm f c j ≤ sm g c j
  | 0, j => Nat.le_refl _
  | c + 1, j => by
    rw [sm_s, sm_s]
    have := h j
    have := sm_mono h c (j + 1)
    omega
theorem cnt_le {t : Nat → Nat → Bool} {p k : Nat} : cnt t p k ≤ sm (rowc t) 21 0 := sm_mono (fun x => sm_mono (fun y => by unfold askd; cases t x y <;> simp [b1]; split <;> omega) 7 0) 21 0
theorem tot_le {t : Nat → Nat → Bool} : sm (rowc t) 21 0 ≤ 147 := sm_le (m := 7) (fun _ => rowc_le) 21 0
def wrs (t : Nat → Nat → Bool) (p T k : Nat) : Nat := if cnt t p k ≤ T - cnt t p k then T - cnt t p k else cnt t p k
def lkk (t : Nat → Nat → Bool) (p T : Nat) : Nat → Nat → Int32 → Nat → Int32
  | 0, _, best, _ => best
  | c + 1, k, best, least => if least ≤ wrs t p T k then lkk t p T c (k + 1) best least else lkk t p T c (k + 1) (nI k) (wrs t p T k)
theorem lkk_s {t : Nat → Nat → Bool} {p T c k least : Nat} {best : Int32} : lkk t p T (c + 1) k best least = if least ≤ wrs t p T k then lkk t p T c (k + 1) best least else lkk t p T c (k + 1) (nI k) (wrs t p T k) := rfl
theorem wrs_i {C T : Nat} (h : C ≤ T) (hT : T ≤ 147) : (if nI C < nI (T - C) then nI (T - C) else nI C) = nI (if C ≤ T - C then T - C else C) := by
  by_cases h : C < T - C
  · rw [i_lt_t h (by omega), if_pos (by omega)]
  · rw [i_lt_f (by omega) (by omega)]
    by_cases h2 : C ≤ T - C
    · rw [if_pos h2, show T - C = C by omega]
    · rw [if_neg h2]
theorem wrs_le {t : Nat → Nat → Bool} {p T k : Nat} (h : cnt t p k ≤ T) : wrs t p T k ≤ T := by unfold wrs; split <;> omega
theorem lkk_first {t : Nat → Nat → Bool} {p T : Nat} (h : cnt t p 0 ≤ T) (b : Int32) : lkk t p T 7 0 b (T + 1) = lkk t p T 6 1 (nI 0) (wrs t p T 0) := by
  have := wrs_le h
  rw [show (7 : Nat) = 6 + 1 from rfl, lkk_s, if_neg (by omega)]
theorem look_x {t : Nat → Nat → Bool} {s : St} (ht : ∀ x y, x < 21 → y < 7 → s.1 65 (x * 7 + y) = if t x y then 0 else 1) {p T : Nat} (hp : p ≤ 20) (hT : T = sm (rowc t) 21 0) {kk : Int32 → St → Option (Int32 × St)} : ∀ (fu k least : Nat) (best : Int32), k ≤ 7 → 7 < fu + k → least ≤ 148 → M_X4_bestOthers_L34 (nI p) (nI T) kk fu best (nI least) (nI (sm (fun y => sm (fun x => b1 (t x y)) (p + 1) 0) 7 0 + sm (fun y => sm (fun x => b1 (t x y)) (20 - p) (p + 1)) k 0)) (nI k) s = kk (lkk t p T (7 - k) k best least) s
  | 0, k, least, best, h1, h2, _ => absurd h2 (by omega)
  | fu + 1, k, least, best, h1, h2, h3 => by
    rw [M_X4_bestOthers_L34]
    simp only [nl_0, nl_1, nl_2, nl_3, nl_4, nl_5, nl_6, nl_7, nl_8, nl_9, nl_10, nl_14, nl_20, nl_30, nl_32, nl_48, nl_57, nl_59, nl_60, nl_64, nl_99, nl_100, nl_102, nl_126, nl_140, nl_147, nl_181, nl_255, nl_999, jn]
    by_cases hk : k = 7
    · subst hk
      rw [i_lt_t (by omega) (by omega), Nat.sub_self]; rfl
    · have hc := cnt_le (t := t) (p := p) (k := k)
      have hTl := tot_le (t := t)
      have e : sm (fun y => sm (fun x => b1 (t x y)) (p + 1) 0) 7 0 + sm (fun y => sm (fun x => b1 (t x y)) (20 - p) (p + 1)) k 0 + sm (fun x => b1 (t x k)) (20 + 1 - (p + 1)) (p + 1) = cnt t p k := by
        rw [cnt_eq hp (by omega), sm_split k 1 0, show 20 + 1 - (p + 1) = 20 - p by omega, Nat.zero_add, sm_s, Nat.add_assoc]; rfl
      have e2 : cnt t p k = sm (fun y => sm (fun x => b1 (t x y)) (p + 1) 0) 7 0 + sm (fun y => sm (fun x => b1 (t x y)) (20 - p) (p + 1)) (k + 1) 0 := cnt_eq hp (by omega)
      rw [i_lt_f (by omega) (by omega), nP, nn_x ht (by omega) (by omega) (by omega), cl_some, nP, e, nS (by omega), nP]
      have ew : (if nI (cnt t p k) < nI (T - cnt t p k) then nI (T - cnt t p k) else nI (cnt t p k)) = nI (wrs t p T k) := wrs_i (by omega) (by omega)
      have hw := wrs_le (t := t) (p := p) (T := T) (k := k) (by omega)
      rw [ew, show 7 - k = (7 - (k + 1)) + 1 by omega, e2]
      rw [lkk_s]
      by_cases h : least ≤ wrs t p T k
      · rw [i_le_t h (by omega), if_pos h, look_x ht hp hT fu (k + 1) least best (by omega) (by omega) h3]
      · rw [i_le_f (by omega) (by omega), if_neg h, look_x ht hp hT fu (k + 1) (wrs t p T k) (nI k) (by omega) (by omega) (by omega)]
theorem lk57 {a : Ab} (ok : okA a) {x2 x3 x4 : Int32} {p k x : Nat} (hp : p ≤ 20) (hk : k ≤ 6) (hx : x ≤ 20) {kk : Int32 → St → Option (Int32 × St)} {s : St} (hm : mT a s) : ∀ (fu y n : Nat), y ≤ 7 → 7 < fu + y → M_X7_look_L57 (nI p) x2 x3 x4 (nI k) (nI x) kk fu (nI n) (nI y) s = kk (nI (n + sm (fun y => askd (soT (aT a)) p k x y) (7 - y) y)) s
  | 0, y, n, h1, h2 => absurd h2 (by omega)
  | fu + 1, y, n, h1, h2 => by
    rw [M_X7_look_L57]
    simp only [nl_0, nl_1, nl_2, nl_3, nl_4, nl_5, nl_6, nl_7, nl_8, nl_9, nl_10, nl_14, nl_20, nl_30, nl_32, nl_48, nl_57, nl_59, nl_60, nl_64, nl_99, nl_100, nl_102, nl_126, nl_140, nl_147, nl_181, nl_255, nl_999, jn]
    by_cases hy : y = 7
    · subst hy
      rw [i_lt_t (by omega) (by omega), Nat.sub_self]; rfl
    · rw [i_lt_f (by omega) (by omega), so_m ok hx (by omega) hm, cl_some, nP, nP, nP, show 7 - y = (7 - (y + 1)) + 1 by omega, sm_s, show askd (soT (aT a)) p k x y = b1 (soT (aT a) x y && decide (x ≤ p ∨ y ≤ k)) from rfl]
      cases h : soT (aT a) x y
      · rw [show nI (b1 false) = nI 0 from rfl, i_eq_t rfl, lk57 ok hp hk hx hm fu (y + 1) _ (by omega) (by omega)]
        simp [b1]
      · rw [show nI (b1 true) = nI 1 from rfl, i_eq_f (by decide) (by decide) (by decide), had_m hx (by omega) hp hk, cl_some]
        cases h3 : decide (x ≤ p ∨ y ≤ k)
        · rw [show nI (b1 false) = nI 0 from rfl, i_eq_t rfl, lk57 ok hp hk hx hm fu (y + 1) _ (by omega) (by omega)]
          simp [b1]
        · rw [show nI (b1 true) = nI 1 from rfl, i_eq_f (by decide) (by decide) (by decide), lk57 ok hp hk hx hm fu (y + 1) _ (by omega) (by omega)]
          simp [b1, Nat.add_assoc]
theorem lk47 {a : Ab} (ok : okA a) {x2 x3 x4 : Int32} {p k : Nat} (hp : p ≤ 20) (hk : k ≤ 6) {kk : Int32 → St → Option (Int32 × St)} {s : St} (hm : mT a s) : ∀ (fu x n : Nat), x ≤ 21 → 21 < fu + x → M_X7_look_L47 (nI p) x2 x3 x4 (nI k) kk fu (nI n) (nI x) s = kk (nI (n + sm (fun x => sm (fun y => askd (soT (aT a)) p k x y) 7 0) (21 - x) x)) s
  | 0, x, n, h1, h2 => absurd h2 (by omega)
  | fu + 1, x, n, h1, h2 => by
    rw [M_X7_look_L47]
    simp only [nl_0, nl_1, nl_2, nl_3, nl_4, nl_5, nl_6, nl_7, nl_8, nl_9, nl_10, nl_14, nl_20, nl_30, nl_32, nl_48, nl_57, nl_59, nl_60, nl_64, nl_99, nl_100, nl_102, nl_126, nl_140, nl_147, nl_181, nl_255, nl_999]
    by_cases hx : x = 21
    · subst hx
      rw [i_lt_t (by omega) (by omega), Nat.sub_self]; rfl
    · rw [i_lt_f (by omega) (by omega), nP, lk57 ok hp hk (by omega) hm 400 0 n (by omega) (by omega), lk47 ok hp hk hm fu (x + 1) _ (by omega) (by omega), show 21 - x = (21 - (x + 1)) + 1 by omega, sm_s (f := fun x => sm (fun y => askd (soT (aT a)) p k x y) 7 0), Nat.add_assoc]
theorem look_m {a : Ab} (ok : okA a) {p T : Nat} (hp : p ≤ 20) (hT : T = sm (rowc (soT (aT a))) 21 0) (h1T : 1 < T) {kk : Int32 → St → Option (Int32 × St)} {s : St} (hm : mT a s) : ∀ (fu k least : Nat) (best : Int32), k ≤ 7 → 7 < fu + k → least ≤ 148 → M_X7_look_L29 (nI p) (nI T) kk fu best (nI least) (nI k) s = kk (lkk (soT (aT a)) p T (7 - k) k best least) s
  | 0, k, least, best, h1, h2, _ => absurd h2 (by omega)
  | fu + 1, k, least, best, h1, h2, h3 => by
    rw [M_X7_look_L29]
    simp only [nl_0, nl_1, nl_2, nl_3, nl_4, nl_5, nl_6, nl_7, nl_8, nl_9, nl_10, nl_14, nl_20, nl_30, nl_32, nl_48, nl_57, nl_59, nl_60, nl_64, nl_99, nl_100, nl_102, nl_126, nl_140, nl_147, nl_181, nl_255, nl_999, jn]
    have hTl := tot_le (t := soT (aT a))
    by_cases hk : k = 7
    · subst hk
      rw [i_lt_t (by omega) (by omega), Nat.sub_self]; rfl
    · have hc := cnt_le (t := soT (aT a)) (p := p) (k := k)
      rw [i_lt_f (by omega) (by omega), i_le_f h1T (by omega), nP, lk47 ok hp (by omega) hm 400 0 0 (by omega) (by omega), Nat.zero_add]
      have hw := wrs_le (t := soT (aT a)) (p := p) (T := T) (k := k) (by omega)
      have key : (if nI least ≤ nI (wrs (soT (aT a)) p T k) then (if nI least ≤ nI (wrs (soT (aT a)) p T k) then M_X7_look_L29 (nI p) (nI T) kk fu best (nI least) (nI (k + 1)) s else M_X7_look_L29 (nI p) (nI T) kk fu best (nI (wrs (soT (aT a)) p T k)) (nI (k + 1)) s) else (if nI least ≤ nI (wrs (soT (aT a)) p T k) then M_X7_look_L29 (nI p) (nI T) kk fu (nI k) (nI least) (nI (k + 1)) s else M_X7_look_L29 (nI p) (nI T) kk fu (nI k) (nI (wrs (soT (aT a)) p T k)) (nI (k + 1)) s)) = kk (lkk (soT (aT a)) p T (7 - k) k best least) s := by
        rw [show 7 - k = (7 - (k + 1)) + 1 by omega]
        rw [lkk_s]
        by_cases h : least ≤ wrs (soT (aT a)) p T k
        · rw [i_le_t h (by omega), i_le_t h (by omega), if_pos h, look_m ok hp hT h1T hm fu (k + 1) least best (by omega) (by omega) h3]
        · rw [i_le_f (by omega) (by omega), i_le_f (by omega) (by omega), if_neg h, look_m ok hp hT h1T hm fu (k + 1) (wrs (soT (aT a)) p T k) (nI k) (by omega) (by omega) (by omega)]
      rw [← key]
      rw [show sm (fun x => sm (fun y => askd (soT (aT a)) p k x y) 7 0) (21 - 0) 0 = cnt (soT (aT a)) p k from rfl, nS (by omega)]
      by_cases h : cnt (soT (aT a)) p k ≤ T - cnt (soT (aT a)) p k
      · rw [i_le_t h (by omega), show wrs (soT (aT a)) p T k = T - cnt (soT (aT a)) p k from if_pos h]
      · rw [i_le_f (by omega) (by omega), show wrs (soT (aT a)) p T k = cnt (soT (aT a)) p k from if_neg h]
theorem op_look (x1 : Int32) : ∀ a, okA a → Op2 (M_X6_look x1) (M_X7_look x1) a := by
  intro a ok
  rcases in_cases x1 (m := 20) (by decide) with h | ⟨p, hp, rfl⟩
  · refine op2_same ok (-1) (fun s => ?_) (fun s => ?_)
    · unfold M_X6_look; rw [nl_20, wi_0 h]; rfl
    · unfold M_X7_look; rw [nl_20, in_0 h]; rfl
  have hTl := tot_le (t := soT (aT a))
  have totX : ∀ s, Rx a s → M_X4_number (nI 0) (nI 20) s = some (nI (sm (rowc (soT (aT a))) 21 0), s) := fun s hx => by
    rw [nb_x hx.2.2.2.2.1.2 (by omega) (by omega)]
    exact congrArg (fun v => some (nI v, s)) tot_eq
  have totM : ∀ s, Rm a s → M_X7_ones (nI 0) s = some (nI (sm (rowc (soT (aT a))) 21 0), s) := fun s hx => by
    rw [ones_m ok hx.2.2.2.2.1 (in_1 (j := 0) (m := 2) (by decide) (by decide)), if_pos (by rfl)]
  by_cases h1 : 1 < sm (rowc (soT (aT a))) 21 0
  · refine op2_rd ok (lkk (soT (aT a)) p (sm (rowc (soT (aT a))) 21 0) 6 1 (nI 0) (wrs (soT (aT a)) p (sm (rowc (soT (aT a))) 21 0) 0)) (fun s hx => ?_) (fun s hx => ?_)
    · unfold M_X6_look M_X4_bestOthers
      have hl := look_x hx.2.2.2.2.1.2 hp rfl (kk := fun v11 s12 => some (v11, s12)) 400 0 (sm (rowc (soT (aT a))) 21 0 + 1) (nI 0) (by omega) (by omega) (by omega)
      rw [lkk_first cnt_le] at hl
      rw [nl_20, wi_1 hp (by decide), cl_some, if_neg (by decide), nl_0, totX s hx, cl_some, nl_1, i_lt_t h1 (by omega), nb_x hx.2.2.2.2.1.2 (by omega) (by omega), cl_some, nP, show p + 1 - 0 = p + 1 from rfl]
      rw [show sm (fun y => sm (fun x => b1 (soT (aT a) x y)) (p + 1) 0) 7 0 = sm (fun y => sm (fun x => b1 (soT (aT a) x y)) (p + 1) 0) 7 0 + sm (fun y => sm (fun x => b1 (soT (aT a) x y)) (20 - p) (p + 1)) 0 0 from rfl, hl, cl_some]
    · unfold M_X7_look
      have hl := look_m ok hp rfl h1 (kk := fun v25 s26 => some (v25, s26)) hx.2.2.2.2.1 400 0 (sm (rowc (soT (aT a))) 21 0 + 1) (-9) (by omega) (by omega) (by omega)
      rw [lkk_first cnt_le] at hl
      rw [nl_20, in_1 hp (by decide), cl_some, if_neg (by decide), nl_0, totM s hx, cl_some, show nI (sm (rowc (soT (aT a))) 21 0) + 1 = nI (sm (rowc (soT (aT a))) 21 0 + 1) from nP, hl]
  · refine op2_rd ok (-9) (fun s hx => ?_) (fun s hx => ?_)
    · unfold M_X6_look M_X4_bestOthers
      rw [nl_20, wi_1 hp (by decide), cl_some, if_neg (by decide), nl_0, totX s hx, cl_some, show (1 : Int32) = nI 1 from rfl, i_lt_f (by omega) (by omega), cl_some]
    · unfold M_X7_look
      rw [nl_20, in_1 hp (by decide), cl_some, if_neg (by decide), nl_0, totM s hx, cl_some, M_X7_look_L29, nl_6, i_lt_f (by omega) (by omega), show (1 : Int32) = nI 1 from rfl, i_le_t (by omega) (by omega)]
