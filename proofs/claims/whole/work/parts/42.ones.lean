/-! ===== sums ===== -/
def sm (f : Nat → Nat) : Nat → Nat → Nat
  | 0, _ => 0
  | c + 1, j => f j + sm f c (j + 1)
theorem sm_s {f : Nat → Nat} {c j : Nat} : sm f (c + 1) j = f j + sm f c (j + 1) := rfl
theorem sm_congr {f g : Nat → Nat} : ∀ (c j : Nat), (∀ i, j ≤ i → i < j + c → f i = g i) → sm f c j = sm g c j
  | 0, j, _ => rfl
  | c + 1, j, h => by
    unfold sm
    rw [h j (by omega) (by omega), sm_congr c (j + 1) (fun i h1 h2 => h i (by omega) (by omega))]
theorem sm_add {f g : Nat → Nat} : ∀ (c j : Nat), sm (fun i => f i + g i) c j = sm f c j + sm g c j
  | 0, j => rfl
  | c + 1, j => by
    unfold sm
    rw [sm_add c (j + 1)]; omega
theorem sm_zero : ∀ (c j : Nat), sm (fun _ => 0) c j = 0
  | 0, j => rfl
  | c + 1, j => by
    unfold sm
    rw [sm_zero c (j + 1)]
theorem sm_split {f : Nat → Nat} : ∀ (c d j : Nat), sm f (c + d) j = sm f c j + sm f d (j + c)
  | 0, d, j => by simp [sm]
  | c + 1, d, j => by
    rw [show c + 1 + d = (c + d) + 1 by omega]
    rw [sm_s, sm_s, sm_split c d (j + 1), show j + (c + 1) = j + 1 + c by omega]; omega
theorem sm_swap {g : Nat → Nat → Nat} : ∀ (c j d i : Nat), sm (fun x => sm (fun y => g x y) d i) c j = sm (fun y => sm (fun x => g x y) c j) d i
  | 0, j, d, i => by
    show 0 = sm (fun _ => 0) d i
    rw [sm_zero d i]
  | c + 1, j, d, i => by
    have h : sm (fun y => sm (fun x => g x y) (c + 1) j) d i = sm (fun y => g j y + sm (fun x => g x y) c (j + 1)) d i := sm_congr d i (fun y _ _ => rfl)
    rw [h, sm_add, ← sm_swap c (j + 1) d i]; rfl
theorem sm_le {f : Nat → Nat} {m : Nat} (h : ∀ i, f i ≤ m) : ∀ (c j : Nat), sm f c j ≤ c * m
  | 0, j => by unfold sm; omega
  | c + 1, j => by
    unfold sm
    have := h j
    have := sm_le h c (j + 1)
    rw [Nat.succ_mul]; omega
def b1 (b : Bool) : Nat := if b then 1 else 0
theorem b1_le (b : Bool) : b1 b ≤ 1 := by cases b <;> decide
/-! ===== the class: how many could be so ===== -/
theorem nn_loop {t : Nat → Nat → Bool} {s : St} (ht : ∀ x y, x < 21 → y < 7 → s.1 65 (x * 7 + y) = if t x y then 0 else 1) {y hi : Nat} (hy : y < 7) (hh : hi ≤ 20) {kk : Int32 → St → Option (Int32 × St)} : ∀ (fu x acc : Nat), x ≤ hi + 1 → hi + 1 < fu + x → M_X4_numberOfNerve_L6 (nI y) (nI hi) kk fu (nI acc) (nI x) s = kk (nI (acc + sm (fun x => b1 (t x y)) (hi + 1 - x) x)) s
  | 0, x, acc, h1, h2 => absurd h2 (by omega)
  | fu + 1, x, acc, h1, h2 => by
    rw [M_X4_numberOfNerve_L6]
    simp only [nl_0, nl_1, nl_2, nl_3, nl_4, nl_5, nl_6, nl_7, nl_8, nl_9, nl_10, nl_14, nl_20, nl_30, nl_32, nl_48, nl_57, nl_59, nl_60, nl_64, nl_99, nl_100, nl_102, nl_126, nl_140, nl_147, nl_181, nl_255, nl_999, jn]
    by_cases hx : x = hi + 1
    · subst hx
      rw [i_lt_t (by omega) (by omega), Nat.sub_self]; rfl
    · rw [i_lt_f (by omega) (by omega), nM, nP, rd_nI (by omega) (by decide), ht x y (by omega) hy, show hi + 1 - x = (hi + 1 - (x + 1)) + 1 by omega]
      unfold sm
      cases h : t x y
      · rw [if_neg (by decide), nP, nn_loop ht hy hh fu (x + 1) acc (by omega) (by omega)]
        simp [b1]
      · rw [if_pos (by decide), nP, nP, nn_loop ht hy hh fu (x + 1) (acc + 1) (by omega) (by omega)]
        simp [b1, Nat.add_assoc]
theorem nn_x {t : Nat → Nat → Bool} {s : St} (ht : ∀ x y, x < 21 → y < 7 → s.1 65 (x * 7 + y) = if t x y then 0 else 1) {y lo hi : Nat} (hy : y < 7) (hh : hi ≤ 20) (hl : lo ≤ hi + 1) : M_X4_numberOfNerve (nI y) (nI lo) (nI hi) s = some (nI (sm (fun x => b1 (t x y)) (hi + 1 - lo) lo), s) := by
  unfold M_X4_numberOfNerve
  rw [nl_0, nn_loop ht hy hh 400 lo 0 hl (by omega), Nat.zero_add]
theorem nb_loop {t : Nat → Nat → Bool} {s : St} (ht : ∀ x y, x < 21 → y < 7 → s.1 65 (x * 7 + y) = if t x y then 0 else 1) {lo hi : Nat} (hh : hi ≤ 20) (hl : lo ≤ hi + 1) {kk : Int32 → St → Option (Int32 × St)} : ∀ (fu y acc : Nat), y ≤ 7 → 7 < fu + y → M_X4_number_L5 (nI lo) (nI hi) kk fu (nI acc) (nI y) s = kk (nI (acc + sm (fun y => sm (fun x => b1 (t x y)) (hi + 1 - lo) lo) (7 - y) y)) s
  | 0, y, acc, h1, h2 => absurd h2 (by omega)
  | fu + 1, y, acc, h1, h2 => by
    rw [M_X4_number_L5]
    simp only [nl_0, nl_1, nl_2, nl_3, nl_4, nl_5, nl_6, nl_7, nl_8, nl_9, nl_10, nl_14, nl_20, nl_30, nl_32, nl_48, nl_57, nl_59, nl_60, nl_64, nl_99, nl_100, nl_102, nl_126, nl_140, nl_147, nl_181, nl_255, nl_999]
    by_cases hy : y = 7
    · subst hy
      rw [i_lt_t (by omega) (by omega), Nat.sub_self]; rfl
    · rw [i_lt_f (by omega) (by omega), nn_x ht (by omega) hh hl, cl_some, nP, nP, nb_loop ht hh hl fu (y + 1) _ (by omega) (by omega), show 7 - y = (7 - (y + 1)) + 1 by omega, Nat.add_assoc]; rfl
theorem nb_x {t : Nat → Nat → Bool} {s : St} (ht : ∀ x y, x < 21 → y < 7 → s.1 65 (x * 7 + y) = if t x y then 0 else 1) {lo hi : Nat} (hh : hi ≤ 20) (hl : lo ≤ hi + 1) : M_X4_number (nI lo) (nI hi) s = some (nI (sm (fun y => sm (fun x => b1 (t x y)) (hi + 1 - lo) lo) 7 0), s) := by
  unfold M_X4_number
  rw [nl_0, nb_loop ht hh hl 400 0 0 (by omega) (by omega), Nat.zero_add]
def rowc (t : Nat → Nat → Bool) (x : Nat) : Nat := sm (fun y => b1 (t x y)) 7 0
theorem rowc_le {t : Nat → Nat → Bool} {x : Nat} : rowc t x ≤ 7 := sm_le (m := 1) (fun i => b1_le _) 7 0
theorem row_x {t : Nat → Nat → Bool} {s : St} (ht : ∀ x y, x < 21 → y < 7 → s.1 65 (x * 7 + y) = if t x y then 0 else 1) {x : Nat} (hx : x ≤ 20) : M_X4_number (nI x) (nI x) s = some (nI (rowc t x), s) := by
  rw [nb_x ht hx (by omega), show x + 1 - x = 1 by omega]; rfl
def lst (t : Nat → Nat → Bool) (d : Int32) : Nat → Nat → Int32
  | 0, _ => d
  | c + 1, x => if rowc t x = 0 then lst t d c (x + 1) else nI x
def grt (t : Nat → Nat → Bool) (d : Int32) : Nat → Int32
  | 0 => d
  | x + 1 => if rowc t x = 0 then grt t d x else nI x
def gup (t : Nat → Nat → Bool) (d : Int32) : Nat → Nat → Int32
  | 0, _ => d
  | c + 1, x => gup t (if rowc t x = 0 then d else nI x) c (x + 1)
theorem gup_grt {t : Nat → Nat → Bool} {d : Int32} : ∀ (c x : Nat), gup t (grt t d x) c x = grt t d (x + c)
  | 0, x => rfl
  | c + 1, x => by
    unfold gup
    have := gup_grt (t := t) (d := d) c (x + 1)
    rw [show x + (c + 1) = x + 1 + c by omega, ← this]; rfl
theorem least_x {t : Nat → Nat → Bool} {s : St} (ht : ∀ x y, x < 21 → y < 7 → s.1 65 (x * 7 + y) = if t x y then 0 else 1) : ∀ (fu x : Nat), x ≤ 21 → 21 < fu + x → M_X4_leastShame_L2 (fun s3 => some (-9, s3)) fu (nI x) s = some (lst t (-9) (21 - x) x, s)
  | 0, x, h1, h2 => absurd h2 (by omega)
  | fu + 1, x, h1, h2 => by
    rw [M_X4_leastShame_L2]
    simp only [nl_20, nl_0, nl_1]
    by_cases hx : x = 21
    · subst hx
      rw [i_lt_t (by omega) (by omega), Nat.sub_self]; rfl
    · have hr := rowc_le (t := t) (x := x)
      rw [i_lt_f (by omega) (by omega), row_x ht (by omega), cl_some, show 21 - x = (21 - (x + 1)) + 1 by omega]
      unfold lst
      by_cases h0 : rowc t x = 0
      · rw [i_le_t (by omega) (by omega), if_pos h0, nP, least_x ht fu (x + 1) (by omega) (by omega)]
      · rw [i_le_f (by omega) (by omega), if_neg h0]
theorem great_x {t : Nat → Nat → Bool} {s : St} (ht : ∀ x y, x < 21 → y < 7 → s.1 65 (x * 7 + y) = if t x y then 0 else 1) : ∀ (fu x : Nat), x ≤ 21 → x < fu → M_X4_greatestShame_L3 (fun s3 => some (-9, s3)) fu (if x = 0 then -1 else nI (x - 1)) s = some (grt t (-9) x, s)
  | 0, x, h1, h2 => absurd h2 (by omega)
  | fu + 1, x, h1, h2 => by
    rw [M_X4_greatestShame_L3]
    match x, h1, h2 with
    | 0, _, _ =>
      rw [if_pos rfl, if_pos (by decide)]; rfl
    | x + 1, h1, h2 =>
      have hr := rowc_le (t := t) (x := x)
      have e0 : (if x + 1 = 0 then (-1 : Int32) else nI (x + 1 - 1)) = nI x := by rw [if_neg (by omega)]; rfl
      rw [e0, if_neg (nI_pos (by omega)), row_x ht (by omega), cl_some]
      unfold grt
      by_cases h0 : rowc t x = 0
      · have e : nI x + -1 = if x = 0 then -1 else nI (x - 1) := by
          by_cases hx : x = 0
          · subst hx; rw [if_pos rfl]; decide
          · rw [if_neg hx, ← nS (show 1 ≤ x by omega), Int32.sub_eq_add_neg]; rfl
        rw [show (0 : Int32) = nI 0 from rfl, i_le_t (by omega) (by omega), if_pos h0, e, great_x ht fu x (by omega) (by omega)]
      · rw [show (0 : Int32) = nI 0 from rfl, i_le_f (by omega) (by omega), if_neg h0]
/-! ===== the reference ===== -/
theorem had_m {x y p q : Nat} (hx : x ≤ 20) (hy : y ≤ 6) (hp : p ≤ 20) (hq : q ≤ 6) {s : St} : M_X7_hadAsked (nI x) (nI y) (nI p) (nI q) s = some (nI (b1 (decide (x ≤ p ∨ y ≤ q))), s) := by
  unfold M_X7_hadAsked
  by_cases h : x ≤ p
  · rw [i_le_t h (by omega)]; simp [h, b1, nl_1]
  · rw [i_le_f (by omega) (by omega)]
    by_cases h2 : q < y
    · rw [i_lt_t h2 (by omega)]; simp [h, b1, nl_0, show ¬ y ≤ q by omega]
    · rw [i_lt_f (by omega) (by omega)]; simp [b1, nl_1, show y ≤ q by omega]
theorem so_loop {a : Ab} (ok : okA a) {x y : Nat} (hx : x ≤ 20) (hy : y ≤ 6) {kk : Int32 → St → Option (Int32 × St)} {s : St} (hm : mT a s) : ∀ (fu i : Nat) (b : Bool), i ≤ (aT a).length → (aT a).length < fu + i → M_X7_isSo_L5 (nI x) (nI y) kk fu (nI (b1 b)) (nI i) s = kk (nI (b1 (b && soT ((aT a).drop i) x y))) s
  | 0, i, b, h1, h2 => absurd h2 (by omega)
  | fu + 1, i, b, h1, h2 => by
    have hl := ok.2.2.2.2.2.1.1
    rw [M_X7_isSo_L5, hm.1]
    simp only [nl_0, nl_1, nl_2, nl_3, nl_4, nl_5, nl_6, nl_7, nl_8, nl_9, nl_10, nl_14, nl_20, nl_30, nl_32, nl_48, nl_57, nl_59, nl_60, nl_64, nl_99, nl_100, nl_102, nl_126, nl_140, nl_147, nl_181, nl_255, nl_999, jn]
    by_cases hi : i = (aT a).length
    · subst hi
      rw [i_le_t (Nat.le_refl _) (by omega), List.drop_length]
      simp [soT]
    · have hi2 : i < (aT a).length := by omega
      have hd : (aT a).drop i = (aT a)[i] :: (aT a).drop (i + 1) := List.drop_eq_getElem_cons hi2
      have hg := hm.2 i (aT a)[i] (List.getElem?_eq_getElem hi2)
      have ho := ok.2.2.2.2.2.1.2 (aT a)[i] (List.getElem_mem hi2)
      have hs : soT ((aT a).drop i) x y = ((decide (x ≤ (aT a)[i].1 ∨ y ≤ (aT a)[i].2.1) == (aT a)[i].2.2) && soT ((aT a).drop (i + 1)) x y) := by
        rw [hd]; unfold soT; rw [List.all_cons]
      have go := fun b => so_loop ok hx hy hm (kk := kk) fu (i + 1) b (by omega) (by omega)
      rw [i_le_f hi2 (by omega), nP]
      cases b
      · rw [show nI (b1 false) = nI 0 from rfl, i_eq_t rfl]
        rw [show nI 0 = nI (b1 false) from rfl, go false]
        simp
      · rw [show nI (b1 true) = nI 1 from rfl, i_eq_f (by decide) (by decide) (by decide), nM, nP, nP, rd_nI (by omega) (by decide), rd_nI (by omega) (by decide), hg.1, hg.2.1, had_m hx hy ho.1 ho.2, cl_some, rd_nI (by omega) (by decide), hg.2.2, hs]
        generalize decide (x ≤ (aT a)[i].1 ∨ y ≤ (aT a)[i].2.1) = u
        generalize (aT a)[i].2.2 = v
        cases u <;> cases v
        · rw [if_neg (by decide), if_pos (by rfl)]
          rw [show nI 1 = nI (b1 true) from rfl, go true]; simp
        · rw [if_pos (by decide), if_neg (by decide)]
          rw [show nI 0 = nI (b1 false) from rfl, go false]; simp
        · rw [if_neg (by decide), if_neg (by decide)]
          rw [show nI 0 = nI (b1 false) from rfl, go false]; simp
        · rw [if_pos (by decide), if_pos (by rfl)]
          rw [show nI 1 = nI (b1 true) from rfl, go true]; simp
theorem so_m {a : Ab} (ok : okA a) {x y : Nat} (hx : x ≤ 20) (hy : y ≤ 6) {s : St} (hm : mT a s) : M_X7_isSo (nI x) (nI y) s = some (nI (b1 (soT (aT a) x y)), s) := by
  have hl := ok.2.2.2.2.2.1.1
  unfold M_X7_isSo
  have := so_loop ok hx hy (kk := fun v12 s13 => rz v12 s13) hm 400 0 true (by omega) (by omega)
  rw [show (1 : Int32) = nI (b1 true) from rfl, nl_0, this, List.drop_zero, Bool.true_and]
  cases soT (aT a) x y <;> rfl
