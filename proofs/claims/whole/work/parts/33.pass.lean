/-! ===== who asks, on a day ===== -/
def asR (sh nv : Nat → Nat) (b D : Nat) : Nat → Nat → Nat → Nat
  | 0, _, acc => acc
  | c + 1, f, acc => asR sh nv b D c (f + 1) (if sh f ≤ D ∨ nv f ≤ b then acc ||| 2 ^ f else acc)
def ask (n : Nat) (sh nv : Nat → Nat) (A D : Nat) : Nat := asR sh nv (pc A) D n 0 A
theorem asR_lt {sh nv : Nat → Nat} {b D n : Nat} : ∀ (c f acc : Nat), f + c = n → acc < 2 ^ n → asR sh nv b D c f acc < 2 ^ n
  | 0, f, acc, _, h => h
  | c + 1, f, acc, h1, h => by
    unfold asR
    refine asR_lt c (f + 1) _ (by omega) ?_
    split
    · exact or_lt h (by omega)
    · exact h
theorem ask_lt {n : Nat} {sh nv : Nat → Nat} {A D : Nat} (h : A < 2 ^ n) : ask n sh nv A D < 2 ^ n := asR_lt n 0 A (by omega) h
theorem pcl_le (A : Nat) : ∀ c j, pcl A c j ≤ c
  | 0, j => Nat.le_refl 0
  | c + 1, j => by
    unfold pcl
    have := pcl_le A c (j + 1)
    split <;> omega
theorem pc_le (A : Nat) : pc A ≤ 8 := pcl_le A 8 0
theorem bt_at1 {A f : Nat} (hA : A < 256) (hf : f < 8) : ((nI A >>> (nI f &&& 31)) &&& nI 1) = nI (if A.testBit f then 1 else 0) := bt_at A hA f hf
theorem bt_or1 {A f : Nat} (hA : A < 64) (hf : f < 6) : nI A ||| (nI 1 <<< (nI f &&& 31)) = nI (A ||| 2 ^ f) := bt_or A hA f hf
theorem bt_sh1 {f : Nat} (hf : f < 9) : nI 1 <<< (nI f &&& 31) = nI (2 ^ f) := bt_sh f hf
theorem or0 (x : Int32) : x ||| nI 0 = x := by
  apply Int32.toBitVec_inj.mp
  show x.toBitVec ||| 0#32 = x.toBitVec
  simp
theorem askx_loop {a : Ab} (ok : okA a) {b D : Nat} (hb : b ≤ 8) (hD : D < 100000) {kk : Int32 → St → Option (Int32 × St)} {s : St} (hx : xN a s) : ∀ (fu f acc : Nat), f ≤ aN a → aN a < fu + f → acc < 2 ^ aN a → M_X1_askedBehind_L11 9 (nI D) (nI b) kk fu (nI acc) (nI f) s = kk (nI (asR (aS a) (aV a) b D (aN a - f) f acc)) s
  | 0, f, acc, h1, h2, _ => absurd h2 (by omega)
  | fu + 1, f, acc, h1, h2, h3 => by
    have hn := ok.1
    rw [M_X1_askedBehind_L11, hx.1]
    simp only [nl_0, nl_1, nl_2, nl_3, nl_4, nl_5, nl_6, nl_7, nl_8, nl_9, nl_10, nl_14, nl_20, nl_30, nl_32, nl_48, nl_57, nl_59, nl_60, nl_64, nl_99, nl_100, nl_102, nl_126, nl_140, nl_147, nl_181, nl_255, nl_999, jn]
    by_cases hf : f = aN a
    · subst hf
      rw [i_le_t (Nat.le_refl _) (by omega), Nat.sub_self]; rfl
    · have hf2 : f < aN a := by omega
      have ho := ok.2.1 f hf2
      have h6 : acc < 64 := Nat.lt_of_lt_of_le h3 (pow6 hn)
      have hx2 := hx.2 f hf2
      rw [i_le_f hf2 (by omega), show (9 + 3) = 12 from rfl, show (9 + 4) = 13 from rfl, rd_nI (by omega) (by decide), hx2.2.1, show aN a - f = (aN a - (f + 1)) + 1 by omega]
      unfold asR
      by_cases hc : aS a f ≤ D
      · rw [i_le_t hc (by omega), bt_or1 h6 (by omega), nP, askx_loop ok hb hD hx fu (f + 1) _ (by omega) (by omega) (or_lt h3 hf2), if_pos (Or.inl hc)]
      · rw [i_le_f (by omega) (by omega), rd_nI (by omega) (by decide), hx2.2.2]
        by_cases hd : aV a f ≤ b
        · rw [i_lt_f hd (by omega), bt_or1 h6 (by omega), nP, askx_loop ok hb hD hx fu (f + 1) _ (by omega) (by omega) (or_lt h3 hf2), if_pos (Or.inr hd)]
        · rw [i_lt_t (by omega) (by omega), nP, askx_loop ok hb hD hx fu (f + 1) _ (by omega) (by omega) h3, if_neg (by omega)]
theorem ask_x {a : Ab} (ok : okA a) {A D : Nat} (hA : A < 2 ^ aN a) (hD : D < 100000) {s : St} (hx : xN a s) : M_X1_askedBehind 9 (nI A) (nI D) s = some (nI (ask (aN a) (aS a) (aV a) A D), s) := by
  have hn := ok.1
  unfold M_X1_askedBehind
  rw [bc (Nat.lt_of_lt_of_le hA (pow6 hn)), cl_some]
  have := askx_loop ok (pc_le A) hD (kk := fun v10 s11 => some (v10, s11)) hx 400 0 A (by omega) (by omega) hA
  rw [show (0 : Int32) = nI 0 from rfl, this]; rfl
theorem askm_loop {a : Ab} (ok : okA a) {A D : Nat} (hA : A < 2 ^ aN a) (hD : D < 100000) {kk : St → Option (Int32 × St)} : ∀ (fu f acc : Nat) (s : St), mN a s → s.1 78 0 = nI D → s.1 78 1 = nI acc → f ≤ aN a → aN a < fu + f → acc < 2 ^ aN a → ∃ s', M_X7_asks_L9 (nI A) kk fu (nI f) s = kk s' ∧ Ex (fun q => q = 78) s s' ∧ s'.1 78 1 = nI (asR (aS a) (aV a) (pc A) D (aN a - f) f acc) ∧ ∀ i, i ≠ 1 → s'.1 78 i = s.1 78 i
  | 0, f, acc, s, _, _, _, h1, h2, _ => absurd h2 (by omega)
  | fu + 1, f, acc, s, hx, h78, h781, h1, h2, h3 => by
    have hn := ok.1
    rw [M_X7_asks_L9, hx.1]
    simp only [nl_0, nl_1, nl_2, nl_3, nl_4, nl_5, nl_6, nl_7, nl_8, nl_9, nl_10, nl_14, nl_20, nl_30, nl_32, nl_48, nl_57, nl_59, nl_60, nl_64, nl_99, nl_100, nl_102, nl_126, nl_140, nl_147, nl_181, nl_255, nl_999, jn, if_true]
    by_cases hf : f = aN a
    · subst hf
      rw [i_le_t (Nat.le_refl _) (by omega), Nat.sub_self]
      exact ⟨s, rfl, Ex.rf, h781, fun i _ => rfl⟩
    · have hf2 : f < aN a := by omega
      have ho := ok.2.1 f hf2
      have h6 : acc < 64 := Nat.lt_of_lt_of_le h3 (pow6 hn)
      have hx2 := hx.2 f hf2
      have hpc := pc_le A
      -- one step on
      have go : ∀ acc', acc' < 2 ^ aN a → ∃ s', M_X7_asks_L9 (nI A) kk fu (nI (f + 1)) (up s 78 1 (nI acc')) = kk s' ∧ Ex (fun q => q = 78) s s' ∧ s'.1 78 1 = nI (asR (aS a) (aV a) (pc A) D (aN a - (f + 1)) (f + 1) acc') ∧ ∀ i, i ≠ 1 → s'.1 78 i = s.1 78 i := by
        intro acc' ha
        obtain ⟨s', e1, e2, e3, e4⟩ := askm_loop ok hA hD (kk := kk) fu (f + 1) acc' (up s 78 1 (nI acc')) (hx.ex (by rw [up_c (by decide)]) (Ex.u1 (k := 78)) (fun k hk => by omega)) (by rw [up_i (by decide)]; exact h78) up_s (by omega) (by omega) ha
        exact ⟨s', e1, Ex.u1.tr1 e2, e3, fun i hi => by rw [e4 i hi, up_i hi]⟩
      rw [i_le_f hf2 (by omega), rd_nI (by omega) (by decide), hx2.2.1, rd_nI (by decide) (by decide), h78, show aN a - f = (aN a - (f + 1)) + 1 by omega]
      unfold asR
      by_cases hc : aS a f ≤ D
      · rw [i_le_t hc (by omega), if_pos (Or.inl hc), rd_nI (by decide) (by decide), h781, i_eq_f (by decide) (by decide) (by decide), bt_or1 h6 (by omega), wr_nI (by decide) (by decide), nP]
        exact go _ (or_lt h3 hf2)
      · rw [i_le_f (by omega) (by omega), bits (Nat.lt_of_lt_of_le (Nat.lt_of_lt_of_le hA (pow6 hn)) (by decide)), cl_some, rd_nI (by omega) (by decide), hx2.2.2]
        by_cases hd : aV a f ≤ pc A
        · rw [i_lt_f hd (by omega), if_pos (Or.inr hd), rd_nI (by decide) (by decide), h781, i_eq_f (by decide) (by decide) (by decide), bt_or1 h6 (by omega), wr_nI (by decide) (by decide), nP]
          exact go _ (or_lt h3 hf2)
        · rw [i_lt_t (by omega) (by omega), if_neg (by omega), rd_nI (by decide) (by decide), h781, or0, wr_nI (by decide) (by decide), nP]
          exact go _ h3
theorem ask_m {a : Ab} (ok : okA a) {A D : Nat} (hA : A < 2 ^ aN a) (hD : D < 100000) {s : St} (hx : mN a s) (h78 : s.1 78 0 = nI D) (h781 : s.1 78 1 = nI A) : ∃ s', M_X7_asks s = some (0, s') ∧ Ex (fun q => q = 78) s s' ∧ s'.1 78 1 = nI (ask (aN a) (aS a) (aV a) A D) ∧ ∀ i, i ≠ 1 → s'.1 78 i = s.1 78 i := by
  unfold M_X7_asks
  rw [show (1 : Int32) = nI 1 from rfl, rd_nI (by decide) (by decide), h781]
  have := askm_loop ok hA hD (kk := fun s15 => some (0, s15)) 400 0 A s hx h78 h781 (by omega) (by have := ok.1; omega) hA
  exact this
/-! ===== what is mown, on a dry day ===== -/
def ctR (p : Nat → Bool) : Nat → Nat → Nat
  | 0, _ => 0
  | c + 1, f => (if p f then 1 else 0) + ctR p c (f + 1)
def fnd (p : Nat → Bool) : Nat → Nat → Option Nat
  | 0, _ => none
  | c + 1, g => if p g then some g else fnd p c (g + 1)
def mfp (A : Nat) (kp lf : Nat → Nat) (f g : Nat) : Bool := decide (kp g = f) && A.testBit g && decide (lf g ≠ 0)
def m2 (n A : Nat) (kp : Nat → Nat) (fr : Nat → Bool) : Nat → Nat → (Nat → Nat) → Nat → (Nat → Nat) × Nat
  | 0, _, lf, m => (lf, m)
  | c + 1, f, lf, m => if fr f then (match fnd (mfp A kp lf f) n 0 with
    | some g => m2 n A kp fr c (f + 1) (va_up lf g (lf g - 1)) (m + 1)
    | none => m2 n A kp fr c (f + 1) lf m) else m2 n A kp fr c (f + 1) lf m
def m1 (A : Nat) (lf : Nat → Nat) (g : Nat) : Nat := if A.testBit g = true ∧ lf g ≠ 0 then lf g - 1 else lf g
def mow (n A : Nat) (kp lf : Nat → Nat) : (Nat → Nat) × Nat := m2 n A kp (fun f => A.testBit f && decide (lf f = 0)) n 0 (m1 A lf) (ctR (fun g => A.testBit g && decide (lf g ≠ 0)) n 0)
def pas (n : Nat) (sh nv : Nat → Nat) (dry : Bool) (c : Sc) : Nat × Sc := if dry then ((mow n (ask n sh nv (cA c) (cD c)) (cK c) (cL c)).2, (cD c + 1, ask n sh nv (cA c) (cD c), (mow n (ask n sh nv (cA c) (cD c)) (cK c) (cL c)).1, cK c)) else (0, (cD c + 1, ask n sh nv (cA c) (cD c), cL c, cK c))
theorem fnd_some {p : Nat → Bool} : ∀ {c g j : Nat}, fnd p c g = some j → p j = true ∧ g ≤ j ∧ j < g + c
  | 0, g, j, h => by cases h
  | c + 1, g, j, h => by
    unfold fnd at h
    split at h
    · cases h
      exact ⟨by assumption, Nat.le_refl _, by omega⟩
    · obtain ⟨h1, h2, h3⟩ := fnd_some h
      exact ⟨h1, by omega, by omega⟩
theorem m2_le {n A : Nat} {kp : Nat → Nat} {fr : Nat → Bool} : ∀ (c f : Nat) (lf : Nat → Nat) (m : Nat), (∀ g, g < n → lf g ≤ 9) → ∀ g, g < n → (m2 n A kp fr c f lf m).1 g ≤ 9
  | 0, f, lf, m, h, g, hg => h g hg
  | c + 1, f, lf, m, h, g, hg => by
    unfold m2
    split
    · split
      · refine m2_le c (f + 1) _ _ (fun q hq => ?_) g hg
        unfold va_up
        split
        · rename_i e; have := h q hq; subst e; omega
        · exact h q hq
      · exact m2_le c (f + 1) _ _ h g hg
    · exact m2_le c (f + 1) _ _ h g hg
theorem mow_le {n A : Nat} {kp lf : Nat → Nat} (h : ∀ g, g < n → lf g ≤ 9) : ∀ g, g < n → (mow n A kp lf).1 g ≤ 9 := m2_le n 0 _ _ (fun g hg => by unfold m1; have := h g hg; split <;> omega)
/-- what a scene keeps to, whatever the day -/
def wf (n : Nat) (c : Sc) : Prop := cD c < 90000 ∧ cA c < 2 ^ n ∧ ∀ f, f < n → cL c f ≤ 9 ∧ cK c f < n
theorem okSc.wf {n : Nat} {c : Sc} (h : okSc n c) : wf n c := ⟨by have := h.1; omega, h.2⟩
theorem pas_wf {n : Nat} {sh nv : Nat → Nat} {d : Bool} {c : Sc} (h : wf n c) (hD : cD c < 80000) : wf n (pas n sh nv d c).2 := by
  unfold pas
  cases d
  · exact ⟨by show cD c + 1 < 90000; omega, ask_lt h.2.1, h.2.2⟩
  · exact ⟨by show cD c + 1 < 90000; omega, ask_lt h.2.1, fun f hf => ⟨mow_le (fun g hg => (h.2.2 g hg).1) f hf, (h.2.2 f hf).2⟩⟩
