/-! ===== forget, sees ===== -/
theorem narb0 : vp_nar .boolean (nI 0) = nI 0 := rfl
theorem narb1 : vp_nar .boolean (nI 1) = nI 1 := rfl
theorem begin4 {kk : St → Option (Int32 × St)} : ∀ (fu j : Nat) (s : St), j ≤ 147 → 147 < fu + j → ∃ s', M_X4_begin_L7 kk fu (nI j) s = kk s' ∧ Ex (fun q => q = 65) s s' ∧ (∀ i, j ≤ i → i < 147 → s'.1 65 i = 0) ∧ ∀ i, i < j → s'.1 65 i = s.1 65 i
  | 0, j, s, h1, h2 => absurd h2 (by omega)
  | fu + 1, j, s, h1, h2 => by
    rw [M_X4_begin_L7]
    simp only [nl_0, nl_1, nl_2, nl_3, nl_4, nl_5, nl_6, nl_7, nl_8, nl_9, nl_10, nl_14, nl_20, nl_30, nl_32, nl_48, nl_57, nl_59, nl_60, nl_64, nl_99, nl_100, nl_102, nl_126, nl_140, nl_147, nl_181, nl_255, nl_999]
    by_cases hj : j = 147
    · subst hj
      rw [i_le_t (Nat.le_refl _) (by omega)]
      exact ⟨s, rfl, Ex.rf, fun i h3 h4 => by omega, fun i _ => rfl⟩
    · rw [i_le_f (by omega) (by omega), narb0, wr_nI (by omega) (by decide), nP]
      obtain ⟨s', e1, e2, e3, e4⟩ := begin4 (kk := kk) fu (j + 1) (up s 65 j (nI 0)) (by omega) (by omega)
      refine ⟨s', e1, Ex.u1.tr1 e2, fun i h3 h4 => ?_, fun i h3 => by rw [e4 i (by omega), up_i (by omega)]⟩
      by_cases hi : i = j
      · subst hi; rw [e4 i (by omega), up_s]
      · exact e3 i (by omega) h4
theorem begin_x (s : St) : ∃ s', M_X4_begin s = some (0, s') ∧ Ex (fun q => q = 64 ∨ q = 65) s s' ∧ s'.1 64 0 = nI 0 ∧ ∀ i, i < 147 → s'.1 65 i = 0 := by
  obtain ⟨s', e1, e2, e3, e4⟩ := begin4 (kk := fun s3 => some (0, s3)) 400 0 (up s 64 0 (nI 0)) (by omega) (by omega)
  refine ⟨s', ?_, (Ex.u2 (k := 64) (by omega)).tr1 (e2.mono (fun q hq => by omega)), by rw [e2.1 64 (by omega), up_s], fun i hi => e3 i (by omega) hi⟩
  unfold M_X4_begin
  simp only [pu]
  exact e1
theorem op_forget : ∀ a, okA a → Op2 (M_X6_forget) (M_X7_forget) a := by
  intro a ok
  refine ⟨sT a [], nI (aT a).length, 0, ?_, ?_, ?_⟩
  · obtain ⟨o1, o2, o3, o4, o5, o6, o7⟩ := ok
    exact ⟨o1, o2, o3, o4, o5, ⟨Nat.zero_le _, fun x hx => absurd hx List.not_mem_nil⟩, o7⟩
  · intro s hx
    obtain ⟨h1, h2, h3, h4, h5, h6⟩ := hx
    obtain ⟨s1, e1, e2, e3, e4⟩ := begin_x s
    refine ⟨s1, by unfold M_X6_forget; rw [e1, cl_some, h5.1], ⟨xN.ex (a := a) h1 e2 (fun k hk => by omega), h2.ex e2 (fun k hk => by omega), xH.ex (a := a) h3 e2 (fun k hk => by omega), xI.ex (a := a) h4 e2 (fun k hk => by omega), ⟨e3, fun x y hx hy => ?_⟩, xX.ex (a := a) h6 e2 (fun k hk => by omega)⟩, e2.frx (fun k hk => by omega), by rw [e2.2, Int64.add_zero]⟩
    rw [e4 _ (by omega)]; rfl
  · intro s hx
    obtain ⟨h1, h2, h3, h4, h5, h6⟩ := hx
    refine ⟨up s 67 9 0, by unfold M_X7_forget pu; rw [h5.1], ⟨h1, h2, h3, h4, ⟨up_s, fun i t hi => by simp [aT, sT] at hi⟩, h6⟩, Ex.u1.frm (fun k hk => by omega), by rw [Int64.add_zero]; rfl⟩
def okT (p q : Nat) (b : Bool) (x y : Nat) : Bool := decide (x ≤ p ∨ y ≤ q) == b
theorem bI (b : Bool) : nI (if b then 1 else 0) = if b then (1 : Int32) else 0 := by cases b <;> rfl
theorem learn23 {p q : Nat} {b : Bool} (hp : p ≤ 20) (hq : q ≤ 6) {x : Nat} (hx : x ≤ 20) {kk : St → Option (Int32 × St)} : ∀ (fu y : Nat) (s : St), y ≤ 7 → 7 < fu + y → ∃ s', M_X4_learn_L23 (nI p) (nI q) (nI (if b then 1 else 0)) (nI x) kk fu (nI y) s = kk s' ∧ Ex (fun k => k = 65) s s' ∧ ∀ x' y', y' < 7 → s'.1 65 (x' * 7 + y') = if x' = x ∧ y ≤ y' ∧ okT p q b x' y' = false then nI 1 else s.1 65 (x' * 7 + y')
  | 0, y, s, h1, h2 => absurd h2 (by omega)
  | fu + 1, y, s, h1, h2 => by
    rw [M_X4_learn_L23]
    simp only [nl_0, nl_1, nl_2, nl_3, nl_4, nl_5, nl_6, nl_7, nl_8, nl_9, nl_10, nl_14, nl_20, nl_30, nl_32, nl_48, nl_57, nl_59, nl_60, nl_64, nl_99, nl_100, nl_102, nl_126, nl_140, nl_147, nl_181, nl_255, nl_999, jn]
    by_cases hy : y = 7
    · subst hy
      rw [i_lt_t (by omega) (by omega)]
      exact ⟨s, rfl, Ex.rf, fun x' y' h3 => by rw [if_neg (by omega)]⟩
    · rw [i_lt_f (by omega) (by omega), narb1, nP, nM, nP]
      -- what is told of this one
      have key : ∀ v : Bool, v = decide (x ≤ p ∨ y ≤ q) → ∃ s', (if nI (if v then 1 else 0) = nI (if b then 1 else 0) then M_X4_learn_L23 (nI p) (nI q) (nI (if b then 1 else 0)) (nI x) kk fu (nI (y + 1)) s else wr s 65 147 (nI (x * 7 + y)) (nI 1) fun s7 => M_X4_learn_L23 (nI p) (nI q) (nI (if b then 1 else 0)) (nI x) kk fu (nI (y + 1)) s7) = kk s' ∧ Ex (fun k => k = 65) s s' ∧ ∀ x' y', y' < 7 → s'.1 65 (x' * 7 + y') = if x' = x ∧ y ≤ y' ∧ okT p q b x' y' = false then nI 1 else s.1 65 (x' * 7 + y') := by
        intro v hv
        by_cases hvb : v = b
        · rw [if_pos (by rw [hvb])]
          obtain ⟨s', e1, e2, e3⟩ := learn23 hp hq hx (kk := kk) fu (y + 1) s (by omega) (by omega)
          refine ⟨s', e1, e2, fun x' y' h3 => ?_⟩
          rw [e3 x' y' h3]
          by_cases hc : x' = x ∧ y' = y
          · obtain ⟨rfl, rfl⟩ := hc
            have : okT p q b x' y' = true := by unfold okT; rw [← hv, hvb]; simp
            rw [if_neg (by simp [this]), if_neg (by simp [this])]
          · by_cases hd : x' = x ∧ y + 1 ≤ y' ∧ okT p q b x' y' = false
            · rw [if_pos hd, if_pos ⟨hd.1, by omega, hd.2.2⟩]
            · rw [if_neg hd, if_neg (fun w => hd ⟨w.1, by omega, w.2.2⟩)]
        · rw [if_neg (by cases v <;> cases b <;> first | exact absurd rfl hvb | decide), wr_nI (by omega) (by decide)]
          obtain ⟨s', e1, e2, e3⟩ := learn23 hp hq hx (kk := kk) fu (y + 1) (up s 65 (x * 7 + y) (nI 1)) (by omega) (by omega)
          refine ⟨s', e1, Ex.u1.tr1 e2, fun x' y' h3 => ?_⟩
          rw [e3 x' y' h3]
          by_cases hc : x' = x ∧ y' = y
          · obtain ⟨rfl, rfl⟩ := hc
            have : okT p q b x' y' = false := by unfold okT; rw [← hv]; cases v <;> cases b <;> first | exact absurd rfl hvb | rfl
            rw [if_neg (by omega), up_s, if_pos ⟨rfl, Nat.le_refl _, this⟩]
          · rw [up_i (by omega)]
            by_cases hd : x' = x ∧ y + 1 ≤ y' ∧ okT p q b x' y' = false
            · rw [if_pos hd, if_pos ⟨hd.1, by omega, hd.2.2⟩]
            · rw [if_neg hd, if_neg (fun w => hd ⟨w.1, by omega, w.2.2⟩)]
      by_cases h3 : x ≤ p
      · rw [i_le_t h3 (by omega)]
        exact key true (by simp [h3])
      · rw [i_le_f (by omega) (by omega)]
        by_cases h4 : q < y
        · rw [i_lt_t h4 (by omega)]
          exact key false (by simp [h3]; omega)
        · rw [i_lt_f (by omega) (by omega)]
          exact key true (by simp [h3]; omega)
theorem learn13 {p q : Nat} {b : Bool} (hp : p ≤ 20) (hq : q ≤ 6) {kk : St → Option (Int32 × St)} : ∀ (fu x : Nat) (s : St), x ≤ 21 → 21 < fu + x → ∃ s', M_X4_learn_L13 (nI p) (nI q) (nI (if b then 1 else 0)) kk fu (nI x) s = kk s' ∧ Ex (fun k => k = 65) s s' ∧ ∀ x' y', x' < 21 → y' < 7 → s'.1 65 (x' * 7 + y') = if x ≤ x' ∧ okT p q b x' y' = false then nI 1 else s.1 65 (x' * 7 + y')
  | 0, x, s, h1, h2 => absurd h2 (by omega)
  | fu + 1, x, s, h1, h2 => by
    rw [M_X4_learn_L13]
    simp only [nl_0, nl_1, nl_2, nl_3, nl_4, nl_5, nl_6, nl_7, nl_8, nl_9, nl_10, nl_14, nl_20, nl_30, nl_32, nl_48, nl_57, nl_59, nl_60, nl_64, nl_99, nl_100, nl_102, nl_126, nl_140, nl_147, nl_181, nl_255, nl_999]
    by_cases hx : x = 21
    · subst hx
      rw [i_lt_t (by omega) (by omega)]
      exact ⟨s, rfl, Ex.rf, fun x' y' h3 h4 => by rw [if_neg (by omega)]⟩
    · rw [i_lt_f (by omega) (by omega), nP]
      obtain ⟨s1, e1, e2, e3⟩ := learn23 (b := b) hp hq (x := x) (by omega) (kk := fun s8 => M_X4_learn_L13 (nI p) (nI q) (nI (if b then 1 else 0)) kk fu (nI (x + 1)) s8) 400 0 s (by omega) (by omega)
      obtain ⟨s2, g1, g2, g3⟩ := learn13 (b := b) hp hq (kk := kk) fu (x + 1) s1 (by omega) (by omega)
      refine ⟨s2, e1.trans g1, e2.tr1 g2, fun x' y' h3 h4 => ?_⟩
      rw [g3 x' y' h3 h4, e3 x' y' h4]
      by_cases hd : okT p q b x' y' = false
      · by_cases hc : x + 1 ≤ x'
        · rw [if_pos ⟨hc, hd⟩, if_pos ⟨by omega, hd⟩]
        · rw [if_neg (fun w => hc w.1)]
          by_cases he : x' = x
          · rw [if_pos ⟨he, by omega, hd⟩, if_pos ⟨by omega, hd⟩]
          · rw [if_neg (fun w => he w.1), if_neg (fun w => by have := w.1; omega)]
      · rw [if_neg (fun w => hd w.2), if_neg (fun w => hd w.2.2), if_neg (fun w => hd w.2)]
theorem op_sees (x1 x2 x3 : Int32) : ∀ a, okA a → Op2 (M_X6_sees x1 x2 x3) (M_X7_sees x1 x2 x3) a := by
  intro a ok
  rcases in_cases x1 (m := 20) (by decide) with h | ⟨p, hp, rfl⟩
  · refine op2_same ok (-1) (fun s => ?_) (fun s => ?_)
    · unfold M_X6_sees; rw [nl_20, wi_0 h]; rfl
    · unfold M_X7_sees; rw [nl_20, in_0 h]; rfl
  rcases in_cases x2 (m := 6) (by decide) with h | ⟨q, hq, rfl⟩
  · refine op2_same ok (-1) (fun s => ?_) (fun s => ?_)
    · unfold M_X6_sees; rw [nl_20, wi_1 hp (by decide), cl_some, if_neg (by decide), nl_6, wi_0 h]; rfl
    · unfold M_X7_sees; rw [nl_20, in_1 hp (by decide), cl_some, if_neg (by decide), nl_6, in_0 h]; rfl
  rcases in_cases x3 (m := 1) (by decide) with h | ⟨b0, hb0, rfl⟩
  · refine op2_same ok (-1) (fun s => ?_) (fun s => ?_)
    · unfold M_X6_sees; rw [nl_20, wi_1 hp (by decide), cl_some, if_neg (by decide), nl_6, wi_1 hq (by decide), cl_some, if_neg (by decide), nl_1, wi_0 h]; rfl
    · unfold M_X7_sees; rw [nl_20, in_1 hp (by decide), cl_some, if_neg (by decide), nl_6, in_1 hq (by decide), cl_some, if_neg (by decide), nl_1, in_0 h]; rfl
  obtain ⟨b, rfl⟩ : ∃ b : Bool, b0 = if b then 1 else 0 := by
    by_cases h : b0 = 1
    · exact ⟨true, h⟩
    · exact ⟨false, show b0 = 0 by omega⟩
  have hl := ok.2.2.2.2.2.1.1
  have preX : ∀ s, M_X6_sees (nI p) (nI q) (nI (if b then 1 else 0)) s = if s.1 64 0 < nI 6 then cl (M_X4_learn (nI p) (nI q) (nI (if b then 1 else 0)) s) fun r10 s11 => some (s11.1 64 0, s11) else some (-3, s) := by
    intro s
    unfold M_X6_sees
    rw [nl_20, wi_1 hp (by decide), cl_some, if_neg (by decide), nl_6, wi_1 hq (by decide), cl_some, if_neg (by decide), nl_1, wi_1 hb0 (by decide), cl_some, if_neg (by decide)]
    cases b <;> rfl
  have preM : ∀ s, M_X7_sees (nI p) (nI q) (nI (if b then 1 else 0)) s = if s.1 67 9 = nI 6 then some (-3, s) else (wr s 75 18 (nI 3 * s.1 67 9) (nI p) fun s7 => wr s7 75 18 (nI 3 * s7.1 67 9 + nI 1) (nI q) fun s8 => wr s8 75 18 (nI 3 * s8.1 67 9 + nI 2) (nI (if b then 1 else 0)) fun s9 => pu s9 67 9 (s9.1 67 9 + nI 1) fun s10 => some (s10.1 67 9, s10)) := by
    intro s
    unfold M_X7_sees
    rw [nl_20, in_1 hp (by decide), cl_some, if_neg (by decide), nl_6, in_1 hq (by decide), cl_some, if_neg (by decide), nl_1, in_1 hb0 (by decide), cl_some, if_neg (by decide)]
    rfl
  by_cases hf : (aT a).length = 6
  · refine op2_rd ok (-3) (fun s hx => ?_) (fun s hx => ?_)
    · rw [preX, hx.2.2.2.2.1.1, hf, i_lt_f (by omega) (by omega)]
    · rw [preM, hx.2.2.2.2.1.1, hf, i_eq_t rfl]
  refine ⟨sT a (aT a ++ [(p, q, b)]), nI ((aT a).length + 1), 0, ?_, ?_, ?_⟩
  · obtain ⟨o1, o2, o3, o4, o5, o6, o7⟩ := ok
    refine ⟨o1, o2, o3, o4, o5, ⟨?_, fun x hx => ?_⟩, o7⟩
    · show (aT a ++ [(p, q, b)]).length ≤ 6
      rw [List.length_append]; simp; omega
    · rcases List.mem_append.mp hx with w | w
      · exact o6.2 x w
      · rw [List.mem_singleton.mp w]; exact ⟨hp, hq⟩
  · intro s hx
    obtain ⟨h1, h2, h3, h4, h5, h6⟩ := hx
    obtain ⟨s1, e1, e2, e3⟩ := learn13 (b := b) hp hq (kk := fun s9 => some (nI 0, s9)) 400 0 (up s 64 0 (nI ((aT a).length + 1))) (by omega) (by omega)
    have e9 : Ex (fun k => k = 64 ∨ k = 65) s s1 := (Ex.u2 (k := 64) (by omega)).tr1 (e2.mono (fun k hk => by omega))
    have f64 : s1.1 64 0 = nI ((aT a).length + 1) := by rw [e2.1 64 (by omega), up_s]
    refine ⟨s1, ?_, ⟨xN.ex (a := a) h1 e9 (fun k hk => by omega), h2.ex e9 (fun k hk => by omega), xH.ex (a := a) h3 e9 (fun k hk => by omega), xI.ex (a := a) h4 e9 (fun k hk => by omega), ⟨?_, fun x y hx hy => ?_⟩, xX.ex (a := a) h6 e9 (fun k hk => by omega)⟩, e9.frx (fun k hk => by omega), by rw [e9.2, Int64.add_zero]⟩
    · rw [preX, h5.1, i_lt_t (by omega) (by omega)]
      unfold M_X4_learn
      simp only [pu]
      rw [h5.1, nl_1, nP, show (0 : Int32) = nI 0 from rfl, e1, cl_some, f64]
    · rw [f64]
      show _ = nI (aT a ++ [(p, q, b)]).length
      rw [List.length_append]; rfl
    · rw [e3 x y hx hy, up_c (by decide), h5.2 x y hx hy]
      have : soT (aT (sT a (aT a ++ [(p, q, b)]))) x y = (soT (aT a) x y && okT p q b x y) := by
        show soT (aT a ++ [(p, q, b)]) x y = _
        unfold soT okT
        rw [List.all_append]; simp
      rw [this]
      cases h : okT p q b x y
      · simp; rfl
      · simp
  · intro s hx
    obtain ⟨h1, h2, h3, h4, h5, h6⟩ := hx
    refine ⟨up (up (up (up s 75 (3 * (aT a).length) (nI p)) 75 (3 * (aT a).length + 1) (nI q)) 75 (3 * (aT a).length + 2) (nI (if b then 1 else 0))) 67 9 (nI ((aT a).length + 1)), ?_, ⟨h1, h2, h3, h4, ⟨?_, fun i t hi => ?_⟩, h6⟩, ?_, by rw [Int64.add_zero]; rfl⟩
    · rw [preM, h5.1, i_eq_f (by omega) (by omega) (by decide), nM, wr_nI (by omega) (by decide), up_c (a := 67) (by decide), h5.1, nM, nP, wr_nI (by omega) (by decide), up_c (a := 67) (by decide), up_c (a := 67) (by decide), h5.1, nM, nP, wr_nI (by omega) (by decide)]
      simp only [pu]
      rw [up_s, up_c (k := 75) (a := 67) (by decide), up_c (k := 75) (a := 67) (by decide), up_c (k := 75) (a := 67) (by decide), h5.1, nP]
    · rw [up_s]
      show _ = nI (aT a ++ [(p, q, b)]).length
      rw [List.length_append]; rfl
    · have hi : (aT a ++ [(p, q, b)])[i]? = some t := hi
      rw [up_c (a := 75) (by decide)]
      by_cases hil : i < (aT a).length
      · rw [List.getElem?_append_left hil] at hi
        rw [up_i (by omega), up_i (by omega), up_i (by omega), up_i (by omega), up_i (by omega), up_i (by omega), up_i (by omega), up_i (by omega), up_i (by omega)]
        exact h5.2 i t hi
      · have hie : i = (aT a).length := by
          have := (List.getElem?_eq_some_iff.mp hi).1
          rw [List.length_append] at this
          simp at this
          omega
        subst hie
        simp at hi
        subst hi
        rw [up_i (k := 75) (b := 3 * (aT a).length) (by omega), up_i (k := 75) (b := 3 * (aT a).length) (by omega), up_s, up_i (k := 75) (b := 3 * (aT a).length + 1) (by omega), up_s, up_s]
        exact ⟨rfl, rfl, bI b⟩
    · exact (((Ex.u2 (P := fun k => k = 67 ∨ k = 75) (by omega)).tr1 (Ex.u2 (by omega))).tr1 ((Ex.u2 (by omega)).tr1 (Ex.u2 (by omega)))).frm (fun k hk => by omega)
