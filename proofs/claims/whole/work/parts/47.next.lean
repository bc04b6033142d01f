/-! the reference -/
def tM (T : List Nat) (s : St) : Prop := s.1 67 13 = nI T.length ∧ ∀ i, i < T.length → s.1 76 i = nI (tg T i)
theorem tM.up1 {T : List Nat} {s : St} (h : tM T s) {i : Nat} {v : Int32} (hi : i ≠ 13) : tM T (up s 67 i v) := ⟨by rw [up_i (Ne.symm hi)]; exact h.1, fun j hj => by rw [up_c (by decide)]; exact h.2 j hj⟩
theorem let_m {T : List Nat} (hT : okX T) {p : Nat} (hp : p < T.length) {s : St} (hs : tM T s) : M_X7_letterAt (nI p) s = some (nI (tg T p), s) := by
  have hL := hT.1
  unfold M_X7_letterAt
  rw [hs.1, i_le_f hp (by omega), rd_nI (by omega) (by decide), hs.2 p hp]
theorem let_e {T : List Nat} (hT : okX T) {s : St} (hs : tM T s) : M_X7_letterAt (nI T.length) s = some (-1, s) := by
  have hL := hT.1
  unfold M_X7_letterAt
  rw [hs.1, i_le_t (Nat.le_refl _) (by omega)]
theorem fig_m {c : Nat} (hc : c ≤ 255) {s : St} : M_X7_isFigure (nI c) s = some (nI (if isD c then 1 else 0), s) := by
  unfold M_X7_isFigure M_X7_in
  rw [nl_48, nl_57]
  by_cases h : isD c = true
  · have := isD_t h
    rw [i_lt_f (by omega) (by omega), i_lt_f (by omega) (by omega), if_pos h]; rfl
  · rw [if_neg h]
    rcases isD_f h with h2 | h2
    · rw [i_lt_t h2 (by omega)]; rfl
    · by_cases h3 : c < 48
      · rw [i_lt_t h3 (by omega)]; rfl
      · rw [i_lt_f (by omega) (by omega), i_lt_t h2 (by omega)]; rfl
theorem fig_e {s : St} : M_X7_isFigure (-1) s = some (0, s) := by
  unfold M_X7_isFigure M_X7_in
  rw [if_pos (by decide)]; rfl
theorem skm {T : List Nat} (hT : okX T) {kk : St → Option (Int32 × St)} : ∀ (fu p : Nat) (s : St), tM T s → s.1 67 14 = nI p → p ≤ T.length → T.length < fu + p → ∃ s', M_X7_next_L0 kk fu s = kk s' ∧ Ex (fun q => q = 67) s s' ∧ s'.1 67 14 = nI (sk T (T.length - p) p) ∧ ∀ i, i ≠ 14 → s'.1 67 i = s.1 67 i
  | 0, p, s, _, _, h1, h2 => absurd h2 (by omega)
  | fu + 1, p, s, hs, hp, h1, h2 => by
    have hL := hT.1
    rw [M_X7_next_L0, hp]
    by_cases h : p = T.length
    · subst h
      rw [let_e hT hs, cl_some, if_neg (by decide), Nat.sub_self]
      exact ⟨s, rfl, Ex.rf, hp, fun i _ => rfl⟩
    · have hc := hT.2 p
      rw [let_m hT (by omega) hs, cl_some, show T.length - p = (T.length - (p + 1)) + 1 by omega, sk_s, nl_32]
      by_cases h32 : tg T p = 32
      · rw [i_eq_t h32, if_pos h32, pu_b, hp, show nI p + 1 = nI (p + 1) from nP]
        obtain ⟨s', e1, e2, e3, e4⟩ := skm hT (kk := kk) fu (p + 1) (up s 67 14 (nI (p + 1))) (hs.up1 (by decide)) up_s (by omega) (by omega)
        exact ⟨s', e1, Ex.u1.tr1 e2, e3, fun i hi => by rw [e4 i hi, up_i hi]⟩
      · rw [i_eq_f h32 (by omega) (by decide), if_neg h32]
        exact ⟨s, rfl, Ex.rf, hp, fun i _ => rfl⟩
theorem dgm {T : List Nat} (hT : okX T) {x1 : Int32} {kk : St → Option (Int32 × St)} : ∀ (fu p v : Nat) (s : St), tM T s → s.1 67 14 = nI p → s.1 67 17 = nI v → v ≤ 999 → p ≤ T.length → T.length < fu + p → ∃ s', M_X7_next_L67 x1 kk fu s = kk s' ∧ Ex (fun q => q = 67) s s' ∧ s'.1 67 14 = nI (dg T (T.length - p) p v).1 ∧ s'.1 67 17 = nI (dg T (T.length - p) p v).2 ∧ ∀ i, i ≠ 14 → i ≠ 17 → s'.1 67 i = s.1 67 i
  | 0, p, v, s, _, _, _, _, h1, h2 => absurd h2 (by omega)
  | fu + 1, p, v, s, hs, hp, hv, hv9, h1, h2 => by
    have hL := hT.1
    rw [M_X7_next_L67, hp]
    by_cases h : p = T.length
    · subst h
      rw [let_e hT hs, cl_some, fig_e, cl_some, if_pos rfl, Nat.sub_self]
      exact ⟨s, rfl, Ex.rf, hp, hv, fun i _ _ => rfl⟩
    · have hc := hT.2 p
      rw [let_m hT (by omega) hs, cl_some, fig_m hc, cl_some, show T.length - p = (T.length - (p + 1)) + 1 by omega, dg_s]
      by_cases hd : isD (tg T p) = true
      · have hd2 := isD_t hd
        rw [if_pos hd, if_pos hd, if_neg (by decide)]
        simp only [jn]
        have go : ∀ w : Nat, w ≤ 999 → ∃ s', (pu s 67 17 (nI w) fun s24 => pu s24 67 14 (s24.1 67 14 + 1) fun s25 => M_X7_next_L67 x1 kk fu s25) = kk s' ∧ Ex (fun q => q = 67) s s' ∧ s'.1 67 14 = nI (dg T (T.length - (p + 1)) (p + 1) w).1 ∧ s'.1 67 17 = nI (dg T (T.length - (p + 1)) (p + 1) w).2 ∧ ∀ i, i ≠ 14 → i ≠ 17 → s'.1 67 i = s.1 67 i := by
          intro w hw
          rw [pu_b, pu_b, up_i (by decide), hp, show nI p + 1 = nI (p + 1) from nP]
          obtain ⟨s', e1, e2, e3, e4, e5⟩ := dgm hT (x1 := x1) (kk := kk) fu (p + 1) w (up (up s 67 17 (nI w)) 67 14 (nI (p + 1))) ((hs.up1 (by decide)).up1 (by decide)) up_s (by rw [up_i (by decide), up_s]) hw (by omega) (by omega)
          exact ⟨s', e1, (Ex.u1.tr1 Ex.u1).tr1 e2, e3, e4, fun i hi hj => by rw [e5 i hi hj, up_i hi, up_i hj]⟩
        rw [hv, nl_99]
        by_cases h9 : v ≤ 99
        · rw [i_le_t h9 (by omega), hp, let_m hT (by omega) hs, cl_some, nl_10, nl_48, nM, nP, nS (by omega), if_pos h9]
          exact go _ (by omega)
        · rw [i_le_f (by omega) (by omega), if_neg h9]
          exact go _ hv9
      · rw [if_neg hd, if_neg hd, if_pos (by rfl)]
        exact ⟨s, rfl, Ex.rf, hp, hv, fun i _ _ => rfl⟩
def kM (t : Nat × Nat × Nat × Nat) (s : St) : Prop := s.1 67 14 = nI (kP t) ∧ s.1 67 15 = nI (kA t) ∧ s.1 67 16 = nI (kK t) ∧ s.1 67 17 = nI (kV t)
theorem next_m {T : List Nat} (hT : okX T) {p : Nat} (hp : p ≤ T.length) {s : St} (hs : tM T s) (h12 : s.1 67 14 = nI p) : ∃ s', M_X7_next s = some (0, s') ∧ Ex (fun q => q = 67) s s' ∧ (∀ i, i < 14 ∨ 17 < i → s'.1 67 i = s.1 67 i) ∧ kM (tok T p) s' := by
  have hL := hT.1
  have h1 := sk_le (T := T) (T.length - p) p
  unfold M_X7_next
  simp only [jn]
  generalize hK : (fun s4 : St => (_ : Option (Int32 × St))) = K
  obtain ⟨s1, e1, e2, e3, e4⟩ := skm hT (kk := K) 400 p s hs h12 hp (by omega)
  rw [e1, ← hK]
  clear hK e1
  dsimp only
  unfold tok
  generalize sk T (T.length - p) p = q at h1 e3 ⊢
  have hs1 : tM T (up s1 67 15 (nI q)) := ⟨by rw [up_i (by decide), e4 13 (by decide)]; exact hs.1, fun j hj => by rw [up_c (by decide), e2.1 76 (by decide)]; exact hs.2 j hj⟩
  have hq2 : (up s1 67 15 (nI q)).1 67 14 = nI q := by rw [up_i (by decide)]; exact e3
  have hq3 : (up s1 67 15 (nI q)).1 67 15 = nI q := up_s
  have E1 : Ex (fun k => k = 67) s (up s1 67 15 (nI q)) := e2.tr1 Ex.u1
  have f1 : ∀ i, i < 14 ∨ 17 < i → (up s1 67 15 (nI q)).1 67 i = s.1 67 i := fun i hi => by rw [up_i (by omega), e4 i (by omega)]
  generalize hS : up s1 67 15 (nI q) = S at hs1 hq2 hq3 E1 f1
  rw [pu_b, e3, hS, hq2]
  by_cases h2 : T.length ≤ q
  · have hqe : q = T.length := by omega
    rw [if_pos h2, hqe, let_e hT hs1, cl_some, pu_b, if_neg (by decide), pu_b]
    rw [hqe] at hq2 hq3
    refine ⟨_, rfl, (E1.tr1 Ex.u1).tr1 Ex.u1, fun i hi => by rw [up_i (by omega), up_i (by omega)]; exact f1 i hi, ?_, ?_, ?_, ?_⟩
    · rw [up_i (by decide), up_i (by decide)]; exact hq2
    · rw [up_i (by decide), up_i (by decide)]; exact hq3
    · rw [up_s]; rfl
    · rw [up_i (by decide), up_s]; rfl
  · have hc := hT.2 q
    rw [if_neg h2, let_m hT (by omega) hs1, cl_some, pu_b, show (0 : Int32) = nI 0 from rfl, i_le_t (by omega) (by omega), fig_m hc, cl_some]
    by_cases hd : isD (tg T q) = true
    · rw [if_pos hd, if_pos hd, i_eq_f (by decide) (by decide) (by decide)]
      have hb := dg_le (T := T) (T.length - q) q 0 (by omega)
      generalize hK : (fun s28 : St => (_ : Option (Int32 × St))) = K
      obtain ⟨s2, g1, g2, g3, g4, g5⟩ := dgm hT (x1 := nI (tg T q)) (kk := K) 400 q 0 (up S 67 17 (nI 0)) (hs1.up1 (by decide)) (by rw [up_i (by decide)]; exact hq2) up_s (by omega) (by omega) (by omega)
      rw [g1, ← hK]
      clear hK g1
      dsimp only
      generalize dg T (T.length - q) q 0 = e at g3 g4 hb ⊢
      have k15 : s2.1 67 15 = nI q := by rw [g5 15 (by decide) (by decide), up_i (by decide), hq3]
      have fin : ∀ k : Nat, k = (if 99 < e.2 ∨ (tg T q = 48 ∧ 1 < e.1 - q) then 4 else 2) → ∃ s', (pu s2 67 16 (nI k) fun s32 => some (nI 0, s32)) = some (nI 0, s') ∧ Ex (fun k => k = 67) s s' ∧ (∀ i, i < 14 ∨ 17 < i → s'.1 67 i = s.1 67 i) ∧ kM (q, (if 99 < e.2 ∨ (tg T q = 48 ∧ 1 < e.1 - q) then 4 else 2), e) s' := by
        intro k hk
        refine ⟨_, rfl, ((E1.tr1 Ex.u1).tr1 g2).tr1 Ex.u1, fun i hi => by rw [up_i (by omega), g5 i (by omega) (by omega), up_i (by omega)]; exact f1 i hi, ?_, ?_, ?_, ?_⟩
        · rw [up_i (by decide)]; exact g3
        · rw [up_i (by decide)]; exact k15
        · rw [up_s, hk]; rfl
        · rw [up_i (by decide)]; exact g4
      rw [g4, g3, k15, nl_99, nl_48, nl_1, nS hb.1.1]
      by_cases h9 : 99 < e.2
      · rw [i_lt_t h9 (by omega)]
        exact fin 4 (by rw [if_pos (Or.inl h9)])
      · rw [i_lt_f (by omega) (by omega)]
        by_cases h48 : tg T q = 48
        · rw [i_eq_t h48]
          by_cases h1 : e.1 - q ≤ 1
          · rw [i_le_t h1 (by omega)]
            exact fin 2 (by rw [if_neg (by omega)])
          · rw [i_le_f (by omega) (by omega)]
            exact fin 4 (by rw [if_pos (Or.inr ⟨h48, by omega⟩)])
        · rw [i_eq_f h48 (by omega) (by decide)]
          exact fin 2 (by rw [if_neg (by omega)])
    · rw [if_neg hd, if_neg hd, i_eq_t rfl]
      have fin : ∀ k : Nat, ∃ s', (pu (up S 67 17 (nI 0)) 67 16 (nI k) fun s14 => pu s14 67 17 (nI (tg T q)) fun s15 => pu s15 67 14 (s15.1 67 14 + 1) fun s16 => some (nI 0, s16)) = some (nI 0, s') ∧ Ex (fun k => k = 67) s s' ∧ (∀ i, i < 14 ∨ 17 < i → s'.1 67 i = s.1 67 i) ∧ kM (q, k, q + 1, tg T q) s' := by
        intro k
        rw [pu_b, pu_b, pu_b, up_i (by decide), up_i (by decide), up_i (by decide), hq2, show nI q + 1 = nI (q + 1) from nP]
        refine ⟨_, rfl, (((E1.tr1 Ex.u1).tr1 Ex.u1).tr1 Ex.u1).tr1 Ex.u1, fun i hi => by rw [up_i (by omega), up_i (by omega), up_i (by omega), up_i (by omega)]; exact f1 i hi, ?_, ?_, ?_, ?_⟩
        · rw [up_s]; rfl
        · rw [up_i (by decide), up_i (by decide), up_i (by decide), up_i (by decide)]; exact hq3
        · rw [up_i (by decide), up_i (by decide), up_s]; rfl
        · rw [up_i (by decide), up_s]; rfl
      rw [nl_102, nl_59]
      by_cases h102 : tg T q = 102
      · rw [i_eq_t h102, if_pos h102]
        exact fin 1
      · rw [i_eq_f h102 (by omega) (by decide), if_neg h102]
        by_cases h59 : tg T q = 59
        · rw [i_eq_t h59, if_pos h59]
          exact fin 3
        · rw [i_eq_f h59 (by omega) (by decide), if_neg h59]
          exact fin 4
