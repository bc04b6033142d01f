/-! ===== the words of a text ===== -/
def tg (T : List Nat) (i : Nat) : Nat := T.getD i 0
def isD (c : Nat) : Bool := decide (48 ≤ c ∧ c ≤ 57)
def sk (T : List Nat) : Nat → Nat → Nat
  | 0, p => p
  | c + 1, p => if tg T p = 32 then sk T c (p + 1) else p
def dg (T : List Nat) : Nat → Nat → Nat → Nat × Nat
  | 0, p, v => (p, v)
  | c + 1, p, v => if isD (tg T p) then dg T c (p + 1) (if v ≤ 99 then 10 * v + tg T p - 48 else v) else (p, v)
def okX (T : List Nat) : Prop := T.length ≤ 140 ∧ ∀ i, tg T i ≤ 255
theorem okX_of {T : List Nat} (h : T.length ≤ 140 ∧ ∀ x ∈ T, x ≤ 255) : okX T := by
  refine ⟨h.1, fun i => ?_⟩
  unfold tg
  by_cases hi : i < T.length
  · rw [List.getD_eq_getElem?_getD, List.getElem?_eq_getElem hi]
    exact h.2 _ (List.getElem_mem hi)
  · rw [List.getD_eq_getElem?_getD, List.getElem?_eq_none (by omega)]
    exact Nat.zero_le _
theorem sk_le {T : List Nat} : ∀ c p, p ≤ sk T c p ∧ sk T c p ≤ p + c
  | 0, p => ⟨Nat.le_refl _, Nat.le_refl _⟩
  | c + 1, p => by
    unfold sk
    split
    · have := sk_le (T := T) c (p + 1)
      omega
    · omega
theorem isD_t {c : Nat} (h : isD c = true) : 48 ≤ c ∧ c ≤ 57 := by simpa [isD] using h
theorem isD_f {c : Nat} (h : ¬ isD c = true) : c < 48 ∨ 57 < c := by
  have : ¬ (48 ≤ c ∧ c ≤ 57) := by simpa [isD] using h
  omega
theorem dg_s {T : List Nat} {c p v : Nat} : dg T (c + 1) p v = if isD (tg T p) then dg T c (p + 1) (if v ≤ 99 then 10 * v + tg T p - 48 else v) else (p, v) := rfl
theorem sk_s {T : List Nat} {c p : Nat} : sk T (c + 1) p = if tg T p = 32 then sk T c (p + 1) else p := rfl
theorem dg_le {T : List Nat} : ∀ c p v, v ≤ 999 → (p ≤ (dg T c p v).1 ∧ (dg T c p v).1 ≤ p + c) ∧ (dg T c p v).2 ≤ 999
  | 0, p, v, h => ⟨⟨Nat.le_refl _, Nat.le_refl _⟩, h⟩
  | c + 1, p, v, h => by
    rw [dg_s]
    by_cases hd : isD (tg T p) = true
    · rw [if_pos hd]
      have h1 := isD_t hd
      have := dg_le (T := T) c (p + 1) (if v ≤ 99 then 10 * v + tg T p - 48 else v) (by split <;> omega)
      omega
    · rw [if_neg hd]
      exact ⟨⟨Nat.le_refl _, by omega⟩, h⟩
def tok (T : List Nat) (p : Nat) : Nat × Nat × Nat × Nat :=
  if T.length ≤ sk T (T.length - p) p then (sk T (T.length - p) p, 0, sk T (T.length - p) p, 0)
  else if isD (tg T (sk T (T.length - p) p)) then (sk T (T.length - p) p, (if 99 < (dg T (T.length - sk T (T.length - p) p) (sk T (T.length - p) p) 0).2 ∨ (tg T (sk T (T.length - p) p) = 48 ∧ 1 < (dg T (T.length - sk T (T.length - p) p) (sk T (T.length - p) p) 0).1 - sk T (T.length - p) p) then 4 else 2), dg T (T.length - sk T (T.length - p) p) (sk T (T.length - p) p) 0)
  else (sk T (T.length - p) p, (if tg T (sk T (T.length - p) p) = 102 then 1 else if tg T (sk T (T.length - p) p) = 59 then 3 else 4), sk T (T.length - p) p + 1, tg T (sk T (T.length - p) p))
def kA (t : Nat × Nat × Nat × Nat) : Nat := t.1
def kK (t : Nat × Nat × Nat × Nat) : Nat := t.2.1
def kP (t : Nat × Nat × Nat × Nat) : Nat := t.2.2.1
def kV (t : Nat × Nat × Nat × Nat) : Nat := t.2.2.2
def okK (T : List Nat) (t : Nat × Nat × Nat × Nat) : Prop := kA t ≤ 140 ∧ kK t ≤ 4 ∧ kP t ≤ T.length ∧ kV t ≤ 999 ∧ (kK t = 2 → kV t ≤ 99)
theorem tok_ok {T : List Nat} (hT : okX T) {p : Nat} (hp : p ≤ T.length) : okK T (tok T p) := by
  have h1 := sk_le (T := T) (T.length - p) p
  have hL := hT.1
  unfold tok
  generalize sk T (T.length - p) p = q at h1 ⊢
  by_cases h2 : T.length ≤ q
  · rw [if_pos h2]
    exact ⟨show q ≤ 140 by omega, show 0 ≤ 4 by omega, show q ≤ T.length by omega, show 0 ≤ 999 by omega, fun _ => show 0 ≤ 99 by omega⟩
  · rw [if_neg h2]
    by_cases h3 : isD (tg T q) = true
    · rw [if_pos h3]
      have h4 := dg_le (T := T) (T.length - q) q 0 (by omega)
      generalize dg T (T.length - q) q 0 = e at h4 ⊢
      refine ⟨show q ≤ 140 by omega, ?_, show e.1 ≤ T.length by omega, h4.2, fun h => ?_⟩
      · show (if _ then 4 else 2) ≤ 4
        split <;> omega
      · show e.2 ≤ 99
        by_cases h5 : 99 < e.2
        · have h : (if 99 < e.2 ∨ (tg T q = 48 ∧ 1 < e.1 - q) then 4 else 2) = 2 := h
          rw [if_pos (Or.inl h5)] at h
          omega
        · omega
    · rw [if_neg h3]
      have hc := hT.2 q
      refine ⟨show q ≤ 140 by omega, ?_, show q + 1 ≤ T.length by omega, show tg T q ≤ 999 by omega, fun h => ?_⟩
      · show (if tg T q = 102 then 1 else if tg T q = 59 then 3 else 4) ≤ 4
        split
        · omega
        · split <;> omega
      · exfalso
        have h : (if tg T q = 102 then 1 else if tg T q = 59 then 3 else 4) = 2 := h
        split at h
        · omega
        · split at h <;> omega
/-! the class -/
def tX (T : List Nat) (s : St) : Prop := s.1 1 1 = nI T.length ∧ ∀ i, i < T.length → s.1 2 i = nI (tg T i)
theorem tX.up1 {T : List Nat} {s : St} (h : tX T s) {i : Nat} {v : Int32} (hi : i ≠ 1) : tX T (up s 1 i v) := ⟨by rw [up_i (Ne.symm hi)]; exact h.1, fun j hj => by rw [up_c (by decide)]; exact h.2 j hj⟩
theorem pu_b {α : Type} {s : St} {k i : Nat} {v : Int32} {c : St → Option α} : pu s k i v c = c (up s k i v) := rfl
theorem skx {T : List Nat} (hT : okX T) {kk : St → Option (Int32 × St)} : ∀ (fu p : Nat) (s : St), tX T s → s.1 1 2 = nI p → p ≤ T.length → T.length < fu + p → ∃ s', M_X5_step_L0 kk fu s = kk s' ∧ Ex (fun q => q = 1) s s' ∧ s'.1 1 2 = nI (sk T (T.length - p) p) ∧ ∀ i, i ≠ 2 → s'.1 1 i = s.1 1 i
  | 0, p, s, _, _, h1, h2 => absurd h2 (by omega)
  | fu + 1, p, s, hs, hp, h1, h2 => by
    have hL := hT.1
    rw [M_X5_step_L0, hs.1, hp, nl_32, nl_1]
    by_cases h : p = T.length
    · subst h
      rw [i_le_t (Nat.le_refl _) (by omega), Nat.sub_self]
      exact ⟨s, rfl, Ex.rf, hp, fun i _ => rfl⟩
    · have hc := hT.2 p
      rw [i_le_f (by omega) (by omega), rd_nI (by omega) (by decide), hs.2 p (by omega), show T.length - p = (T.length - (p + 1)) + 1 by omega, sk_s]
      by_cases h32 : tg T p = 32
      · rw [i_eq_t h32, if_pos h32, pu_b, nP]
        obtain ⟨s', e1, e2, e3, e4⟩ := skx hT (kk := kk) fu (p + 1) (up s 1 2 (nI (p + 1))) (hs.up1 (by decide)) up_s (by omega) (by omega)
        exact ⟨s', e1, Ex.u1.tr1 e2, e3, fun i hi => by rw [e4 i hi, up_i hi]⟩
      · rw [i_eq_f h32 (by omega) (by decide), if_neg h32]
        exact ⟨s, rfl, Ex.rf, hp, fun i _ => rfl⟩
theorem dig_x {c : Nat} (hc : c ≤ 255) {s : St} : M_X5_isDigit (nI c) s = some (nI (if isD c then 1 else 0), s) := by
  unfold M_X5_isDigit
  rw [nl_48, nl_57]
  by_cases h : isD c = true
  · have := isD_t h
    rw [i_lt_f (by omega) (by omega), i_lt_f (by omega) (by omega), if_pos h]; rfl
  · rw [if_neg h]
    rcases isD_f h with h2 | h2
    · rw [i_lt_t h2 (by omega)]; rfl
    · by_cases h3 : c < 48
      · rw [i_lt_t h3 (by omega)]; rfl
      · rw [i_lt_f (by omega) (by omega), i_lt_t h2 (by omega)]; rfl
theorem dgx {T : List Nat} (hT : okX T) {kk : St → Option (Int32 × St)} : ∀ (fu p v : Nat) (s : St), tX T s → s.1 1 2 = nI p → s.1 1 5 = nI (min 100 v) → v ≤ 999 → p ≤ T.length → T.length < fu + p → ∃ s', M_X5_stepOverNumber_L5 kk fu s = kk s' ∧ Ex (fun q => q = 1) s s' ∧ s'.1 1 2 = nI (dg T (T.length - p) p v).1 ∧ s'.1 1 5 = nI (min 100 (dg T (T.length - p) p v).2) ∧ ∀ i, i ≠ 2 → i ≠ 5 → s'.1 1 i = s.1 1 i
  | 0, p, v, s, _, _, _, _, h1, h2 => absurd h2 (by omega)
  | fu + 1, p, v, s, hs, hp, hv, hv9, h1, h2 => by
    have hL := hT.1
    rw [M_X5_stepOverNumber_L5, hs.1, hp]
    simp only [nl_0, nl_1, nl_2, nl_3, nl_4, nl_5, nl_6, nl_7, nl_8, nl_9, nl_10, nl_14, nl_20, nl_30, nl_32, nl_48, nl_57, nl_59, nl_60, nl_64, nl_99, nl_100, nl_102, nl_126, nl_140, nl_147, nl_181, nl_255, nl_999]
    by_cases h : p = T.length
    · subst h
      rw [i_le_t (Nat.le_refl _) (by omega), Nat.sub_self]
      exact ⟨s, rfl, Ex.rf, hp, hv, fun i _ _ => rfl⟩
    · have hc := hT.2 p
      rw [i_le_f (by omega) (by omega), rd_nI (by omega) (by decide), hs.2 p (by omega), dig_x hc, cl_some, show T.length - p = (T.length - (p + 1)) + 1 by omega, dg_s]
      by_cases hd : isD (tg T p) = true
      · have hd2 := isD_t hd
        rw [if_pos hd, if_pos hd, i_eq_f (by decide) (by decide) (by decide), hp, rd_nI (by omega) (by decide), hs.2 p (by omega), hv, nM, nS hd2.1, nP]
        have e : (if nI 100 < nI (min 100 v * 10 + (tg T p - 48)) then nI 100 else nI (min 100 v * 10 + (tg T p - 48))) = nI (min 100 (if v ≤ 99 then 10 * v + tg T p - 48 else v)) := by
          by_cases hb : 100 < min 100 v * 10 + (tg T p - 48)
          · rw [i_lt_t hb (by omega)]
            congr 1
            split <;> omega
          · rw [i_lt_f (by omega) (by omega)]
            congr 1
            split <;> omega
        rw [e, pu_b, pu_b, up_i (by decide), hp, nP]
        obtain ⟨s', e1, e2, e3, e4, e5⟩ := dgx hT (kk := kk) fu (p + 1) (if v ≤ 99 then 10 * v + tg T p - 48 else v) (up (up s 1 5 (nI (min 100 (if v ≤ 99 then 10 * v + tg T p - 48 else v)))) 1 2 (nI (p + 1))) ((hs.up1 (by decide)).up1 (by decide)) up_s (by rw [up_i (by decide), up_s]) (by split <;> omega) (by omega) (by omega)
        exact ⟨s', e1, (Ex.u1.tr1 Ex.u1).tr1 e2, e3, e4, fun i hi hj => by rw [e5 i hi hj, up_i hi, up_i hj]⟩
      · rw [if_neg hd, if_neg hd, i_eq_t rfl]
        exact ⟨s, rfl, Ex.rf, hp, hv, fun i _ _ => rfl⟩
def kX (t : Nat × Nat × Nat × Nat) (s : St) : Prop := s.1 1 2 = nI (kP t) ∧ s.1 1 3 = nI (kA t) ∧ s.1 1 4 = nI (kK t) ∧ (kK t = 2 → s.1 1 5 = nI (kV t))
theorem num_x {T : List Nat} (hT : okX T) {q : Nat} (hq : q < T.length) {s : St} (hs : tX T s) (h2 : s.1 1 2 = nI q) (h3 : s.1 1 3 = nI q) : ∃ s', M_X5_stepOverNumber s = some (0, s') ∧ Ex (fun q => q = 1) s s' ∧ s'.1 1 1 = s.1 1 1 ∧ s'.1 1 2 = nI (dg T (T.length - q) q 0).1 ∧ s'.1 1 3 = nI q ∧ s'.1 1 4 = nI (if 99 < (dg T (T.length - q) q 0).2 ∨ (tg T q = 48 ∧ 1 < (dg T (T.length - q) q 0).1 - q) then 4 else 2) ∧ s'.1 1 5 = nI (min 100 (dg T (T.length - q) q 0).2) := by
  have hL := hT.1
  have hc := hT.2 q
  have hb := dg_le (T := T) (T.length - q) q 0 (by omega)
  obtain ⟨s2, g1, g2, g3, g4, g5⟩ := dgx hT (kk := fun s8 => rd s8 2 140 (s8.1 1 3) fun v9 => jn (κ := Int32 → St → Option (Int32 × St)) (fun v11 s12 => jn (κ := Int32 → St → Option (Int32 × St)) (fun v14 s15 => pu s15 1 4 v14 fun s16 => some (0, s16)) fun kj13 => if v11 = 0 then (if (s12.1 1 5) ≤ (99) then (kj13 (2) s12) else (kj13 (4) s12)) else (kj13 (4) s12)) fun kj10 => if v9 = (48) then (if ((s8.1 1 2) - (s8.1 1 3)) ≤ (1) then (kj10 (0) s8) else (kj10 (1) s8)) else (kj10 (0) s8)) 400 q 0 (up s 1 5 (nI 0)) (hs.up1 (by decide)) (by rw [up_i (by decide)]; exact h2) (by rw [up_s]; rfl) (by omega) (by omega) (by omega)
  generalize dg T (T.length - q) q 0 = e at g3 g4 hb ⊢
  have k3 : s2.1 1 3 = nI q := by rw [g5 3 (by decide) (by decide), up_i (by decide), h3]
  have k11 : s2.1 1 1 = s.1 1 1 := by rw [g5 1 (by decide) (by decide), up_i (by decide)]
  have hch : s2.1 2 q = nI (tg T q) := by rw [g2.1 2 (by decide), up_c (by decide)]; exact hs.2 q hq
  refine ⟨up s2 1 4 (nI (if 99 < e.2 ∨ (tg T q = 48 ∧ 1 < e.1 - q) then 4 else 2)), ?_, (Ex.u1.tr1 g2).tr1 Ex.u1, by rw [up_i (by decide)]; exact k11, by rw [up_i (by decide)]; exact g3, by rw [up_i (by decide)]; exact k3, up_s, by rw [up_i (by decide)]; exact g4⟩
  unfold M_X5_stepOverNumber
  rw [pu_b]
  refine Eq.trans g1 ?_
  simp only [nl_0, nl_1, nl_2, nl_3, nl_4, nl_5, nl_6, nl_7, nl_8, nl_9, nl_10, nl_14, nl_20, nl_30, nl_32, nl_48, nl_57, nl_59, nl_60, nl_64, nl_99, nl_100, nl_102, nl_126, nl_140, nl_147, nl_181, nl_255, nl_999, jn, if_true]
  rw [k3, rd_nI (by omega) (by decide), hch, g3, g4, nS hb.1.1]
  have two : (if nI (min 100 e.2) ≤ nI 99 then pu s2 1 4 (nI 2) fun s16 => some (nI 0, s16) else pu s2 1 4 (nI 4) fun s16 => some (nI 0, s16)) = some (nI 0, up s2 1 4 (nI (if 99 < e.2 then 4 else 2))) := by
    by_cases h : 99 < e.2
    · rw [i_le_f (by omega) (by omega), if_pos h]; rfl
    · rw [i_le_t (by omega) (by omega), if_neg h]; rfl
  by_cases h48 : tg T q = 48
  · rw [i_eq_t h48]
    by_cases h1 : e.1 - q ≤ 1
    · rw [i_le_t h1 (by omega), two]
      by_cases h : 99 < e.2
      · rw [if_pos h, if_pos (Or.inl h)]
      · rw [if_neg h, if_neg (by omega)]
    · rw [i_le_f (by omega) (by omega), i_eq_f (by decide) (by decide) (by decide), if_pos (Or.inr ⟨h48, by omega⟩)]; rfl
  · rw [i_eq_f h48 (by omega) (by decide), two]
    by_cases h : 99 < e.2
    · rw [if_pos h, if_pos (Or.inl h)]
    · rw [if_neg h, if_neg (by omega)]
theorem step_x {T : List Nat} (hT : okX T) {p : Nat} (hp : p ≤ T.length) {s : St} (hs : tX T s) (h12 : s.1 1 2 = nI p) : ∃ s', M_X5_step s = some (0, s') ∧ Ex (fun q => q = 1) s s' ∧ s'.1 1 1 = s.1 1 1 ∧ kX (tok T p) s' := by
  have hL := hT.1
  have h1 := sk_le (T := T) (T.length - p) p
  unfold M_X5_step
  obtain ⟨s1, e1, e2, e3, e4⟩ := skx hT (kk := fun s3 => pu s3 1 3 (s3.1 1 2) fun s4 => if (s4.1 1 2) < (s4.1 1 1) then (rd s4 2 140 (s4.1 1 2) fun v5 => cl (M_X5_isDigit v5 s4) fun r6 s7 => if r6 = 0 then (rd s7 2 140 (s7.1 1 2) fun v8 => jn (κ := Int32 → St → Option (Int32 × St)) (fun v10 s11 => pu s11 1 4 v10 fun s12 => pu s12 1 2 ((s12.1 1 2) + (1)) fun s13 => some (0, s13)) fun kj9 => if v8 = (102) then (kj9 (1) s7) else (rd s7 2 140 (s7.1 1 2) fun v14 => if v14 = (59) then (kj9 (3) s7) else (kj9 (4) s7))) else (cl (M_X5_stepOverNumber s7) fun r15 s16 => some (0, s16))) else (pu s4 1 4 (0) fun s17 => some (0, s17))) 400 p s hs h12 hp (by omega)
  unfold tok
  generalize sk T (T.length - p) p = q at h1 e3 ⊢
  have hs1 : tX T (up s1 1 3 (nI q)) := ⟨by rw [up_i (by decide), e4 1 (by decide)]; exact hs.1, fun j hj => by rw [up_c (by decide), e2.1 2 (by decide)]; exact hs.2 j hj⟩
  have hq2 : (up s1 1 3 (nI q)).1 1 2 = nI q := by rw [up_i (by decide)]; exact e3
  have hq3 : (up s1 1 3 (nI q)).1 1 3 = nI q := up_s
  have E1 : Ex (fun k => k = 1) s (up s1 1 3 (nI q)) := e2.tr1 Ex.u1
  have f1 : (up s1 1 3 (nI q)).1 1 1 = s.1 1 1 := by rw [up_i (by decide), e4 1 (by decide)]
  generalize hS : up s1 1 3 (nI q) = S at hs1 hq2 hq3 E1 f1
  rw [e1, pu_b, e3, hS, hq2, hs1.1]
  by_cases h2 : T.length ≤ q
  · rw [i_lt_f h2 (by omega), pu_b, if_pos h2]
    exact ⟨_, rfl, E1.tr1 Ex.u1, by rw [up_i (by decide)]; exact f1, by rw [up_i (by decide)]; exact hq2, by rw [up_i (by decide)]; exact hq3, by rw [up_s]; rfl, fun h => absurd (show (0 : Nat) = 2 from h) (by decide)⟩
  · have hc := hT.2 q
    rw [i_lt_t (by omega) (by omega), rd_nI (by omega) (by decide), hs1.2 q (by omega), dig_x hc, cl_some, if_neg h2]
    by_cases hd : isD (tg T q) = true
    · rw [if_pos hd, if_pos hd, if_neg (by decide)]
      obtain ⟨s2, g1, g2, g3, g4, g5, g6, g7⟩ := num_x hT (by omega) hs1 hq2 hq3
      rw [g1, cl_some]
      refine ⟨s2, rfl, E1.tr1 g2, by rw [g3]; exact f1, g4, g5, g6, fun h => ?_⟩
      have hb := dg_le (T := T) (T.length - q) q 0 (by omega)
      generalize dg T (T.length - q) q 0 = e at h hb g7 ⊢
      have h : (if 99 < e.2 ∨ (tg T q = 48 ∧ 1 < e.1 - q) then 4 else 2) = 2 := h
      rw [g7]
      show nI (min 100 e.2) = nI e.2
      by_cases h9 : 99 < e.2
      · rw [if_pos (Or.inl h9)] at h; omega
      · congr 1; omega
    · rw [if_neg hd, if_neg hd, if_pos (by rfl), hq2, rd_nI (by omega) (by decide), hs1.2 q (by omega)]
      have fin : ∀ k : Nat, k ≠ 2 → ∃ s', (some ((0 : Int32), up (up S 1 4 (nI k)) 1 2 (nI (q + 1)))) = some (0, s') ∧ Ex (fun k => k = 1) s s' ∧ s'.1 1 1 = s.1 1 1 ∧ kX (q, k, q + 1, tg T q) s' := fun k hk => ⟨_, rfl, (E1.tr1 Ex.u1).tr1 Ex.u1, by rw [up_i (by decide), up_i (by decide)]; exact f1, by rw [up_s]; rfl, by rw [up_i (by decide), up_i (by decide)]; exact hq3, by rw [up_i (by decide), up_s]; rfl, fun h => absurd h hk⟩
      simp only [jn]
      have up1 : ∀ k : Nat, (pu S 1 4 (nI k) fun s12 => pu s12 1 2 (s12.1 1 2 + 1) fun s13 => some ((0 : Int32), s13)) = some (0, up (up S 1 4 (nI k)) 1 2 (nI (q + 1))) := fun k => by
        rw [pu_b, pu_b, up_i (by decide), hq2]
        exact congrArg (fun v => some ((0 : Int32), up (up S 1 4 (nI k)) 1 2 v)) nP
      by_cases h102 : tg T q = 102
      · rw [if_pos (show nI (tg T q) = 102 by rw [h102]; rfl), if_pos h102]
        exact Eq.mpr (by rw [← up1 1]; rfl) (fin 1 (by decide))
      · rw [if_neg (show ¬ nI (tg T q) = 102 by rw [nl_102, eEQ (by omega) (by decide)]; exact h102), if_neg h102, rd_nI (by omega) (by decide), hs1.2 q (by omega)]
        by_cases h59 : tg T q = 59
        · rw [if_pos (show nI (tg T q) = 59 by rw [h59]; rfl), if_pos h59]
          exact Eq.mpr (by rw [← up1 3]; rfl) (fin 3 (by decide))
        · rw [if_neg (show ¬ nI (tg T q) = 59 by rw [nl_59, eEQ (by omega) (by decide)]; exact h59), if_neg h59]
          exact Eq.mpr (by rw [← up1 4]; rfl) (fin 4 (by decide))
