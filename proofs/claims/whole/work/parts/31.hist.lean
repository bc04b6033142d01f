section
variable {P : Nat → Prop} {a : Ab} {s s' : St}
theorem stAt.ex {k o n : Nat} {c : Sc} (h : stAt s k o n c) (e : Ex P s s') (p : ¬ P k) : stAt s' k o n c := h.same (e.1 k p)
theorem mN.ex (h : mN a s) (e0 : s'.1 67 0 = s.1 67 0) (e : Ex P s s') (p : ∀ k, P k → k ≠ 68 ∧ k ≠ 69 ∧ k ≠ 70) : mN a s' := by
  unfold mN at *
  rw [e0, e.1 68 (fun q => (p _ q).1 rfl), e.1 69 (fun q => (p _ q).2.1 rfl), e.1 70 (fun q => (p _ q).2.2 rfl)]; exact h
theorem mH.ex (h : mH a s) (e0 : s'.1 67 6 = s.1 67 6) (e : Ex P s s') (p : ∀ k, P k → k ≠ 72) : mH a s' := ⟨by rw [e0]; exact h.1, fun i c hi => (h.2 i c hi).ex e (fun q => p _ q rfl)⟩
theorem mI.ex (h : mI a s) (e : Ex P s s') (p : ∀ k, P k → k ≠ 73 ∧ k ≠ 74) : mI a s' := fun i hi => ⟨by rw [e.1 74 (fun q => (p _ q).2 rfl)]; exact (h i hi).1, fun c hc => ((h i hi).2 c hc).ex e (fun q => (p _ q).1 rfl)⟩
theorem mT.ex (h : mT a s) (e0 : s'.1 67 9 = s.1 67 9) (e : Ex P s s') (p : ∀ k, P k → k ≠ 75) : mT a s' := by
  unfold mT at *
  rw [e0, e.1 75 (fun q => p _ q rfl)]; exact h
theorem mX.ex (h : mX a s) (e0 : s'.1 67 13 = s.1 67 13) (e : Ex P s s') (p : ∀ k, P k → k ≠ 76) : mX a s' := by
  unfold mX at *
  rw [e0, e.1 76 (fun q => p _ q rfl)]; exact h
end
/-! ===== a scene is copied ===== -/
theorem cp3_loop {k k1 : Nat} (hd : k1 + 2 < k ∨ k + 2 < k1) {kk : St → Option (Int32 × St)} : ∀ (fu j : Nat) (s : St), j ≤ 6 → 6 < fu + j → ∃ s', M_X3_copyFrom_L18 k k1 kk fu (nI j) s = kk s' ∧ Ex (fun q => q = k + 1 ∨ q = k + 2) s s' ∧ (∀ i, j ≤ i → i < 6 → s'.1 (k + 1) i = s.1 (k1 + 1) i ∧ s'.1 (k + 2) i = s.1 (k1 + 2) i) ∧ ∀ i, i < j → s'.1 (k + 1) i = s.1 (k + 1) i ∧ s'.1 (k + 2) i = s.1 (k + 2) i
  | 0, j, s, h1, h2 => absurd h2 (by omega)
  | fu + 1, j, s, h1, h2 => by
    rw [M_X3_copyFrom_L18, nl_6]
    by_cases hj : j = 6
    · subst hj
      rw [i_le_t (Nat.le_refl 6) (by decide)]
      exact ⟨s, rfl, Ex.rf, fun i h3 h4 => by omega, fun i _ => ⟨rfl, rfl⟩⟩
    · rw [i_le_f (by omega) (by decide), rd_nI (by omega) (by decide), wr_nI (by omega) (by decide), rd_nI (by omega) (by decide), wr_nI (by omega) (by decide), up_c (a := k1 + 2) (k := k + 1) (by omega), show nI j + 1 = nI (j + 1) from nP]
      obtain ⟨s', e1, e2, e3, e4⟩ := cp3_loop hd fu (j + 1) (up (up s (k + 1) j (s.1 (k1 + 1) j)) (k + 2) j (s.1 (k1 + 2) j)) (by omega) (by omega)
      refine ⟨s', e1, ?_, fun i h3 h4 => ?_, fun i h3 => ?_⟩
      · exact ((Ex.u2 (by omega)).tr1 (Ex.u2 (by omega))).tr1 e2
      · by_cases hi : i = j
        · subst hi
          obtain ⟨q1, q2⟩ := e4 i (by omega)
          rw [q1, q2, up_s, up_c (a := k + 1) (k := k + 2) (by omega), up_s]
          exact ⟨rfl, rfl⟩
        · obtain ⟨q1, q2⟩ := e3 i (by omega) h4
          rw [q1, q2, up_c (a := k1 + 1) (k := k + 2) (by omega), up_c (a := k1 + 1) (k := k + 1) (by omega), up_c (a := k1 + 2) (k := k + 2) (by omega), up_c (a := k1 + 2) (k := k + 1) (by omega)]
          exact ⟨rfl, rfl⟩
      · obtain ⟨q1, q2⟩ := e4 i (by omega)
        rw [q1, q2, up_i (k := k + 2) (b := i) (by omega), up_c (a := k + 1) (k := k + 2) (by omega), up_i (k := k + 1) (b := i) (by omega), up_c (a := k + 2) (k := k + 1) (by omega)]
        exact ⟨rfl, rfl⟩
theorem cp3 {k k1 : Nat} (hd : k1 + 2 < k ∨ k + 2 < k1) (s : St) : ∃ s', M_X3_copyFrom k k1 s = some (0, s') ∧ Ex (fun q => q = k ∨ q = k + 1 ∨ q = k + 2) s s' ∧ ∀ n c, n ≤ 6 → scAt s k1 n c → scAt s' k n c := by
  unfold M_X3_copyFrom
  simp only [pu]
  obtain ⟨s', e1, e2, e3, -⟩ := cp3_loop hd (kk := fun s7 => some (0, s7)) 400 0 (up (up s k 1 (s.1 k1 1)) k 2 ((up s k 1 (s.1 k1 1)).1 k1 2)) (by omega) (by omega)
  refine ⟨s', e1, ?_, fun n c hn hc => ?_⟩
  · exact ((Ex.u2 (by omega)).tr1 (Ex.u2 (by omega))).tr1 (e2.mono (fun q hq => by omega))
  · obtain ⟨c1, c2, c3⟩ := hc
    have f0 := e2.1 k (by omega)
    refine ⟨?_, ?_, fun f hf => ?_⟩
    · rw [f0, up_i (by decide), up_s]; exact c1
    · rw [f0, up_s, up_c (by omega)]; exact c2
    · obtain ⟨q1, q2⟩ := e3 f (by omega) (by omega)
      rw [q1, q2, up_c (by omega), up_c (by omega), up_c (by omega), up_c (by omega)]
      exact c3 f hf
theorem cp7_loop {k0 k2 o1 o3 : Nat} (hk : k0 ≠ k2) (h0 : o1 + 14 ≤ ln k0) (h2 : o3 + 14 ≤ ln k2) (hb0 : ln k0 ≤ 1000) (hb2 : ln k2 ≤ 1000) {kk : St → Option (Int32 × St)} : ∀ (fu j : Nat) (s : St), j ≤ 14 → 14 < fu + j → ∃ s', M_X7_copy_L3 k0 k2 (nI o1) (nI o3) kk fu (nI j) s = kk s' ∧ Ex (fun q => q = k0) s s' ∧ (∀ i, j ≤ i → i < 14 → s'.1 k0 (o1 + i) = s.1 k2 (o3 + i)) ∧ ∀ i, i < o1 + j ∨ o1 + 14 ≤ i → s'.1 k0 i = s.1 k0 i
  | 0, j, s, h1, h2 => absurd h2 (by omega)
  | fu + 1, j, s, h3, h4 => by
    rw [M_X7_copy_L3, nl_14]
    by_cases hj : j = 14
    · subst hj
      rw [i_le_t (Nat.le_refl 14) (by decide)]
      exact ⟨s, rfl, Ex.rf, fun i h3 h4 => by omega, fun i _ => rfl⟩
    · rw [i_le_f (by omega) (by decide), show nI o3 + nI j = nI (o3 + j) from nP, show nI o1 + nI j = nI (o1 + j) from nP, rd_nI (by omega) (by omega), wr_nI (by omega) (by omega), show nI j + 1 = nI (j + 1) from nP]
      obtain ⟨s', e1, e2, e3, e4⟩ := cp7_loop hk h0 h2 hb0 hb2 fu (j + 1) (up s k0 (o1 + j) (s.1 k2 (o3 + j))) (by omega) (by omega)
      refine ⟨s', e1, Ex.u1.tr1 e2, fun i h5 h6 => ?_, fun i h5 => ?_⟩
      · by_cases hi : i = j
        · subst hi
          rw [e4 _ (by omega), up_s]
        · rw [e3 i (by omega) h6, up_c (Ne.symm hk)]
      · rw [e4 i (by omega), up_i (by omega)]
theorem cp7 {k0 k2 o1 o3 : Nat} (hk : k0 ≠ k2) (h0 : o1 + 14 ≤ ln k0) (h2 : o3 + 14 ≤ ln k2) (hb0 : ln k0 ≤ 1000) (hb2 : ln k2 ≤ 1000) (s : St) : ∃ s', M_X7_copy k0 k2 (nI o1) (nI o3) s = some (0, s') ∧ Ex (fun q => q = k0) s s' ∧ (∀ i, i < 14 → s'.1 k0 (o1 + i) = s.1 k2 (o3 + i)) ∧ (∀ i, i < o1 ∨ o1 + 14 ≤ i → s'.1 k0 i = s.1 k0 i) ∧ ∀ n c, n ≤ 6 → stAt s k2 o3 n c → stAt s' k0 o1 n c := by
  unfold M_X7_copy
  obtain ⟨s', e1, e2, e3, e4⟩ := cp7_loop hk h0 h2 hb0 hb2 (kk := fun s3 => some (0, s3)) 400 0 s (by omega) (by omega)
  refine ⟨s', e1, e2, fun i hi => e3 i (by omega) hi, fun i hi => e4 i (by omega), fun n c hn hc => ?_⟩
  obtain ⟨c1, c2, c3⟩ := hc
  refine ⟨?_, ?_, fun f hf => ⟨?_, ?_⟩⟩
  · have := e3 0 (by omega) (by omega); rw [Nat.add_zero, Nat.add_zero] at this; rw [this]; exact c1
  · rw [e3 1 (by omega) (by omega)]; exact c2
  · rw [show o1 + 2 + f = o1 + (2 + f) by omega, e3 (2 + f) (by omega) (by omega), show o3 + (2 + f) = o3 + 2 + f by omega]; exact (c3 f hf).1
  · rw [show o1 + 8 + f = o1 + (8 + f) by omega, e3 (8 + f) (by omega) (by omega), show o3 + (8 + f) = o3 + 8 + f by omega]; exact (c3 f hf).2
/-! ===== the history: what is remembered ===== -/
theorem push_x {a : Ab} {s : St} (hn : aN a ≤ 6) (hl : (aH a).length ≤ 10) (h : xH a s) (hc : scAt s 15 (aN a) (aC a)) : ∃ s', M_X2_push 15 s = some (0, s') ∧ Ex (fun q => q = 21 ∨ (23 ≤ q ∧ q ≤ 52)) s s' ∧ ∀ c, xH (sCH a c ((aC a :: aH a).take 10)) s' := by
  obtain ⟨p, hp, h1, h2, h3⟩ := h
  obtain ⟨s1, e1, e2, e3⟩ := cp3 (k := 22 + 1 + 3 * p) (k1 := 15) (by omega) s
  have f1 := e2.1 21 (by omega)
  refine ⟨up (up s1 21 1 (nI ((p + 1) % 10))) 21 2 (nI ((aC a :: aH a).take 10).length), ?_, ?_, fun c => ⟨(p + 1) % 10, by omega, ?_, ?_, fun i c hi => ?_⟩⟩
  · unfold M_X2_push
    rw [h1, ra_nI hp (by decide), e1, cl_some]
    simp only [jn, pu]
    have k1 : ∀ v : Int32, v = nI ((p + 1) % 10) → (some ((0 : Int32), up (up s1 21 1 v) 21 2 (if (10 : Int32) < (up s1 21 1 v).1 21 2 + 1 then 10 else (up s1 21 1 v).1 21 2 + 1)) : Option (Int32 × St)) = some (0, up (up s1 21 1 (nI ((p + 1) % 10))) 21 2 (nI ((aC a :: aH a).take 10).length)) := by
      intro v hv
      subst hv
      rw [up_i (by decide), f1, h2, show nI (aH a).length + 1 = nI ((aH a).length + 1) from nP, nl_10]
      congr 3
      rw [List.length_take, List.length_cons]
      by_cases hx : (aH a).length = 10
      · rw [i_lt_t (by omega) (by omega)]; congr 1; omega
      · rw [i_lt_f (by omega) (by decide)]; congr 1; omega
    rw [f1, h1, nl_9]
    by_cases h9 : p = 9
    · rw [i_eq_t h9]
      refine k1 0 ?_
      subst h9; rfl
    · rw [i_eq_f h9 (by omega) (by decide)]
      refine k1 _ ?_
      rw [show nI p + 1 = nI (p + 1) from nP, Nat.mod_eq_of_lt (by omega)]
  · exact ((e2.mono (fun q hq => by omega)).tr1 (Ex.u2 (by omega))).tr1 (Ex.u2 (by omega))
  · rw [up_i (by decide), up_s]
  · rw [up_s]; rfl
  · have hlt : i < 10 := by
      have := (List.getElem?_eq_some_iff.mp hi).1
      have h5 : ((aC a :: aH a).take 10).length ≤ 10 := by rw [List.length_take]; omega
      have h6 : i < ((aC a :: aH a).take 10).length := this
      omega
    have hi2 : (aC a :: aH a)[i]? = some c := by
      have : ((aC a :: aH a).take 10)[i]? = some c := hi
      rw [List.getElem?_take, if_pos hlt] at this
      exact this
    have hex : Ex (fun q => q = 21) s1 (up (up s1 21 1 (nI ((p + 1) % 10))) 21 2 (nI ((aC a :: aH a).take 10).length)) := Ex.u1.tr1 Ex.u1
    show scAt _ _ (aN a) c
    cases i with
    | zero =>
      simp at hi2
      subst hi2
      refine scAt.ex ?_ hex (fun j hj => by omega)
      rw [show 23 + 3 * (((p + 1) % 10 + 9 - 0) % 10) = 22 + 1 + 3 * p by omega]
      exact e3 _ _ hn hc
    | succ i =>
      simp at hi2
      have hpos : ((p + 1) % 10 + 9 - (i + 1)) % 10 = (p + 9 - i) % 10 := by omega
      have hne : (p + 9 - i) % 10 ≠ p := by omega
      refine scAt.ex ?_ hex (fun j hj => by omega)
      rw [hpos]
      exact (h3 i c hi2).ex e2 (fun j hj => by omega)
theorem pop_x {a : Ab} {s : St} {c : Sc} {t : List Sc} (hn : aN a ≤ 6) (hl : (aH a).length ≤ 10) (h : xH a s) (ht : aH a = c :: t) : ∃ s', M_X2_pop 15 s = some (0, s') ∧ Ex (fun q => q = 21 ∨ (15 ≤ q ∧ q ≤ 17)) s s' ∧ xH (sCH a c t) s' ∧ scAt s' 15 (aN a) c ∧ s'.1 21 2 = nI t.length := by
  obtain ⟨p, hp, h1, h2, h3⟩ := h
  have hlen : (aH a).length = t.length + 1 := by rw [ht]; rfl
  obtain ⟨s1, e1, e2, e3⟩ := cp3 (k := 15) (k1 := 22 + 1 + 3 * ((p + 9) % 10)) (by omega) (up (up s 21 1 (nI ((p + 9) % 10))) 21 2 (nI t.length))
  have hex : Ex (fun q => q = 21) s (up (up s 21 1 (nI ((p + 9) % 10))) 21 2 (nI t.length)) := Ex.u1.tr1 Ex.u1
  have f1 := e2.1 21 (by omega)
  refine ⟨s1, ?_, ?_, ⟨(p + 9) % 10, by omega, ?_, ?_, fun i d hi => ?_⟩, ?_, ?_⟩
  · unfold M_X2_pop
    simp only [jn, pu]
    have k1 : ∀ v : Int32, v = nI ((p + 9) % 10) → (ra 22 10 ((up (up s 21 1 v) 21 2 ((up s 21 1 v).1 21 2 - 1)).1 21 1) fun j6 => cl (M_X3_copyFrom 15 j6 (up (up s 21 1 v) 21 2 ((up s 21 1 v).1 21 2 - 1))) fun r7 s8 => some ((0 : Int32), s8)) = some (0, s1) := by
      intro v hv
      subst hv
      rw [up_i (b := 2) (by decide), h2, hlen, nl_1, nS (by omega), show t.length + 1 - 1 = t.length by omega, up_i (b := 1) (by decide), up_s, ra_nI (by omega) (by decide), e1, cl_some]
    rw [h1, nl_0]
    by_cases h9 : p = 0
    · rw [i_eq_t h9]
      refine k1 _ ?_
      subst h9; rfl
    · rw [i_eq_f h9 (by omega) (by decide)]
      refine k1 _ ?_
      rw [nl_1, nS (by omega)]
      congr 1; omega
  · exact (hex.mono (fun q hq => by omega)).tr1 (e2.mono (fun q hq => by omega))
  · rw [f1, up_i (by decide), up_s]
  · rw [f1, up_s]; rfl
  · have hi2 : t[i]? = some d := hi
    have hlt : i < t.length := (List.getElem?_eq_some_iff.mp hi2).1
    have h4 := h3 (i + 1) d (by rw [ht]; simpa using hi2)
    have hpos : ((p + 9) % 10 + 9 - i) % 10 = (p + 9 - (i + 1)) % 10 := by omega
    show scAt _ _ (aN a) d
    rw [hpos]
    exact (h4.ex hex (fun j hj => by omega)).ex e2 (fun j hj => by omega)
  · have h4 := h3 0 c (by rw [ht]; rfl)
    refine e3 _ _ hn ?_
    rw [show 22 + 1 + 3 * ((p + 9) % 10) = 23 + 3 * ((p + 9 - 0) % 10) by omega]
    exact h4.ex hex (fun j hj => by omega)
  · rw [f1, up_s]
theorem rem_loop {kk : St → Option (Int32 × St)} : ∀ (fu j : Nat) (s : St), j ≤ 126 → 126 < fu + j → ∃ s', M_X7_remembers_L11 kk fu (nI j) s = kk s' ∧ Ex (fun q => q = 72) s s' ∧ (∀ i, j ≤ i → i < 126 → s'.1 72 i = s.1 72 (i + 14)) ∧ ∀ i, i < j ∨ 126 ≤ i → s'.1 72 i = s.1 72 i
  | 0, j, s, h1, h2 => absurd h2 (by omega)
  | fu + 1, j, s, h3, h4 => by
    rw [M_X7_remembers_L11, nl_126, nl_14]
    by_cases hj : j = 126
    · subst hj
      rw [i_le_t (Nat.le_refl _) (by decide)]
      exact ⟨s, rfl, Ex.rf, fun i h3 h4 => by omega, fun i _ => rfl⟩
    · rw [i_le_f (by omega) (by decide), show nI j + nI 14 = nI (j + 14) from nP, rd_nI (by omega) (by omega), wr_nI (by omega) (by omega), show nI j + 1 = nI (j + 1) from nP]
      obtain ⟨s', e1, e2, e3, e4⟩ := rem_loop fu (j + 1) (up s 72 j (s.1 72 (j + 14))) (by omega) (by omega)
      refine ⟨s', e1, Ex.u1.tr1 e2, fun i h5 h6 => ?_, fun i h5 => ?_⟩
      · by_cases hi : i = j
        · subst hi
          rw [e4 _ (by omega), up_s]
        · rw [e3 i (by omega) h6, up_i (by omega)]
      · rw [e4 i (by omega), up_i (by omega)]
theorem push_m {a : Ab} {s : St} (hn : aN a ≤ 6) (hl : (aH a).length ≤ 10) (h : mH a s) (hc : stAt s 71 0 (aN a) (aC a)) : ∃ s', M_X7_remembers s = some (0, s') ∧ Ex (fun q => q = 67 ∨ q = 72) s s' ∧ (∀ i, i ≠ 6 → s'.1 67 i = s.1 67 i) ∧ ∀ c, mH (sCH a c ((aC a :: aH a).take 10)) s' := by
  obtain ⟨h1, h2⟩ := h
  -- the end of it, once there is room for one more
  have fin : ∀ (s2 : St) (H : List Sc), H.length ≤ 9 → s2.1 67 6 = nI H.length → (∀ i c, H[i]? = some c → stAt s2 72 (14 * (H.length - 1 - i)) (aN a) c) → stAt s2 71 0 (aN a) (aC a) → ∃ s', (cl (M_X7_copy 72 71 (14 * s2.1 67 6) 0 s2) fun r3 s4 => pu s4 67 6 (s4.1 67 6 + 1) fun s5 => some ((0 : Int32), s5)) = some (0, s') ∧ Ex (fun q => q = 67 ∨ q = 72) s2 s' ∧ (∀ i, i ≠ 6 → s'.1 67 i = s2.1 67 i) ∧ s'.1 67 6 = nI (H.length + 1) ∧ ∀ i c, (aC a :: H)[i]? = some c → stAt s' 72 (14 * (H.length - i)) (aN a) c := by
    intro s2 H hH g1 g2 g3
    obtain ⟨s4, e1, e2, e3, e4, e5⟩ := cp7 (k0 := 72) (k2 := 71) (o1 := 14 * H.length) (o3 := 0) (by decide) (by rw [ln_72]; omega) (by rw [ln_71]; omega) (by rw [ln_72]; omega) (by rw [ln_71]; omega) s2
    have f1 := e2.1 67 (by omega)
    refine ⟨up s4 67 6 (nI (H.length + 1)), ?_, ?_, fun i hi => ?_, up_s, fun i c hi => ?_⟩
    · rw [g1, nl_14, nM, show (0 : Int32) = nI 0 from rfl, e1, cl_some]
      simp only [pu]
      rw [f1, g1, show nI H.length + 1 = nI (H.length + 1) from nP]
    · exact (e2.mono (fun q hq => by omega)).tr1 (Ex.u2 (by omega))
    · rw [up_i hi, f1]
    · refine stAt.ex (P := fun q => q = 67) ?_ Ex.u1 (by omega)
      cases i with
      | zero =>
        simp at hi
        subst hi
        exact e5 _ _ hn g3
      | succ i =>
        simp at hi
        have hlt : i < H.length := (List.getElem?_eq_some_iff.mp hi).1
        have h4 := g2 i c hi
        rw [show 14 * (H.length - (i + 1)) = 14 * (H.length - 1 - i) by omega]
        obtain ⟨q1, q2, q3⟩ := h4
        refine ⟨?_, ?_, fun f hf => ⟨?_, ?_⟩⟩
        · rw [e4 _ (by omega)]; exact q1
        · rw [e4 _ (by omega)]; exact q2
        · rw [e4 _ (by omega)]; exact (q3 f hf).1
        · rw [e4 _ (by omega)]; exact (q3 f hf).2
  unfold M_X7_remembers
  simp only [jn]
  rw [h1, nl_10]
  by_cases hx : (aH a).length = 10
  · rw [i_eq_t hx]
    obtain ⟨s8, e1, e2, e3, e4⟩ := rem_loop (kk := fun s8 => pu s8 67 6 (s8.1 67 6 - 1) fun s9 => cl (M_X7_copy 72 71 (14 * s9.1 67 6) 0 s9) fun r3 s4 => pu s4 67 6 (s4.1 67 6 + 1) fun s5 => some ((0 : Int32), s5)) 400 0 s (by omega) (by omega)
    rw [show (0 : Int32) = nI 0 from rfl] at *
    rw [e1]
    simp only [pu]
    have f1 := e2.1 67 (by omega)
    rw [f1, h1, hx, nl_1, nS (by omega)]
    have hd : ((aH a).dropLast).length = 9 := by rw [List.length_dropLast, hx]
    obtain ⟨s', g1, g2, g3, g4, g5⟩ := fin (up s8 67 6 (nI (10 - 1))) (aH a).dropLast (by omega) (by rw [up_s, hd]) (fun i c hi => by
        have hlt : i < 9 := by have := (List.getElem?_eq_some_iff.mp hi).1; omega
        have hi2 : (aH a)[i]? = some c := by rw [List.getElem?_dropLast] at hi; split at hi; exact hi; cases hi
        refine stAt.ex (P := fun q => q = 67) ?_ Ex.u1 (by omega)
        obtain ⟨q1, q2, q3⟩ := h2 i c hi2
        rw [hx] at q1 q2 q3
        rw [hd]
        have hs : ∀ j, j < 14 → s8.1 72 (14 * (9 - 1 - i) + j) = s.1 72 (14 * (10 - 1 - i) + j) := fun j hj => by rw [e3 _ (by omega) (by omega), show 14 * (9 - 1 - i) + j + 14 = 14 * (10 - 1 - i) + j by omega]
        refine ⟨?_, ?_, fun f hf => ⟨?_, ?_⟩⟩
        · have := hs 0 (by omega); rw [Nat.add_zero, Nat.add_zero] at this; rw [this]; exact q1
        · rw [hs 1 (by omega)]; exact q2
        · rw [Nat.add_assoc, hs (2 + f) (by omega), ← Nat.add_assoc]; exact (q3 f hf).1
        · rw [Nat.add_assoc, hs (8 + f) (by omega), ← Nat.add_assoc]; exact (q3 f hf).2) (by
        refine stAt.ex (P := fun q => q = 67) ?_ Ex.u1 (by omega)
        exact hc.ex e2 (by omega))
    refine ⟨s', g1, ?_, fun i hi => ?_, fun c => ⟨?_, fun i d hi => ?_⟩⟩
    · exact ((e2.mono (fun q hq => by omega)).tr1 (Ex.u2 (by omega))).tr1 g2
    · rw [g3 i hi, up_i hi, f1]
    · rw [g4, hd]
      show nI 10 = nI ((aC a :: aH a).take 10).length
      rw [List.length_take, List.length_cons, hx]; rfl
    · have hL : ((aC a :: aH a).take 10).length = 10 := by rw [List.length_take, List.length_cons, hx]; rfl
      show stAt s' 72 (14 * (((aC a :: aH a).take 10).length - 1 - i)) (aN a) d
      have hi1 : ((aC a :: aH a).take 10)[i]? = some d := hi
      have hlt : i < 10 := by have := (List.getElem?_eq_some_iff.mp hi1).1; omega
      rw [List.getElem?_take, if_pos hlt] at hi1
      rw [hL]
      have := g5 i d (by
        cases i with
        | zero => simpa using hi1
        | succ i =>
          simp at hi1 ⊢
          rw [List.getElem?_dropLast, if_pos (by omega)]; exact hi1)
      rw [hd] at this
      exact this
  · rw [i_eq_f hx (by omega) (by decide)]
    obtain ⟨s', g1, g2, g3, g4, g5⟩ := fin s (aH a) (by omega) h1 h2 hc
    have hL : (aC a :: aH a).take 10 = aC a :: aH a := List.take_of_length_le (by rw [List.length_cons]; omega)
    rw [h1] at g1
    refine ⟨s', g1, g2, g3, fun c => ⟨?_, fun i d hi => ?_⟩⟩
    · show _ = nI ((aC a :: aH a).take 10).length
      rw [hL, g4]; rfl
    · show stAt s' 72 (14 * (((aC a :: aH a).take 10).length - 1 - i)) (aN a) d
      have hi1 : ((aC a :: aH a).take 10)[i]? = some d := hi
      rw [hL] at hi1 ⊢
      exact g5 i d hi1
