theorem inv_s0 : Inv s0 := by
  refine ⟨(0, fun _ => 0, fun _ => 0, fun _ => 0, (0, 0, fun _ => 0, fun _ => 0), [], fun _ => none, [], []), ?_, ?_, ?_, rfl⟩
  · refine ⟨by decide, fun f hf => absurd hf (Nat.not_lt_zero f), ⟨by decide, by decide, fun f hf => absurd hf (Nat.not_lt_zero f)⟩, ⟨by decide, fun c hc => absurd hc List.not_mem_nil⟩, fun i c h => (by cases h), ⟨by decide, fun c hc => absurd hc List.not_mem_nil⟩, ⟨by decide, fun c hc => absurd hc List.not_mem_nil⟩⟩
  · refine ⟨⟨rfl, fun f hf => absurd hf (Nat.not_lt_zero f)⟩, ⟨rfl, rfl, fun f hf => absurd hf (Nat.not_lt_zero f)⟩, ⟨0, by decide, rfl, rfl, fun i c h => (by simp [aH] at h)⟩, fun i hi => ⟨rfl, fun c h => (by cases h)⟩, ⟨rfl, fun x y _ _ => rfl⟩, ⟨rfl, fun i hi => absurd hi (Nat.not_lt_zero i)⟩⟩
  · refine ⟨⟨rfl, fun f hf => absurd hf (Nat.not_lt_zero f)⟩, ⟨rfl, rfl, fun f hf => absurd hf (Nat.not_lt_zero f)⟩, ⟨rfl, fun i c h => (by simp [aH] at h)⟩, fun i hi => ⟨rfl, fun c h => (by cases h)⟩, ⟨rfl, fun i t h => (by simp [aT] at h)⟩, ⟨rfl, fun i hi => absurd hi (Nat.not_lt_zero i)⟩⟩
theorem subLT {a b c : Nat} (ha : a < 2 ^ 30) (hb : b < 2 ^ 30) (hc : c < 2 ^ 30) : (nI a - nI b < nI c) = ((a : Int) - b < c) := by
  rw [Int32.lt_iff_toInt_lt, pk_sub_toInt ha hb, nI_toInt (by omega)]
theorem law_step {xs : Nat → Int32} {n : Nat} (hn : n ≤ 2560) : ∀ (fu i : Nat) (s : St), Inv s → i ≤ n → n < i + 5 * fu → ∃ s', M_L_law_L18 xs n (fun s => some (1, s)) fu (nI i) s = some (1, s')
  | 0, i, s, _, h1, h2 => absurd h2 (by omega)
  | fu + 1, i, s, hI, h1, h2 => by
    rw [M_L_law_L18]
    by_cases hc : (n : Int) - 5 < i
    · have hc' : (Int32.ofNat n) - 5 < nI i := by
        have e := subLT (a := n) (b := 5) (c := i) (by omega) (by omega) (by omega)
        exact e.mpr hc
      rw [if_pos hc']
      exact ⟨s, rfl⟩
    · have hc' : ¬ (Int32.ofNat n) - 5 < nI i := by
        have e := subLT (a := n) (b := 5) (c := i) (by omega) (by omega) (by omega)
        exact fun h => hc (e.mp h)
      rw [if_neg hc', rs_nI (by omega) (by omega)]
      have p1 : nI i + 1 = nI (i + 1) := nP
      have p2 : nI i + 2 = nI (i + 2) := nP
      have p3 : nI i + 3 = nI (i + 3) := nP
      have p4 : nI i + 4 = nI (i + 4) := nP
      have p5 : nI i + 5 = nI (i + 5) := nP
      have go : ∀ s1, Inv s1 → ∃ s', M_L_law_L18 xs n (fun s => some (1, s)) fu (nI i + 5) s1 = some (1, s') := fun s1 h => by
        rw [p5]; exact law_step hn fu (i + 5) s1 h (by omega) (by omega)
      generalize hv : xs i &&& 31 = v
      simp only [jn]
      by_cases h0 : v = 0
      · rw [if_pos h0]
        obtain ⟨r, s1, s2, e1, e2, hI2⟩ := both (op_type (xs (i + 1))) hI
        simp only [p1, rs_nI (show i + 1 < n by omega) (show n ≤ 2147483648 by omega), e1, cl_some, e2, if_true]
        exact go s2 hI2
      rw [if_neg h0]
      by_cases h1 : v = 1
      · rw [if_pos h1]
        obtain ⟨r, s1, s2, e1, e2, hI2⟩ := both (op_clear) hI
        simp only [e1, cl_some, e2, if_true]
        exact go s2 hI2
      rw [if_neg h1]
      by_cases h2 : v = 2
      · rw [if_pos h2]
        obtain ⟨r, s1, s2, e1, e2, hI2⟩ := both (op_valley) hI
        simp only [e1, cl_some, e2, if_true]
        exact go s2 hI2
      rw [if_neg h2]
      by_cases h3 : v = 3
      · rw [if_pos h3]
        obtain ⟨r, s1, s2, e1, e2, hI2⟩ := both (op_farmer (xs (i + 1)) (xs (i + 2))) hI
        simp only [p1, p2, rs_nI (show i + 1 < n by omega) (show n ≤ 2147483648 by omega), rs_nI (show i + 2 < n by omega) (show n ≤ 2147483648 by omega), e1, cl_some, e2, if_true]
        exact go s2 hI2
      rw [if_neg h3]
      by_cases h4 : v = 4
      · rw [if_pos h4]
        obtain ⟨r, s1, s2, e1, e2, hI2⟩ := both (op_now (xs (i + 1))) hI
        simp only [p1, rs_nI (show i + 1 < n by omega) (show n ≤ 2147483648 by omega), e1, cl_some, e2, if_true]
        exact go s2 hI2
      rw [if_neg h4]
      by_cases h5 : v = 5
      · rw [if_pos h5]
        obtain ⟨r, s1, s2, e1, e2, hI2⟩ := both (op_day (xs (i + 1))) hI
        simp only [p1, rs_nI (show i + 1 < n by omega) (show n ≤ 2147483648 by omega), e1, cl_some, e2, if_true]
        exact go s2 hI2
      rw [if_neg h5]
      by_cases h6 : v = 6
      · rw [if_pos h6]
        obtain ⟨r, s1, s2, e1, e2, hI2⟩ := both (op_brings (xs (i + 1))) hI
        simp only [p1, rs_nI (show i + 1 < n by omega) (show n ≤ 2147483648 by omega), e1, cl_some, e2, if_true]
        exact go s2 hI2
      rw [if_neg h6]
      by_cases h7 : v = 7
      · rw [if_pos h7]
        obtain ⟨r, s1, s2, e1, e2, hI2⟩ := both (op_hangs (xs (i + 1)) (xs (i + 2))) hI
        simp only [p1, p2, rs_nI (show i + 1 < n by omega) (show n ≤ 2147483648 by omega), rs_nI (show i + 2 < n by omega) (show n ≤ 2147483648 by omega), e1, cl_some, e2, if_true]
        exact go s2 hI2
      rw [if_neg h7]
      by_cases h8 : v = 8
      · rw [if_pos h8]
        obtain ⟨r, s1, s2, e1, e2, hI2⟩ := both (op_undo) hI
        simp only [e1, cl_some, e2, if_true]
        exact go s2 hI2
      rw [if_neg h8]
      by_cases h9 : v = 9
      · rw [if_pos h9]
        obtain ⟨r, s1, s2, e1, e2, hI2⟩ := both (op_start (xs (i + 1))) hI
        simp only [p1, rs_nI (show i + 1 < n by omega) (show n ≤ 2147483648 by omega), e1, cl_some, e2, if_true]
        exact go s2 hI2
      rw [if_neg h9]
      by_cases h10 : v = 10
      · rw [if_pos h10]
        obtain ⟨r, s1, s2, e1, e2, hI2⟩ := both (op_hang (xs (i + 1))) hI
        simp only [p1, rs_nI (show i + 1 < n by omega) (show n ≤ 2147483648 by omega), e1, cl_some, e2, if_true]
        exact go s2 hI2
      rw [if_neg h10]
      by_cases h11 : v = 11
      · rw [if_pos h11]
        obtain ⟨r, s1, s2, e1, e2, hI2⟩ := both (op_odds (xs (i + 1)) (xs (i + 2)) (xs (i + 3)) (xs (i + 4))) hI
        simp only [p1, p2, p3, p4, rs_nI (show i + 1 < n by omega) (show n ≤ 2147483648 by omega), rs_nI (show i + 2 < n by omega) (show n ≤ 2147483648 by omega), rs_nI (show i + 3 < n by omega) (show n ≤ 2147483648 by omega), rs_nI (show i + 4 < n by omega) (show n ≤ 2147483648 by omega), e1, cl_some, e2, if_true]
        exact go s2 hI2
      rw [if_neg h11]
      by_cases h12 : v = 12
      · rw [if_pos h12]
        obtain ⟨r, s1, s2, e1, e2, hI2⟩ := both (op_sees (xs (i + 1)) (xs (i + 2)) (xs (i + 3))) hI
        simp only [p1, p2, p3, rs_nI (show i + 1 < n by omega) (show n ≤ 2147483648 by omega), rs_nI (show i + 2 < n by omega) (show n ≤ 2147483648 by omega), rs_nI (show i + 3 < n by omega) (show n ≤ 2147483648 by omega), e1, cl_some, e2, if_true]
        exact go s2 hI2
      rw [if_neg h12]
      by_cases h13 : v = 13
      · rw [if_pos h13]
        obtain ⟨r, s1, s2, e1, e2, hI2⟩ := both (op_forget) hI
        simp only [e1, cl_some, e2, if_true]
        exact go s2 hI2
      rw [if_neg h13]
      by_cases h14 : v = 14
      · rw [if_pos h14]
        obtain ⟨r, s1, s2, e1, e2, hI2⟩ := both (op_ones (xs (i + 1))) hI
        simp only [p1, rs_nI (show i + 1 < n by omega) (show n ≤ 2147483648 by omega), e1, cl_some, e2, if_true]
        exact go s2 hI2
      rw [if_neg h14]
      by_cases h15 : v = 15
      · rw [if_pos h15]
        obtain ⟨r, s1, s2, e1, e2, hI2⟩ := both (op_look (xs (i + 1))) hI
        simp only [p1, rs_nI (show i + 1 < n by omega) (show n ≤ 2147483648 by omega), e1, cl_some, e2, if_true]
        exact go s2 hI2
      rw [if_neg h15]
      by_cases h16 : v = 16
      · rw [if_pos h16]
        obtain ⟨r, s1, s2, e1, e2, hI2⟩ := both (op_rate (xs (i + 1)) (xs (i + 2))) hI
        simp only [p1, p2, rs_nI (show i + 1 < n by omega) (show n ≤ 2147483648 by omega), rs_nI (show i + 2 < n by omega) (show n ≤ 2147483648 by omega), e1, cl_some, e2, if_true]
        exact go s2 hI2
      rw [if_neg h16]
      by_cases h17 : v = 17
      · rw [if_pos h17]
        obtain ⟨r, s1, s2, e1, e2, hI2⟩ := both (op_keep (xs (i + 1))) hI
        simp only [p1, rs_nI (show i + 1 < n by omega) (show n ≤ 2147483648 by omega), e1, cl_some, e2, if_true]
        exact go s2 hI2
      rw [if_neg h17]
      by_cases h18 : v = 18
      · rw [if_pos h18]
        obtain ⟨r, s1, s2, e1, e2, hI2⟩ := both (op_back (xs (i + 1))) hI
        simp only [p1, rs_nI (show i + 1 < n by omega) (show n ≤ 2147483648 by omega), e1, cl_some, e2, if_true]
        exact go s2 hI2
      rw [if_neg h18]
      by_cases h19 : v = 19
      · rw [if_pos h19]
        obtain ⟨r, s1, s2, e1, e2, hI2⟩ := both (op_count (xs (i + 1))) hI
        simp only [p1, rs_nI (show i + 1 < n by omega) (show n ≤ 2147483648 by omega), e1, cl_some, e2, if_true]
        exact go s2 hI2
      rw [if_neg h19]
      by_cases h20 : v = 20
      · rw [if_pos h20]
        obtain ⟨a, q1, q2, q3, q4⟩ := id hI
        rw [if_pos ((lg_cmp_eq _ _).mpr q4)]
        exact go s hI
      rw [if_neg h20]
      exact go s hI
theorem law_math (xs : Nat → Int32) (n : Nat) (hn : n ≤ 2560) : ∃ s', M_L_law xs n s0 = some (1, s') := by
  unfold M_L_law
  exact law_step hn 600 0 s0 inv_s0 (Nat.zero_le n) (by omega)
