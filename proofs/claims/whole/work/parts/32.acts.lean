/-! ===== bits ===== -/
def pcl (A : Nat) : Nat → Nat → Nat
  | 0, _ => 0
  | c + 1, j => (if A.testBit j then 1 else 0) + pcl A c (j + 1)
def pc (A : Nat) : Nat := pcl A 8 0
theorem bt_at : ∀ A, A < 256 → ∀ f, f < 8 → ((nI A >>> (nI f &&& 31)) &&& 1) = nI (if A.testBit f then 1 else 0) := by decide +kernel
theorem bt_or : ∀ A, A < 64 → ∀ f, f < 6 → nI A ||| ((1 : Int32) <<< (nI f &&& 31)) = nI (A ||| 2 ^ f) := by decide +kernel
theorem bt_sh : ∀ f, f < 9 → (1 : Int32) <<< (nI f &&& 31) = nI (2 ^ f) := by decide +kernel
def bcf (x : Int32) : Int32 := match M_J6_bitCount_0f7a4 x (fun _ _ => 0, fun _ => 0) with
  | some q => q.1
  | none => 0
theorem bc_eq (x : Int32) (s : St) : M_J6_bitCount_0f7a4 x s = some (bcf x, s) := rfl
theorem bcf_pc : ∀ A, A < 64 → bcf (nI A) = nI (pc A) := by decide +kernel
theorem bc {A : Nat} (h : A < 64) (s : St) : M_J6_bitCount_0f7a4 (nI A) s = some (nI (pc A), s) := by rw [bc_eq, bcf_pc A h]
theorem bits_loop {A : Nat} (hA : A < 256) {kk : Int32 → St → Option (Int32 × St)} {s : St} : ∀ (fu j acc : Nat), j ≤ 8 → 8 < fu + j → M_X7_bits_L4 (nI A) kk fu (nI acc) (nI j) s = kk (nI (acc + pcl A (8 - j) j)) s
  | 0, j, acc, h1, h2 => absurd h2 (by omega)
  | fu + 1, j, acc, h1, h2 => by
    rw [M_X7_bits_L4, nl_8]
    by_cases hj : j = 8
    · subst hj
      rw [i_le_t (Nat.le_refl _) (by decide)]; rfl
    · rw [i_le_f (by omega) (by decide), bt_at A hA j (by omega), nP, show nI j + 1 = nI (j + 1) from nP, bits_loop hA fu (j + 1) _ (by omega) (by omega)]
      congr 2
      rw [show 8 - j = (8 - (j + 1)) + 1 by omega]
      show _ = acc + ((if A.testBit j then 1 else 0) + pcl A (8 - (j + 1)) (j + 1))
      omega
theorem bits {A : Nat} (h : A < 256) (s : St) : M_X7_bits (nI A) s = some (nI (pc A), s) := by
  unfold M_X7_bits
  have := bits_loop h (kk := fun v1 s2 => some (v1, s2)) (s := s) 400 0 0 (by omega) (by omega)
  rw [show (0 : Int32) = nI 0 from rfl, this, Nat.zero_add]; rfl
theorem pow6 {n : Nat} (h : n ≤ 6) : 2 ^ n ≤ 64 := Nat.pow_le_pow_right (by decide) h
theorem or_lt {A f n : Nat} (hA : A < 2 ^ n) (hf : f < n) : A ||| 2 ^ f < 2 ^ n := Nat.or_lt_two_pow hA (Nat.pow_lt_pow_right (by decide) hf)
/-! ===== who there is ===== -/
theorem has_x0 {x : Int32} {n : Nat} {s : St} (h9 : s.1 9 0 = nI n) (h : x < 0 ∨ nI n ≤ x) : M_X1_has 9 x s = some (0, s) := by
  unfold M_X1_has
  rw [h9]
  rcases h with h | h
  · rw [if_pos h]
  · by_cases h0 : x < 0
    · rw [if_pos h0]
    · rw [if_neg h0, if_pos h]
theorem has_x1 {j n : Nat} {s : St} (h9 : s.1 9 0 = nI n) (h : j < n) (hn : n ≤ 6) : M_X1_has 9 (nI j) s = some (1, s) := by
  unfold M_X1_has
  rw [h9, if_neg (nI_pos (by omega)), i_le_f h (by omega)]
theorem rz_0 {s : St} : rz 0 s = some (0, s) := rfl
theorem rz_1 {s : St} : rz 1 s = some (1, s) := rfl
theorem isF_0 {x : Int32} {n : Nat} {s : St} (h9 : s.1 67 0 = nI n) (hn : n ≤ 6) (h : x < 0 ∨ nI n ≤ x) : M_X7_isFarmer x s = some (0, s) := by
  unfold M_X7_isFarmer
  rw [h9, in_0, cl_some, rz_0]
  rcases h with h | h
  · exact Or.inl h
  · right
    rw [Int32.lt_iff_toInt_lt, nl_1, pk_sub_toInt (by omega) (by decide)]
    have := Int32.le_iff_toInt_le.mp h
    rw [nI_toInt (by omega)] at this
    omega
theorem isF_1 {j n : Nat} {s : St} (h9 : s.1 67 0 = nI n) (h : j < n) (hn : n ≤ 6) : M_X7_isFarmer (nI j) s = some (1, s) := by
  unfold M_X7_isFarmer
  rw [h9, nl_1, nS (by omega), in_1 (by omega) (by omega), cl_some]; rfl
theorem asked_x {k A f : Nat} {s : St} (hA : s.1 k 2 = nI A) (h1 : A < 64) (h2 : f < 6) : M_X3_hasAsked k (nI f) s = some (nI (if A.testBit f then 1 else 0), s) := by
  unfold M_X3_hasAsked
  rw [hA, bt_at A (by omega) f (by omega)]
  by_cases h : A.testBit f = true
  · rw [if_pos h]; rfl
  · rw [if_neg h]; rfl
theorem has_m {A f : Nat} {s : St} (h1 : A < 256) (h2 : f < 8) : M_X7_has (nI A) (nI f) s = some (nI (if A.testBit f then 1 else 0), s) := by
  unfold M_X7_has
  rw [bt_at A h1 f h2]
  by_cases h : A.testBit f = true
  · rw [if_pos h]; rfl
  · rw [if_neg h]; rfl
theorem okA_sCH {a : Ab} {c : Sc} {H : List Sc} (ok : okA a) (hc : okSc (aN a) c) (hl : H.length ≤ 10) (hH : ∀ c ∈ H, okSc (aN a) c) : okA (sCH a c H) := ⟨ok.1, ok.2.1, hc, ⟨hl, hH⟩, ok.2.2.2.2⟩
theorem okH {a : Ab} (ok : okA a) : ((aC a :: aH a).take 10).length ≤ 10 ∧ ∀ c ∈ (aC a :: aH a).take 10, okSc (aN a) c := by
  refine ⟨by rw [List.length_take]; omega, fun c hc => ?_⟩
  rcases List.mem_cons.mp (List.mem_of_mem_take hc) with e | e
  · rw [e]; exact ok.2.2.1
  · exact ok.2.2.2.1.2 c e
/-! ===== brings ===== -/
theorem op_brings (x1 : Int32) : ∀ a, okA a → Op2 (M_X6_brings x1) (M_X7_brings x1) a := by
  intro a ok
  have hn := ok.1
  rcases pk_ix x1 (n := aN a) (by omega) with h | h | ⟨f, hf, rfl⟩
  · exact ⟨a, -1, 0, ok, opX_read fun s hx => ⟨s, by unfold M_X6_brings; rw [has_x0 hx.1.1 (Or.inl h)]; rfl, Sx.rf, FrX.rf, rfl⟩, opM_read fun s hx => ⟨s, by unfold M_X7_brings; rw [isF_0 hx.1.1 hn (Or.inl h)]; rfl, Sm.rf, FrM.rf, rfl⟩⟩
  · exact ⟨a, -1, 0, ok, opX_read fun s hx => ⟨s, by unfold M_X6_brings; rw [has_x0 hx.1.1 (Or.inr h)]; rfl, Sx.rf, FrX.rf, rfl⟩, opM_read fun s hx => ⟨s, by unfold M_X7_brings; rw [isF_0 hx.1.1 hn (Or.inr h)]; rfl, Sm.rf, FrM.rf, rfl⟩⟩
  · have hA := ok.2.2.1.2.1
    have hA6 : cA (aC a) < 64 := Nat.lt_of_lt_of_le hA (pow6 hn)
    by_cases hb : (cA (aC a)).testBit f = true
    · refine ⟨a, -2, 0, ok, opX_read fun s hx => ⟨s, ?_, Sx.rf, FrX.rf, rfl⟩, opM_read fun s hx => ⟨s, ?_, Sm.rf, FrM.rf, rfl⟩⟩
      · unfold M_X6_brings
        rw [has_x1 hx.1.1 hf hn, cl_some, if_neg (by decide), asked_x hx.2.1.2.1 hA6 (by omega), cl_some, if_pos hb, nl_0, i_eq_f (by decide) (by decide) (by decide)]
      · unfold M_X7_brings
        rw [isF_1 hx.1.1 hf hn, cl_some, if_neg (by decide), nl_1, rd_nI (by decide) (by decide), hx.2.1.2.1, has_m (by omega) (by omega), cl_some, if_pos hb, nl_0, i_eq_f (by decide) (by decide) (by decide)]
    · have hA2 : cA (aC a) ||| 2 ^ f < 2 ^ aN a := or_lt hA hf
      have hA3 : cA (aC a) ||| 2 ^ f < 64 := Nat.lt_of_lt_of_le hA2 (pow6 hn)
      refine ⟨sCH a (cD (aC a), cA (aC a) ||| 2 ^ f, cL (aC a), cK (aC a)) ((aC a :: aH a).take 10), nI (pc (cA (aC a) ||| 2 ^ f)), 0, okA_sCH ok ⟨ok.2.2.1.1, hA2, ok.2.2.1.2.2⟩ (okH ok).1 (okH ok).2, ?_, ?_⟩
      · intro s hx
        obtain ⟨h1, h2, h3, h4, h5, h6⟩ := hx
        obtain ⟨s1, e1, e2, e3⟩ := push_x hn ok.2.2.2.1.1 h3 h2
        have h2' := h2.ex e2 (fun j hj => by omega)
        have e9 : Ex (fun q => q = 15 ∨ q = 21 ∨ (23 ≤ q ∧ q ≤ 52)) s (up s1 15 2 (nI (cA (aC a) ||| 2 ^ f))) := (e2.mono (fun q hq => by omega)).tr1 (Ex.u2 (by omega))
        refine ⟨up s1 15 2 (nI (cA (aC a) ||| 2 ^ f)), ?_, ⟨xN.ex (a := a) h1 e9 (fun k hk => by omega), ?_, ?_, xI.ex (a := a) h4 e9 (fun k hk => by omega), xT.ex (a := a) h5 e9 (fun k hk => by omega), xX.ex (a := a) h6 e9 (fun k hk => by omega)⟩, e9.frx (fun k hk => by omega), by rw [e9.2, Int64.add_zero]⟩
        · unfold M_X6_brings
          rw [has_x1 h1.1 hf hn, cl_some, if_neg (by decide), asked_x h2.2.1 hA6 (by omega), cl_some, if_neg hb, nl_0, i_eq_t rfl, e1, cl_some]
          simp only [pu]
          rw [h2'.2.1, bt_or _ hA6 f (by omega), up_s, bc hA3, cl_some]
        · exact ⟨by rw [up_i (by decide)]; exact h2'.1, up_s, fun g hg => by rw [up_c (by omega), up_c (by omega)]; exact h2'.2.2 g hg⟩
        · exact xH.ex (a := sCH a _ _) (e3 _) (Ex.u1 (k := 15)) (fun k hk => by omega)
      · intro s hx
        obtain ⟨h1, h2, h3, h4, h5, h6⟩ := hx
        obtain ⟨s1, e1, e2, e4, e3⟩ := push_m hn ok.2.2.2.1.1 h3 h2
        have h2' := h2.ex e2 (by omega)
        have e9 : Ex (fun q => q = 67 ∨ q = 71 ∨ q = 72) s (up s1 71 1 (nI (cA (aC a) ||| 2 ^ f))) := (e2.mono (fun q hq => by omega)).tr1 (Ex.u2 (by omega))
        have f9 : ∀ i, i ≠ 6 → (up s1 71 1 (nI (cA (aC a) ||| 2 ^ f))).1 67 i = s.1 67 i := fun i hi => by rw [up_c (by decide)]; exact e4 i hi
        refine ⟨up s1 71 1 (nI (cA (aC a) ||| 2 ^ f)), ?_, ⟨mN.ex (a := a) h1 (f9 0 (by decide)) e9 (fun k hk => by omega), ?_, ?_, mI.ex (a := a) h4 e9 (fun k hk => by omega), mT.ex (a := a) h5 (f9 9 (by decide)) e9 (fun k hk => by omega), mX.ex (a := a) h6 (f9 13 (by decide)) e9 (fun k hk => by omega)⟩, e9.frm (fun k hk => by omega), by rw [e9.2, Int64.add_zero]⟩
        · unfold M_X7_brings
          rw [isF_1 h1.1 hf hn, cl_some, if_neg (by decide), show (1 : Int32) = nI 1 from rfl, rd_nI (by decide) (by decide), h2.2.1, has_m (by omega) (by omega), cl_some, if_neg hb, nl_0, i_eq_t rfl, e1, cl_some, rd_nI (by decide) (by decide), h2'.2.1, ← nl_1, bt_or _ hA6 f (by omega), nl_1, wr_nI (by decide) (by decide), rd_nI (by decide) (by decide), up_s, bits (by omega), cl_some]
        · refine ⟨by rw [up_i (by decide)]; exact h2'.1, up_s, fun g hg => ?_⟩
          rw [up_i (by omega), up_i (by omega)]; exact h2'.2.2 g hg
        · exact mH.ex (a := sCH a _ _) (e3 _) (by rw [up_c (by decide)]) (Ex.u1 (k := 71)) (fun k hk => by omega)
/-! ===== hangs ===== -/
theorem op_hangs (x1 x2 : Int32) : ∀ a, okA a → Op2 (M_X6_hangs x1 x2) (M_X7_hangs x1 x2) a := by
  intro a ok
  have hn := ok.1
  have bad1 : x1 < 0 ∨ nI (aN a) ≤ x1 → Op2 (M_X6_hangs x1 x2) (M_X7_hangs x1 x2) a := fun h =>
    ⟨a, -1, 0, ok, opX_read fun s hx => ⟨s, by unfold M_X6_hangs; rw [has_x0 hx.1.1 h]; rfl, Sx.rf, FrX.rf, rfl⟩, opM_read fun s hx => ⟨s, by unfold M_X7_hangs; rw [isF_0 hx.1.1 hn h]; rfl, Sm.rf, FrM.rf, rfl⟩⟩
  rcases pk_ix x1 (n := aN a) (by omega) with h | h | ⟨f, hf, rfl⟩
  · exact bad1 (Or.inl h)
  · exact bad1 (Or.inr h)
  have bad2 : x2 < 0 ∨ nI (aN a) ≤ x2 → Op2 (M_X6_hangs (nI f) x2) (M_X7_hangs (nI f) x2) a := fun h =>
    ⟨a, -1, 0, ok, opX_read fun s hx => ⟨s, by unfold M_X6_hangs; rw [has_x1 hx.1.1 hf hn, cl_some, if_neg (by decide), has_x0 hx.1.1 h]; rfl, Sx.rf, FrX.rf, rfl⟩, opM_read fun s hx => ⟨s, by unfold M_X7_hangs; rw [isF_1 hx.1.1 hf hn, cl_some, if_neg (by decide), isF_0 hx.1.1 hn h]; rfl, Sm.rf, FrM.rf, rfl⟩⟩
  rcases pk_ix x2 (n := aN a) (by omega) with h | h | ⟨g, hg, rfl⟩
  · exact bad2 (Or.inl h)
  · exact bad2 (Or.inr h)
  by_cases hfg : f = g
  · refine ⟨a, -1, 0, ok, opX_read fun s hx => ⟨s, ?_, Sx.rf, FrX.rf, rfl⟩, opM_read fun s hx => ⟨s, ?_, Sm.rf, FrM.rf, rfl⟩⟩
    · unfold M_X6_hangs
      rw [has_x1 hx.1.1 hf hn, cl_some, if_neg (by decide), has_x1 hx.1.1 hg hn, cl_some, if_neg (by decide), i_eq_t hfg]
    · unfold M_X7_hangs
      rw [isF_1 hx.1.1 hf hn, cl_some, if_neg (by decide), isF_1 hx.1.1 hg hn, cl_some, if_neg (by decide), i_eq_t hfg]
  have hA := ok.2.2.1.2.1
  have hA6 : cA (aC a) < 64 := Nat.lt_of_lt_of_le hA (pow6 hn)
  have hk := (ok.2.2.1.2.2 f hf).2
  by_cases hb : (cA (aC a)).testBit f = true
  · refine ⟨a, -2, 0, ok, opX_read fun s hx => ⟨s, ?_, Sx.rf, FrX.rf, rfl⟩, opM_read fun s hx => ⟨s, ?_, Sm.rf, FrM.rf, rfl⟩⟩
    · unfold M_X6_hangs
      rw [has_x1 hx.1.1 hf hn, cl_some, if_neg (by decide), has_x1 hx.1.1 hg hn, cl_some, if_neg (by decide), i_eq_f hfg (by omega) (by omega), rd_nI (by omega) (by decide), asked_x hx.2.1.2.1 hA6 (by omega), cl_some, if_pos hb, nl_0, i_eq_f (by decide) (by decide) (by decide)]
    · unfold M_X7_hangs
      rw [isF_1 hx.1.1 hf hn, cl_some, if_neg (by decide), isF_1 hx.1.1 hg hn, cl_some, if_neg (by decide), i_eq_f hfg (by omega) (by omega), nl_8, nP, rd_nI (by omega) (by decide), nl_1, rd_nI (by decide) (by decide), hx.2.1.2.1, has_m (by omega) (by omega), cl_some, if_pos hb, nl_0, i_eq_f (by decide) (by decide) (by decide)]
  by_cases hkg : cK (aC a) f = g
  · refine ⟨a, -2, 0, ok, opX_read fun s hx => ⟨s, ?_, Sx.rf, FrX.rf, rfl⟩, opM_read fun s hx => ⟨s, ?_, Sm.rf, FrM.rf, rfl⟩⟩
    · unfold M_X6_hangs
      rw [has_x1 hx.1.1 hf hn, cl_some, if_neg (by decide), has_x1 hx.1.1 hg hn, cl_some, if_neg (by decide), i_eq_f hfg (by omega) (by omega), rd_nI (by omega) (by decide), asked_x hx.2.1.2.1 hA6 (by omega), cl_some, if_neg hb, nl_0, i_eq_t rfl, (hx.2.1.2.2 f hf).2, i_eq_t hkg]
    · unfold M_X7_hangs
      have := (hx.2.1.2.2 f hf).2
      rw [show 0 + 8 + f = 8 + f by omega] at this
      rw [isF_1 hx.1.1 hf hn, cl_some, if_neg (by decide), isF_1 hx.1.1 hg hn, cl_some, if_neg (by decide), i_eq_f hfg (by omega) (by omega), nl_8, nP, rd_nI (by omega) (by decide), nl_1, rd_nI (by decide) (by decide), hx.2.1.2.1, has_m (by omega) (by omega), cl_some, if_neg hb, nl_0, i_eq_t rfl, this, i_eq_t hkg]
  refine ⟨sCH a (cD (aC a), cA (aC a), cL (aC a), va_up (cK (aC a)) f g) ((aC a :: aH a).take 10), nI (cK (aC a) f), 0, okA_sCH ok ⟨ok.2.2.1.1, hA, fun q hq => ⟨(ok.2.2.1.2.2 q hq).1, ?_⟩⟩ (okH ok).1 (okH ok).2, ?_, ?_⟩
  · show va_up (cK (aC a)) f g q < aN a
    unfold va_up
    split
    · exact hg
    · exact (ok.2.2.1.2.2 q hq).2
  · intro s hx
    obtain ⟨h1, h2, h3, h4, h5, h6⟩ := hx
    obtain ⟨s1, e1, e2, e3⟩ := push_x hn ok.2.2.2.1.1 h3 h2
    have h2' := h2.ex e2 (fun j hj => by omega)
    have e9 : Ex (fun q => q = 17 ∨ q = 21 ∨ (23 ≤ q ∧ q ≤ 52)) s (up s1 17 f (nI g)) := (e2.mono (fun q hq => by omega)).tr1 (Ex.u2 (by omega))
    refine ⟨up s1 17 f (nI g), ?_, ⟨xN.ex (a := a) h1 e9 (fun k hk => by omega), ?_, ?_, xI.ex (a := a) h4 e9 (fun k hk => by omega), xT.ex (a := a) h5 e9 (fun k hk => by omega), xX.ex (a := a) h6 e9 (fun k hk => by omega)⟩, e9.frx (fun k hk => by omega), by rw [e9.2, Int64.add_zero]⟩
    · unfold M_X6_hangs
      rw [has_x1 h1.1 hf hn, cl_some, if_neg (by decide), has_x1 h1.1 hg hn, cl_some, if_neg (by decide), i_eq_f hfg (by omega) (by omega), rd_nI (by omega) (by decide), asked_x h2.2.1 hA6 (by omega), cl_some, if_neg hb, nl_0, i_eq_t rfl, (h2.2.2 f hf).2, i_eq_f hkg (by omega) (by omega), e1, cl_some, wr_nI (by omega) (by decide)]
    · refine ⟨by rw [up_c (by decide)]; exact h2'.1, by rw [up_c (by decide)]; exact h2'.2.1, fun q hq => ⟨by rw [up_c (by decide)]; exact (h2'.2.2 q hq).1, ?_⟩⟩
      show (up s1 17 f (nI g)).1 17 q = nI (va_up (cK (aC a)) f g q)
      by_cases hqf : q = f
      · subst hqf; rw [up_s]; simp [va_up]
      · rw [up_i hqf]; simp only [va_up, if_neg hqf]; exact (h2'.2.2 q hq).2
    · exact xH.ex (a := sCH a _ _) (e3 _) (Ex.u1 (k := 17)) (fun k hk => by omega)
  · intro s hx
    obtain ⟨h1, h2, h3, h4, h5, h6⟩ := hx
    obtain ⟨s1, e1, e2, e4, e3⟩ := push_m hn ok.2.2.2.1.1 h3 h2
    have h2' := h2.ex e2 (by omega)
    have e9 : Ex (fun q => q = 67 ∨ q = 71 ∨ q = 72) s (up s1 71 (8 + f) (nI g)) := (e2.mono (fun q hq => by omega)).tr1 (Ex.u2 (by omega))
    have f9 : ∀ i, i ≠ 6 → (up s1 71 (8 + f) (nI g)).1 67 i = s.1 67 i := fun i hi => by rw [up_c (by decide)]; exact e4 i hi
    have hkk := (h2.2.2 f hf).2
    rw [show 0 + 8 + f = 8 + f by omega] at hkk
    refine ⟨up s1 71 (8 + f) (nI g), ?_, ⟨mN.ex (a := a) h1 (f9 0 (by decide)) e9 (fun k hk => by omega), ?_, ?_, mI.ex (a := a) h4 e9 (fun k hk => by omega), mT.ex (a := a) h5 (f9 9 (by decide)) e9 (fun k hk => by omega), mX.ex (a := a) h6 (f9 13 (by decide)) e9 (fun k hk => by omega)⟩, e9.frm (fun k hk => by omega), by rw [e9.2, Int64.add_zero]⟩
    · unfold M_X7_hangs
      rw [isF_1 h1.1 hf hn, cl_some, if_neg (by decide), isF_1 h1.1 hg hn, cl_some, if_neg (by decide), i_eq_f hfg (by omega) (by omega), nl_8, nP, rd_nI (by omega) (by decide), nl_1, rd_nI (by decide) (by decide), h2.2.1, has_m (by omega) (by omega), cl_some, if_neg hb, nl_0, i_eq_t rfl, hkk, i_eq_f hkg (by omega) (by omega), e1, cl_some, wr_nI (by omega) (by decide)]
    · refine ⟨by rw [up_i (by omega)]; exact h2'.1, by rw [up_i (by omega)]; exact h2'.2.1, fun q (hq : q < aN a) => ⟨by rw [up_i (by omega)]; exact (h2'.2.2 q hq).1, ?_⟩⟩
      show (up s1 71 (8 + f) (nI g)).1 71 (0 + 8 + q) = nI (va_up (cK (aC a)) f g q)
      by_cases hqf : q = f
      · subst hqf; rw [show 0 + 8 + q = 8 + q by omega, up_s]; simp [va_up]
      · rw [up_i (by omega)]; simp only [va_up, if_neg hqf]; exact (h2'.2.2 q hq).2
    · exact mH.ex (a := sCH a _ _) (e3 _) (by rw [up_c (by decide)]) (Ex.u1 (k := 71)) (fun k hk => by omega)
/-! ===== undo ===== -/
theorem op_undo : ∀ a, okA a → Op2 (M_X6_undo) (M_X7_undo) a := by
  intro a ok
  have hn := ok.1
  match hH : aH a with
  | [] =>
    refine ⟨a, -2, 0, ok, opX_read fun s hx => ⟨s, ?_, Sx.rf, FrX.rf, rfl⟩, opM_read fun s hx => ⟨s, ?_, Sm.rf, FrM.rf, rfl⟩⟩
    · obtain ⟨p, hp, h1, h2, h3⟩ := hx.2.2.1
      unfold M_X6_undo
      rw [h2, hH]; rfl
    · unfold M_X7_undo
      rw [hx.2.2.1.1, hH]; rfl
  | c :: t =>
    have okc : okSc (aN a) c := ok.2.2.2.1.2 c (by rw [hH]; exact List.mem_cons_self)
    have hlen : (aH a).length = t.length + 1 := by rw [hH]; rfl
    have hl10 := ok.2.2.2.1.1
    refine ⟨sCH a c t, nI t.length, 0, okA_sCH ok okc (by omega) (fun d hd => ok.2.2.2.1.2 d (by rw [hH]; exact List.mem_cons_of_mem _ hd)), ?_, ?_⟩
    · intro s hx
      obtain ⟨h1, h2, h3, h4, h5, h6⟩ := hx
      obtain ⟨s1, e1, e2, e3, e4, e5⟩ := pop_x hn hl10 h3 hH
      refine ⟨s1, ?_, ⟨xN.ex (a := a) h1 e2 (fun k hk => by omega), e4, e3, xI.ex (a := a) h4 e2 (fun k hk => by omega), xT.ex (a := a) h5 e2 (fun k hk => by omega), xX.ex (a := a) h6 e2 (fun k hk => by omega)⟩, e2.frx (fun k hk => by omega), by rw [e2.2, Int64.add_zero]⟩
      obtain ⟨p, hp, g1, g2, g3⟩ := h3
      unfold M_X6_undo
      rw [g2, nl_0, i_eq_f (by omega) (by omega) (by decide), e1, cl_some, e5]
    · intro s hx
      obtain ⟨h1, h2, h3, h4, h5, h6⟩ := hx
      obtain ⟨s1, e1, e2, e3, e4, e5⟩ := cp7 (k0 := 71) (k2 := 72) (o1 := 0) (o3 := 14 * t.length) (by decide) (by rw [ln_71]; omega) (by rw [ln_72]; omega) (by rw [ln_71]; omega) (by rw [ln_72]; omega) (up s 67 6 (nI t.length))
      have e9 : Ex (fun q => q = 67 ∨ q = 71) s s1 := (Ex.u2 (k := 67) (by omega)).tr1 (e2.mono (fun q hq => by omega))
      have f9 : ∀ i, i ≠ 6 → s1.1 67 i = s.1 67 i := fun i hi => by rw [e2.1 67 (by omega), up_i hi]
      have f6 : s1.1 67 6 = nI t.length := by rw [e2.1 67 (by omega), up_s]
      refine ⟨s1, ?_, ⟨mN.ex (a := a) h1 (f9 0 (by decide)) e9 (fun k hk => by omega), ?_, ⟨f6, fun i d hi => ?_⟩, mI.ex (a := a) h4 e9 (fun k hk => by omega), mT.ex (a := a) h5 (f9 9 (by decide)) e9 (fun k hk => by omega), mX.ex (a := a) h6 (f9 13 (by decide)) e9 (fun k hk => by omega)⟩, e9.frm (fun k hk => by omega), by rw [e9.2, Int64.add_zero]⟩
      · unfold M_X7_undo
        rw [h3.1, nl_0, i_eq_f (by omega) (by omega) (by decide), hlen]
        simp only [pu]
        rw [nl_1, nS (by omega), show t.length + 1 - 1 = t.length by omega, up_s, nl_14, nM, e1, cl_some, f6]
      · refine e5 _ _ hn ?_
        have h4 := h3.2 0 c (by rw [hH]; rfl)
        rw [hlen, show 14 * (t.length + 1 - 1 - 0) = 14 * t.length by omega] at h4
        exact h4.ex (Ex.u1 (k := 67)) (by omega)
      · have hi2 : t[i]? = some d := hi
        have h4 := h3.2 (i + 1) d (by rw [hH]; simpa using hi2)
        rw [hlen] at h4
        show stAt s1 72 (14 * (t.length - 1 - i)) (aN a) d
        rw [show t.length - 1 - i = t.length + 1 - 1 - (i + 1) by omega]
        exact h4.ex e9 (by omega)
/-! ===== keep, back ===== -/
theorem nar1 : vp_nar .boolean (1 : Int32) = 1 := rfl
theorem nar0 : vp_nar .boolean (0 : Int32) = 0 := rfl
theorem op_keep (x1 : Int32) : ∀ a, okA a → Op2 (M_X6_keep x1) (M_X7_keep x1) a := by
  intro a ok
  have hn := ok.1
  rcases in_cases x1 (m := 1) (by decide) with h | ⟨i, hi, rfl⟩
  · refine op2_same ok (-1) (fun s => ?_) (fun s => ?_)
    · unfold M_X6_keep
      rw [show (1 : Int32) = nI 1 from rfl, wi_0 h]; rfl
    · unfold M_X7_keep
      rw [show (1 : Int32) = nI 1 from rfl, in_0 h]; rfl
  refine ⟨sI a (va_up (aI a) i (some (aC a))), nI (cD (aC a)), 0, ?_, ?_, ?_⟩
  · refine ⟨ok.1, ok.2.1, ok.2.2.1, ok.2.2.2.1, fun j c hc => ?_, ok.2.2.2.2.2⟩
    have hc : va_up (aI a) i (some (aC a)) j = some c := hc
    unfold va_up at hc
    split at hc
    · cases hc; exact ok.2.2.1
    · exact ok.2.2.2.2.1 j c hc
  · intro s hx
    obtain ⟨h1, h2, h3, h4, h5, h6⟩ := hx
    obtain ⟨s1, e1, e2, e3⟩ := cp3 (k := 53 + 1 + 3 * i) (k1 := 15) (by omega) s
    have e9 : Ex (fun q => 54 ≤ q ∧ q ≤ 60) s (up s1 60 i 1) := (e2.mono (fun q hq => by omega)).tr1 (Ex.u2 (by omega))
    have h2' := h2.ex e9 (fun j hj => by omega)
    refine ⟨up s1 60 i 1, ?_, ⟨xN.ex (a := a) h1 e9 (fun k hk => by omega), h2', xH.ex (a := a) h3 e9 (fun k hk => by omega), fun j hj => ⟨?_, fun c hc => ?_⟩, xT.ex (a := a) h5 e9 (fun k hk => by omega), xX.ex (a := a) h6 e9 (fun k hk => by omega)⟩, e9.frx (fun k hk => by omega), by rw [e9.2, Int64.add_zero]⟩
    · unfold M_X6_keep
      rw [show M_X6_within (nI i) 0 1 s = M_X6_within (nI i) 0 (nI 1) s from rfl, wi_1 hi (by decide), cl_some, if_neg (by decide), ra_nI (by omega) (by decide), e1, cl_some, nar1, wr_nI (by omega) (by decide), h2'.1]
    · show (up s1 60 i 1).1 60 j = if (va_up (aI a) i (some (aC a)) j).isSome then 1 else 0
      by_cases hji : j = i
      · subst hji; rw [up_s]; simp [va_up]
      · rw [up_i hji]; simp only [va_up, if_neg hji]
        rw [e2.1 60 (by omega)]; exact (h4 j hj).1
    · have hc : va_up (aI a) i (some (aC a)) j = some c := hc
      show scAt (up s1 60 i 1) (54 + 3 * j) (aN a) c
      refine scAt.ex ?_ (Ex.u1 (k := 60)) (fun q hq => by omega)
      by_cases hji : j = i
      · subst hji
        simp [va_up] at hc
        subst hc
        exact e3 _ _ hn h2
      · simp only [va_up, if_neg hji] at hc
        exact ((h4 j hj).2 c hc).ex e2 (fun q hq => by omega)
  · intro s hx
    obtain ⟨h1, h2, h3, h4, h5, h6⟩ := hx
    obtain ⟨s1, e1, e2, e3, e4, e5⟩ := cp7 (k0 := 73) (k2 := 71) (o1 := 14 * i) (o3 := 0) (by decide) (by rw [ln_73]; omega) (by rw [ln_71]; omega) (by rw [ln_73]; omega) (by rw [ln_71]; omega) s
    have e9 : Ex (fun q => q = 73 ∨ q = 74) s (up s1 74 i 1) := (e2.mono (fun q hq => by omega)).tr1 (Ex.u2 (by omega))
    have f9 : (up s1 74 i 1).1 67 = s.1 67 := e9.1 67 (by omega)
    have h2' := h2.ex e9 (by omega)
    refine ⟨up s1 74 i 1, ?_, ⟨mN.ex (a := a) h1 (by rw [f9]) e9 (fun k hk => by omega), h2', mH.ex (a := a) h3 (by rw [f9]) e9 (fun k hk => by omega), fun j hj => ⟨?_, fun c hc => ?_⟩, mT.ex (a := a) h5 (by rw [f9]) e9 (fun k hk => by omega), mX.ex (a := a) h6 (by rw [f9]) e9 (fun k hk => by omega)⟩, e9.frm (fun k hk => by omega), by rw [e9.2, Int64.add_zero]⟩
    · unfold M_X7_keep
      rw [show M_X7_in (nI i) 0 1 s = M_X7_in (nI i) 0 (nI 1) s from rfl, in_1 hi (by decide), cl_some, if_neg (by decide), nl_14, nM, show (0 : Int32) = nI 0 from rfl, e1, cl_some, nar1, wr_nI (by omega) (by decide), rd_nI (by decide) (by decide), h2'.1]
    · show (up s1 74 i 1).1 74 j = if (va_up (aI a) i (some (aC a)) j).isSome then 1 else 0
      by_cases hji : j = i
      · subst hji; rw [up_s]; simp [va_up]
      · rw [up_i hji]; simp only [va_up, if_neg hji]
        rw [e2.1 74 (by omega)]; exact (h4 j hj).1
    · have hc : va_up (aI a) i (some (aC a)) j = some c := hc
      show stAt (up s1 74 i 1) 73 (14 * j) (aN a) c
      refine stAt.ex (P := fun q => q = 74) ?_ Ex.u1 (by omega)
      by_cases hji : j = i
      · subst hji
        simp [va_up] at hc
        subst hc
        exact e5 _ _ hn h2
      · simp only [va_up, if_neg hji] at hc
        obtain ⟨q1, q2, q3⟩ := (h4 j hj).2 c hc
        refine ⟨?_, ?_, fun f hf => ⟨?_, ?_⟩⟩
        · rw [e4 _ (by omega)]; exact q1
        · rw [e4 _ (by omega)]; exact q2
        · rw [e4 _ (by omega)]; exact (q3 f hf).1
        · rw [e4 _ (by omega)]; exact (q3 f hf).2
theorem op_back (x1 : Int32) : ∀ a, okA a → Op2 (M_X6_back x1) (M_X7_back x1) a := by
  intro a ok
  have hn := ok.1
  rcases in_cases x1 (m := 1) (by decide) with h | ⟨i, hi, rfl⟩
  · refine op2_same ok (-1) (fun s => ?_) (fun s => ?_)
    · unfold M_X6_back
      rw [show (1 : Int32) = nI 1 from rfl, wi_0 h]; rfl
    · unfold M_X7_back
      rw [show (1 : Int32) = nI 1 from rfl, in_0 h]; rfl
  match hc : aI a i with
  | none =>
    refine ⟨a, -2, 0, ok, opX_read fun s hx => ⟨s, ?_, Sx.rf, FrX.rf, rfl⟩, opM_read fun s hx => ⟨s, ?_, Sm.rf, FrM.rf, rfl⟩⟩
    · have := (hx.2.2.2.1 i (by omega)).1
      rw [hc] at this
      unfold M_X6_back
      rw [show M_X6_within (nI i) 0 1 s = M_X6_within (nI i) 0 (nI 1) s from rfl, wi_1 hi (by decide), cl_some, if_neg (by decide), rd_nI (by omega) (by decide), this]; rfl
    · have := (hx.2.2.2.1 i (by omega)).1
      rw [hc] at this
      unfold M_X7_back
      rw [show M_X7_in (nI i) 0 1 s = M_X7_in (nI i) 0 (nI 1) s from rfl, in_1 hi (by decide), cl_some, if_neg (by decide), rd_nI (by omega) (by decide), this]; rfl
  | some c =>
    refine ⟨sCH a c [], nI (cD c), 0, okA_sCH ok (ok.2.2.2.2.1 i c hc) (by decide) (fun d hd => absurd hd List.not_mem_nil), ?_, ?_⟩
    · intro s hx
      obtain ⟨h1, h2, h3, h4, h5, h6⟩ := hx
      obtain ⟨s1, e1, e2, e3⟩ := cp3 (k := 15) (k1 := 53 + 1 + 3 * i) (by omega) s
      have e9 : Ex (fun q => q = 21 ∨ (15 ≤ q ∧ q ≤ 17)) s (up s1 21 2 0) := (e2.mono (fun q hq => by omega)).tr1 (Ex.u2 (by omega))
      have h2' : scAt (up s1 21 2 0) 15 (aN a) c := (e3 _ _ hn ((h4 i (by omega)).2 c hc)).ex (Ex.u1 (k := 21)) (fun q hq => by omega)
      obtain ⟨p, hp, g1, g2, g3⟩ := h3
      refine ⟨up s1 21 2 0, ?_, ⟨xN.ex (a := a) h1 e9 (fun k hk => by omega), h2', ⟨p, hp, ?_, up_s, fun j d hj => (by simp [aH, sCH] at hj)⟩, xI.ex (a := a) h4 e9 (fun k hk => by omega), xT.ex (a := a) h5 e9 (fun k hk => by omega), xX.ex (a := a) h6 e9 (fun k hk => by omega)⟩, e9.frx (fun k hk => by omega), by rw [e9.2, Int64.add_zero]⟩
      · have this : s.1 60 i = 1 := by have := (h4 i (by omega)).1; rw [hc] at this; exact this
        unfold M_X6_back
        rw [show M_X6_within (nI i) 0 1 s = M_X6_within (nI i) 0 (nI 1) s from rfl, wi_1 hi (by decide), cl_some, if_neg (by decide), rd_nI (by omega) (by decide), this, if_neg (by decide), ra_nI (by omega) (by decide), e1, cl_some]
        simp only [pu]
        rw [h2'.1]
      · rw [up_i (by decide), e2.1 21 (by omega)]; exact g1
    · intro s hx
      obtain ⟨h1, h2, h3, h4, h5, h6⟩ := hx
      obtain ⟨s1, e1, e2, e3, e4, e5⟩ := cp7 (k0 := 71) (k2 := 73) (o1 := 0) (o3 := 14 * i) (by decide) (by rw [ln_71]; omega) (by rw [ln_73]; omega) (by rw [ln_71]; omega) (by rw [ln_73]; omega) s
      have e9 : Ex (fun q => q = 67 ∨ q = 71) s (up s1 67 6 0) := (e2.mono (fun q hq => by omega)).tr1 (Ex.u2 (by omega))
      have f9 : ∀ j, j ≠ 6 → (up s1 67 6 0).1 67 j = s.1 67 j := fun j hj => by rw [up_i hj, e2.1 67 (by omega)]
      have h2' : stAt (up s1 67 6 0) 71 0 (aN a) c := (e5 _ _ hn ((h4 i (by omega)).2 c hc)).ex (Ex.u1 (k := 67)) (by omega)
      refine ⟨up s1 67 6 0, ?_, ⟨mN.ex (a := a) h1 (f9 0 (by decide)) e9 (fun k hk => by omega), h2', ⟨up_s, fun j d hj => (by simp [aH, sCH] at hj)⟩, mI.ex (a := a) h4 e9 (fun k hk => by omega), mT.ex (a := a) h5 (f9 9 (by decide)) e9 (fun k hk => by omega), mX.ex (a := a) h6 (f9 13 (by decide)) e9 (fun k hk => by omega)⟩, e9.frm (fun k hk => by omega), by rw [e9.2, Int64.add_zero]⟩
      have this : s.1 74 i = 1 := by have := (h4 i (by omega)).1; rw [hc] at this; exact this
      unfold M_X7_back
      rw [show M_X7_in (nI i) 0 1 s = M_X7_in (nI i) 0 (nI 1) s from rfl, in_1 hi (by decide), cl_some, if_neg (by decide), rd_nI (by omega) (by decide), this, if_neg (by decide), nl_14, nM, show (0 : Int32) = nI 0 from rfl, e1, cl_some]
      simp only [pu]
      rw [rd_nI (by decide) (by decide)]
      have := h2'.1
      exact congrArg (fun v => some (v, up s1 67 6 0)) this
