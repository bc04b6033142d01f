theorem op2_rd2 {f g : St → Option (Int32 × St)} {a : Ab} (ok : okA a) (r : Int32) (hf : ∀ s, Rx a s → ∃ s', f s = some (r, s') ∧ Ex (fun q => 18 ≤ q ∧ q ≤ 20) s s') (hg : ∀ s, Rm a s → ∃ s', g s = some (r, s') ∧ Ex (fun q => q = 67 ∨ q = 78) s s' ∧ ∀ i, i ≠ 23 → s'.1 67 i = s.1 67 i) : Op2 f g a := by
  refine ⟨a, r, 0, ok, opX_read fun s hx => ?_, opM_read fun s hx => ?_⟩
  · obtain ⟨s', h1, h2⟩ := hf s hx
    exact ⟨s', h1, h2.sx (fun k hk => by unfold rx; omega), h2.frx (fun k hk => by omega), by rw [h2.2]⟩
  · obtain ⟨s', h1, h2, h3⟩ := hg s hx
    exact ⟨s', h1, h2.sm h3, h2.frm (fun k hk => by omega), by rw [h2.2]⟩
/-- nothing is written at all -/
theorem op2_rd {f g : St → Option (Int32 × St)} {a : Ab} (ok : okA a) (r : Int32) (hf : ∀ s, Rx a s → f s = some (r, s)) (hg : ∀ s, Rm a s → g s = some (r, s)) : Op2 f g a :=
  op2_rd2 ok r (fun s hx => ⟨s, hf s hx, Ex.rf⟩) (fun s hx => ⟨s, hg s hx, Ex.rf, fun _ _ => rfl⟩)
theorem st8 {s : St} {n : Nat} {c : Sc} (h : stAt s 71 0 n c) {f : Nat} (hf : f < n) : s.1 71 (8 + f) = nI (cK c f) := by have := (h.2.2 f hf).2; rwa [show 0 + 8 + f = 8 + f by omega] at this
theorem st2 {s : St} {n : Nat} {c : Sc} (h : stAt s 71 0 n c) {f : Nat} (hf : f < n) : s.1 71 (2 + f) = nI (cL c f) := by have := (h.2.2 f hf).1; rwa [show 0 + 2 + f = 2 + f by omega] at this
theorem op_farmer (x1 x2 : Int32) : ∀ a, okA a → Op2 (M_X6_farmer x1 x2) (M_X7_farmer x1 x2) a := by
  intro a ok
  have hn := ok.1
  rcases pk_ix x1 (n := aN a) (by omega) with h | h | ⟨f, hf, rfl⟩
  · exact op2_rd ok (-1) (fun s hx => by unfold M_X6_farmer; rw [has_x0 hx.1.1 (Or.inl h)]; rfl) (fun s hx => by unfold M_X7_farmer; rw [isF_0 hx.1.1 hn (Or.inl h)]; rfl)
  · exact op2_rd ok (-1) (fun s hx => by unfold M_X6_farmer; rw [has_x0 hx.1.1 (Or.inr h)]; rfl) (fun s hx => by unfold M_X7_farmer; rw [isF_0 hx.1.1 hn (Or.inr h)]; rfl)
  have hA := ok.2.2.1.2.1
  have hA6 : cA (aC a) < 64 := Nat.lt_of_lt_of_le hA (pow6 hn)
  have hX : ∀ s, Rx a s → M_X1_has 9 (nI f) s = some (1, s) := fun s hx => has_x1 hx.1.1 hf hn
  have hM : ∀ s, Rm a s → M_X7_isFarmer (nI f) s = some (1, s) := fun s hx => isF_1 hx.1.1 hf hn
  by_cases e0 : x2 = 0
  · subst e0
    refine op2_rd ok (nI (aF a f)) (fun s hx => ?_) (fun s hx => ?_)
    · unfold M_X6_farmer
      rw [hX s hx, cl_some, if_neg (by decide), if_pos rfl, rd_nI (by omega) (by decide), (hx.1.2 f hf).1]
    · unfold M_X7_farmer
      rw [hM s hx, cl_some, if_neg (by decide), if_pos rfl, rd_nI (by omega) (by decide), (hx.1.2 f hf).1]
  by_cases e1 : x2 = 1
  · subst e1
    refine op2_rd ok (nI (cL (aC a) f)) (fun s hx => ?_) (fun s hx => ?_)
    · unfold M_X6_farmer
      rw [hX s hx, cl_some, if_neg (by decide), if_neg e0, if_pos rfl, rd_nI (by omega) (by decide), (hx.2.1.2.2 f hf).1]
    · unfold M_X7_farmer
      rw [hM s hx, cl_some, if_neg (by decide), if_neg e0, if_pos rfl, nl_2, nP, rd_nI (by omega) (by decide), st2 hx.2.1 hf]
  by_cases e2 : x2 = 2
  · subst e2
    refine op2_rd ok (nI (aS a f)) (fun s hx => ?_) (fun s hx => ?_)
    · unfold M_X6_farmer
      rw [hX s hx, cl_some, if_neg (by decide), if_neg e0, if_neg e1, if_pos rfl, rd_nI (by omega) (by decide), (hx.1.2 f hf).2.1]
    · unfold M_X7_farmer
      rw [hM s hx, cl_some, if_neg (by decide), if_neg e0, if_neg e1, if_pos rfl, rd_nI (by omega) (by decide), (hx.1.2 f hf).2.1]
  by_cases e3 : x2 = 3
  · subst e3
    refine op2_rd ok (nI (aV a f)) (fun s hx => ?_) (fun s hx => ?_)
    · unfold M_X6_farmer
      rw [hX s hx, cl_some, if_neg (by decide), if_neg e0, if_neg e1, if_neg e2, if_pos rfl, rd_nI (by omega) (by decide), (hx.1.2 f hf).2.2]
    · unfold M_X7_farmer
      rw [hM s hx, cl_some, if_neg (by decide), if_neg e0, if_neg e1, if_neg e2, if_pos rfl, rd_nI (by omega) (by decide), (hx.1.2 f hf).2.2]
  by_cases e4 : x2 = 4
  · subst e4
    refine op2_rd ok (nI (cK (aC a) f)) (fun s hx => ?_) (fun s hx => ?_)
    · unfold M_X6_farmer
      rw [hX s hx, cl_some, if_neg (by decide), if_neg e0, if_neg e1, if_neg e2, if_neg e3, if_pos rfl, rd_nI (by omega) (by decide), (hx.2.1.2.2 f hf).2]
    · unfold M_X7_farmer
      rw [hM s hx, cl_some, if_neg (by decide), if_neg e0, if_neg e1, if_neg e2, if_neg e3, if_pos rfl, nl_8, nP, rd_nI (by omega) (by decide), st8 hx.2.1 hf]
  by_cases e5 : x2 = 5
  · subst e5
    refine op2_rd ok (nI (if (cA (aC a)).testBit f then 1 else 0)) (fun s hx => ?_) (fun s hx => ?_)
    · unfold M_X6_farmer
      rw [hX s hx, cl_some, if_neg (by decide), if_neg e0, if_neg e1, if_neg e2, if_neg e3, if_neg e4, if_pos rfl, asked_x hx.2.1.2.1 hA6 (by omega), cl_some]
      by_cases hb : (cA (aC a)).testBit f = true
      · rw [if_pos hb, if_neg (by decide)]; rfl
      · rw [if_neg hb, if_pos (by rfl)]; rfl
    · unfold M_X7_farmer
      rw [hM s hx, cl_some, if_neg (by decide), if_neg e0, if_neg e1, if_neg e2, if_neg e3, if_neg e4, if_pos rfl, show rd s 71 14 1 = rd s 71 14 (nI 1) (α := Int32 × St) from rfl, rd_nI (by decide) (by decide), hx.2.1.2.1, bt_at _ (by omega) _ (by omega)]
  by_cases e6 : x2 = 6
  · subst e6
    refine op2_rd ok (nI (hw (aN a) (cK (aC a)) f)) (fun s hx => ?_) (fun s hx => ?_)
    · unfold M_X6_farmer
      rw [hX s hx, cl_some, if_neg (by decide), if_neg e0, if_neg e1, if_neg e2, if_neg e3, if_neg e4, if_neg e5, if_pos rfl, hungWith ok (by omega) hx.1 hx.2.1, cl_some]
    · unfold M_X7_farmer
      rw [hM s hx, cl_some, if_neg (by decide), if_neg e0, if_neg e1, if_neg e2, if_neg e3, if_neg e4, if_neg e5, if_pos rfl, hangWith ok (by omega) hx.1 hx.2.1, cl_some]
  by_cases e7 : x2 = 7
  · subst e7
    refine op2_rd ok (nI (rg (cK (aC a)) f (aN a) (cK (aC a) f) 1)) (fun s hx => ?_) (fun s hx => ?_)
    · unfold M_X6_farmer
      rw [hX s hx, cl_some, if_neg (by decide), if_neg e0, if_neg e1, if_neg e2, if_neg e3, if_neg e4, if_neg e5, if_neg e6, if_pos rfl, ringOf ok hf hx.1 hx.2.1, cl_some]
    · unfold M_X7_farmer
      rw [hM s hx, cl_some, if_neg (by decide), if_neg e0, if_neg e1, if_neg e2, if_neg e3, if_neg e4, if_neg e5, if_neg e6, if_pos rfl, ringM ok hf hx.1 hx.2.1, cl_some]
  by_cases e8 : x2 = 8
  · subst e8
    refine op2_rd2 ok (dta (aN a) (aS a) (aV a) f 61 0 (cA (aC a)) (cD (aC a))) (fun s hx => ?_) (fun s hx => ?_)
    · refine ⟨s, ?_, Ex.rf⟩
      unfold M_X6_farmer M_X6_daysTillAsked
      have := dta_x ok (f := f) (by omega) ok.2.2.1.1 hx.1 hx.2.1.1 400 0 (cA (aC a)) hA (by omega) (by omega)
      rw [hX s hx, cl_some, if_neg (by decide), if_neg e0, if_neg e1, if_neg e2, if_neg e3, if_neg e4, if_neg e5, if_neg e6, if_neg e7, if_pos rfl, hx.2.1.2.1, nl_0, this, cl_some]; rfl
    · obtain ⟨s1, f1, f2, f3⟩ := asIt ok hx.2.1
      obtain ⟨s2, g1, g2, g3⟩ := dta_m ok (f := f) (by omega) 400 0 (aC a) s1 (hx.1.ex (by rw [f2.1 67 (by omega)]) f2 (fun k hk => by omega)) f3 ok.2.2.1.wf (by have := ok.2.2.1.1; omega) (by omega) (by omega)
      refine ⟨s2, ?_, (f2.mono (fun q hq => by omega)).tr1 g2, fun i hi => by rw [g3 i hi, f2.1 67 (by omega)]⟩
      unfold M_X7_farmer M_X7_daysTillAsked
      rw [hM s hx, cl_some, if_neg (by decide), if_neg e0, if_neg e1, if_neg e2, if_neg e3, if_neg e4, if_neg e5, if_neg e6, if_neg e7, if_pos rfl, f1, cl_some, nl_0, g1, cl_some]
  by_cases e9 : x2 = 9
  · subst e9
    refine op2_rd2 ok (dtm (aN a) (aS a) (aV a) (fun lf => decide (lf f = 0)) 61 0 (aC a)) (fun s hx => ?_) (fun s hx => ?_)
    · obtain ⟨s1, g1, g2⟩ := days_x ok (who := 2 ^ f) (by have : 2 ^ f ≤ 2 ^ 6 := Nat.pow_le_pow_right (by decide) (by omega); omega) hx
      refine ⟨s1, ?_, g2⟩
      rw [dtm_congr 61 0 (aC a) ok.2.2.1.wf (by have := ok.2.2.1.1; omega) (fun lf _ => all_one hf)] at g1
      unfold M_X6_farmer
      rw [hX s hx, cl_some, if_neg (by decide), if_neg e0, if_neg e1, if_neg e2, if_neg e3, if_neg e4, if_neg e5, if_neg e6, if_neg e7, if_neg e8, if_pos rfl, bt_sh f (by omega), g1, cl_some]
    · obtain ⟨s1, g1, g2, g3⟩ := days_m ok (Or.inr ⟨f, hf, rfl, fun _ => rfl⟩) hx.1 hx.2.1
      refine ⟨s1, ?_, g2, g3⟩
      unfold M_X7_farmer
      rw [hM s hx, cl_some, if_neg (by decide), if_neg e0, if_neg e1, if_neg e2, if_neg e3, if_neg e4, if_neg e5, if_neg e6, if_neg e7, if_neg e8, if_pos rfl, g1, cl_some]
  refine op2_rd ok (-1) (fun s hx => ?_) (fun s hx => ?_)
  · unfold M_X6_farmer
    rw [hX s hx, cl_some, if_neg (by decide), if_neg e0, if_neg e1, if_neg e2, if_neg e3, if_neg e4, if_neg e5, if_neg e6, if_neg e7, if_neg e8, if_neg e9]
  · unfold M_X7_farmer
    rw [hM s hx, cl_some, if_neg (by decide), if_neg e0, if_neg e1, if_neg e2, if_neg e3, if_neg e4, if_neg e5, if_neg e6, if_neg e7, if_neg e8, if_neg e9]
theorem op_now (x1 : Int32) : ∀ a, okA a → Op2 (M_X6_now x1) (M_X7_now x1) a := by
  intro a ok
  have hn := ok.1
  have hmono : ∀ {s s' : St}, Ex (fun q => q = 78) s s' → Ex (fun q => q = 67 ∨ q = 78) s s' := fun e => e.mono (fun q hq => by omega)
  by_cases e0 : x1 = 0
  · subst e0
    refine op2_rd2 ok (nI (cD (aC a))) (fun s hx => ⟨s, ?_, Ex.rf⟩) (fun s hx => ?_)
    · unfold M_X6_now
      rw [if_pos rfl, hx.2.1.1]
    · obtain ⟨s1, f1, f2, f3⟩ := asIt ok hx.2.1
      refine ⟨s1, ?_, hmono f2, fun i _ => by rw [f2.1 67 (by omega)]⟩
      unfold M_X7_now
      rw [f1, cl_some, if_pos rfl, show rd s1 71 14 0 = rd s1 71 14 (nI 0) (α := Int32 × St) from rfl, rd_nI (by decide) (by decide), f2.1 71 (by omega), hx.2.1.1]
  by_cases e1 : x1 = 1
  · subst e1
    refine op2_rd2 ok (nI (cA (aC a))) (fun s hx => ⟨s, ?_, Ex.rf⟩) (fun s hx => ?_)
    · unfold M_X6_now
      rw [if_neg e0, if_pos rfl, hx.2.1.2.1]
    · obtain ⟨s1, f1, f2, f3⟩ := asIt ok hx.2.1
      refine ⟨s1, ?_, hmono f2, fun i _ => by rw [f2.1 67 (by omega)]⟩
      unfold M_X7_now
      rw [f1, cl_some, if_neg e0, if_pos rfl, show rd s1 71 14 1 = rd s1 71 14 (nI 1) (α := Int32 × St) from rfl, rd_nI (by decide) (by decide), f2.1 71 (by omega), hx.2.1.2.1]
  by_cases e2 : x1 = 2
  · subst e2
    refine op2_rd2 ok (nI (smR (cL (aC a)) (aN a) 0 0)) (fun s hx => ⟨s, ?_, Ex.rf⟩) (fun s hx => ?_)
    · unfold M_X6_now M_X3_leftTogether
      have := left_x hn hx.1.1 (fun g hg => (hx.2.1.2.2 g hg).1) (kk := fun v2 s3 => some (v2, s3)) 400 0 0 (by omega) (by omega)
      rw [if_neg e0, if_neg e1, if_pos rfl, nl_0, this, cl_some]; rfl
    · obtain ⟨s1, f1, f2, f3⟩ := asIt ok hx.2.1
      refine ⟨s1, ?_, hmono f2, fun i _ => by rw [f2.1 67 (by omega)]⟩
      have := left_m hn (s := s1) (by rw [f2.1 67 (by omega)]; exact hx.1.1) (lf := cL (aC a)) (fun g hg => by have := (f3.2.2 g hg).1; rwa [show 0 + 2 + g = 2 + g by omega] at this) (kk := fun v2 s3 => some (v2, s3)) 400 0 0 (by omega) (by omega)
      unfold M_X7_now M_X7_leftAll
      rw [f1, cl_some, if_neg e0, if_neg e1, if_pos rfl, nl_0, this, cl_some]; rfl
  by_cases e3 : x1 = 3
  · subst e3
    refine op2_rd2 ok (dtm (aN a) (aS a) (aV a) (fun lf => decide (smR lf (aN a) 0 0 = 0)) 61 0 (aC a)) (fun s hx => ?_) (fun s hx => ?_)
    · obtain ⟨s1, g1, g2⟩ := days_x ok (who := 2 ^ aN a - 1) (by have := pow6 hn; omega) hx
      refine ⟨s1, ?_, g2⟩
      rw [dtm_congr (q := fun lf => decide (smR lf (aN a) 0 0 = 0)) 61 0 (aC a) ok.2.2.1.wf (by have := ok.2.2.1.1; omega) (fun lf _ => by
        have := smR_all (lf := lf) hn (aN a) 0 0 (by omega)
        rw [Bool.eq_iff_iff, decide_eq_true_iff, this]
        exact ⟨fun q => ⟨rfl, q⟩, fun q => q.2⟩)] at g1
      unfold M_X6_now M_X1_everyone
      rw [if_neg e0, if_neg e1, if_neg e2, if_pos rfl, hx.1.1, bt_sh _ (by omega), cl_some, nl_1, nS (Nat.two_pow_pos _), g1, cl_some]
    · obtain ⟨s1, f1, f2, f3⟩ := asIt ok hx.2.1
      obtain ⟨s2, g1, g2, g3⟩ := days_m ok (x := -1) (s := s1) (Or.inl ⟨by decide, fun _ => rfl⟩) (hx.1.ex (by rw [f2.1 67 (by omega)]) f2 (fun k hk => by omega)) (hx.2.1.ex f2 (by omega))
      refine ⟨s2, ?_, (hmono f2).tr1 g2, fun i hi => by rw [g3 i hi, f2.1 67 (by omega)]⟩
      unfold M_X7_now
      rw [f1, cl_some, if_neg e0, if_neg e1, if_neg e2, if_pos rfl, g1, cl_some]
  by_cases e4 : x1 = 4
  · subst e4
    refine op2_rd2 ok (nI (aH a).length) (fun s hx => ⟨s, ?_, Ex.rf⟩) (fun s hx => ?_)
    · obtain ⟨p, hp, h1, h2, h3⟩ := hx.2.2.1
      unfold M_X6_now
      rw [if_neg e0, if_neg e1, if_neg e2, if_neg e3, if_pos rfl, h2]
    · obtain ⟨s1, f1, f2, f3⟩ := asIt ok hx.2.1
      refine ⟨s1, ?_, hmono f2, fun i _ => by rw [f2.1 67 (by omega)]⟩
      unfold M_X7_now
      rw [f1, cl_some, if_neg e0, if_neg e1, if_neg e2, if_neg e3, if_pos rfl, f2.1 67 (by omega), hx.2.2.1.1]
  refine op2_rd2 ok (-1) (fun s hx => ⟨s, ?_, Ex.rf⟩) (fun s hx => ?_)
  · unfold M_X6_now
    rw [if_neg e0, if_neg e1, if_neg e2, if_neg e3, if_neg e4]
  · obtain ⟨s1, f1, f2, f3⟩ := asIt ok hx.2.1
    refine ⟨s1, ?_, hmono f2, fun i _ => by rw [f2.1 67 (by omega)]⟩
    unfold M_X7_now
    rw [f1, cl_some, if_neg e0, if_neg e1, if_neg e2, if_neg e3, if_neg e4]
