/-! ===== frames ===== -/
def Ex (P : Nat → Prop) (s s' : St) : Prop := (∀ k, ¬ P k → s'.1 k = s.1 k) ∧ s'.2 = s.2
theorem Ex.rf {P : Nat → Prop} {s : St} : Ex P s s := ⟨fun _ _ => rfl, rfl⟩
theorem Ex.u1 {s : St} {k i : Nat} {v : Int32} : Ex (fun j => j = k) s (up s k i v) := ⟨fun j hj => up_c hj, rfl⟩
theorem Ex.tr {P Q : Nat → Prop} {s t u : St} (h : Ex P s t) (h2 : Ex Q t u) : Ex (fun k => P k ∨ Q k) s u := ⟨fun k hk => (h2.1 k (fun q => hk (Or.inr q))).trans (h.1 k (fun q => hk (Or.inl q))), h2.2.trans h.2⟩
theorem Ex.tr1 {P : Nat → Prop} {s t u : St} (h : Ex P s t) (h2 : Ex P t u) : Ex P s u := ⟨fun k hk => (h2.1 k hk).trans (h.1 k hk), h2.2.trans h.2⟩
theorem Ex.mono {P Q : Nat → Prop} {s t : St} (h : Ex P s t) (hp : ∀ k, P k → Q k) : Ex Q s t := ⟨fun k hk => h.1 k (fun q => hk (hp k q)), h.2⟩
theorem Ex.u2 {P : Nat → Prop} {s : St} {k i : Nat} {v : Int32} (h : P k) : Ex P s (up s k i v) := Ex.u1.mono (fun j hj => by rw [hj]; exact h)
section
variable {P : Nat → Prop} {a : Ab} {s s' : St}
theorem xN.ex (h : xN a s) (e : Ex P s s') (p : ∀ k, P k → k ≠ 9 ∧ k ≠ 10 ∧ k ≠ 12 ∧ k ≠ 13) : xN a s' := by
  unfold xN at *
  rw [e.1 9 (fun q => (p _ q).1 rfl), e.1 10 (fun q => (p _ q).2.1 rfl), e.1 12 (fun q => (p _ q).2.2.1 rfl), e.1 13 (fun q => (p _ q).2.2.2 rfl)]; exact h
theorem scAt.ex {k n : Nat} {c : Sc} (h : scAt s k n c) (e : Ex P s s') (p : ∀ j, P j → j ≠ k ∧ j ≠ k + 1 ∧ j ≠ k + 2) : scAt s' k n c :=
  h.same (e.1 _ (fun q => (p _ q).1 rfl)) (e.1 _ (fun q => (p _ q).2.1 rfl)) (e.1 _ (fun q => (p _ q).2.2 rfl))
theorem xH.ex (h : xH a s) (e : Ex P s s') (p : ∀ k, P k → k ≠ 21 ∧ (k < 23 ∨ 52 < k)) : xH a s' := by
  obtain ⟨q, hq, h1, h2, h3⟩ := h
  refine ⟨q, hq, ?_, ?_, fun i c hi => ?_⟩
  · rw [e.1 21 (fun q => (p _ q).1 rfl)]; exact h1
  · rw [e.1 21 (fun q => (p _ q).1 rfl)]; exact h2
  · have hm : (q + 9 - i) % 10 < 10 := Nat.mod_lt _ (by decide)
    exact (h3 i c hi).ex e (fun j hj => by have := (p j hj).2; omega)
theorem xI.ex (h : xI a s) (e : Ex P s s') (p : ∀ k, P k → k < 54 ∨ 60 < k) : xI a s' := by
  intro i hi
  obtain ⟨h1, h2⟩ := h i hi
  refine ⟨?_, fun c hc => (h2 c hc).ex e (fun j hj => by have := p j hj; omega)⟩
  rw [e.1 60 (fun q => by have := p _ q; omega)]; exact h1
theorem xT.ex (h : xT a s) (e : Ex P s s') (p : ∀ k, P k → k ≠ 64 ∧ k ≠ 65) : xT a s' := by
  unfold xT at *
  rw [e.1 64 (fun q => (p _ q).1 rfl), e.1 65 (fun q => (p _ q).2 rfl)]; exact h
theorem xX.ex (h : xX a s) (e : Ex P s s') (p : ∀ k, P k → k ≠ 1 ∧ k ≠ 2) : xX a s' := by
  unfold xX at *
  rw [e.1 1 (fun q => (p _ q).1 rfl), e.1 2 (fun q => (p _ q).2 rfl)]; exact h
theorem Ex.frx (e : Ex P s s') (p : ∀ k, P k → k < 67) : FrX s s' := ⟨fun k hk => e.1 k (fun q => by have := p k q; omega), by rw [e.2]⟩
theorem Ex.frm (e : Ex P s s') (p : ∀ k, P k → 67 ≤ k) : FrM s s' := ⟨fun k hk => e.1 k (fun q => by have := p k q; omega), by rw [e.2]⟩
theorem Ex.sx (e : Ex P s s') (p : ∀ k, P k → ¬ rx k ∧ k ≠ 1) : Sx s s' := ⟨fun k hk => e.1 k (fun q => (p k q).1 hk), by rw [e.1 1 (fun q => (p _ q).2 rfl)]⟩
end
def sX (a : Ab) (t : List Nat) : Ab := (aN a, aF a, aS a, aV a, aC a, aH a, aI a, aT a, t)
def sT (a : Ab) (t : List (Nat × Nat × Bool)) : Ab := (aN a, aF a, aS a, aV a, aC a, aH a, aI a, t, aX a)
def sI (a : Ab) (t : Nat → Option Sc) : Ab := (aN a, aF a, aS a, aV a, aC a, aH a, t, aT a, aX a)
def sCH (a : Ab) (c : Sc) (h : List Sc) : Ab := (aN a, aF a, aS a, aV a, c, h, aI a, aT a, aX a)
/-! ===== type, clear, count ===== -/
theorem wi_0 {x m : Int32} {s : St} (h : x < 0 ∨ m < x) : M_X6_within x 0 m s = some (0, s) := by
  unfold M_X6_within
  rcases h with h | h
  · rw [if_pos h]
  · by_cases h0 : x < 0
    · rw [if_pos h0]
    · rw [if_neg h0, if_pos h]
theorem wi_1 {j m : Nat} {s : St} (h : j ≤ m) (hm : m < 2147483648) : M_X6_within (nI j) 0 (nI m) s = some (1, s) := by
  unfold M_X6_within
  rw [if_neg (nI_pos (by omega)), if_neg (by rw [eLT hm (by omega)]; omega)]
theorem in_0 {x m : Int32} {s : St} (h : x < 0 ∨ m < x) : M_X7_in x 0 m s = some (0, s) := by
  unfold M_X7_in
  rcases h with h | h
  · rw [if_pos h]
  · by_cases h0 : x < 0
    · rw [if_pos h0]
    · rw [if_neg h0, if_pos h]
theorem in_1 {j m : Nat} {s : St} (h : j ≤ m) (hm : m < 2147483648) : M_X7_in (nI j) 0 (nI m) s = some (1, s) := by
  unfold M_X7_in
  rw [if_neg (nI_pos (by omega)), if_neg (by rw [eLT hm (by omega)]; omega)]
theorem char_id {j : Nat} (h : j ≤ 255) : vp_nar .char (((nI j).toUInt32 % 65536).toInt32) = nI j := by
  rw [pk_vc, pk_char, pk_tn (by omega), Nat.mod_eq_of_lt (by omega)]
theorem op2_same {f g : St → Option (Int32 × St)} {a : Ab} (ok : okA a) (r : Int32) (hf : ∀ s, f s = some (r, s)) (hg : ∀ s, g s = some (r, s)) : Op2 f g a :=
  ⟨a, r, 0, ok, opX_read fun s _ => ⟨s, hf s, Sx.rf, FrX.rf, rfl⟩, opM_read fun s _ => ⟨s, hg s, Sm.rf, FrM.rf, rfl⟩⟩
theorem op_type (x1 : Int32) : ∀ a, okA a → Op2 (M_X6_type x1) (M_X7_type x1) a := by
  intro a ok
  rcases in_cases x1 (m := 255) (by decide) with h | ⟨j, hj, rfl⟩
  · refine op2_same ok (-1) (fun s => ?_) (fun s => ?_)
    · unfold M_X6_type
      rw [show (255 : Int32) = nI 255 from rfl, wi_0 h]; rfl
    · unfold M_X7_type
      rw [show (255 : Int32) = nI 255 from rfl, in_0 h]; rfl
  · have hl := ok.2.2.2.2.2.2.1
    by_cases hf : (aX a).length < 140
    · refine ⟨sX a (aX a ++ [j]), nI ((aX a).length + 1), 0, ?_, ?_, ?_⟩
      · obtain ⟨o1, o2, o3, o4, o5, o6, o7, o8⟩ := ok
        refine ⟨o1, o2, o3, o4, o5, o6, ?_, fun x hx => ?_⟩
        · show (aX a ++ [j]).length ≤ 140
          rw [List.length_append]; simp; omega
        · rcases List.mem_append.mp hx with q | q
          · exact o8 x q
          · rw [List.mem_singleton.mp q]; exact hj
      · intro s hx
        obtain ⟨h1, h2, h3, h4, h5, h6, h7⟩ := hx
        refine ⟨up (up s 2 (aX a).length (nI j)) 1 1 (nI ((aX a).length + 1)), ?_, ?_, ?_, ?_⟩
        · unfold M_X6_type M_X5_add
          rw [show (255 : Int32) = nI 255 from rfl, wi_1 hj (by decide), cl_some, if_neg (by decide), h6, show (140 : Int32) = nI 140 from rfl, i_lt_t hf (by decide), wr_nI hf (by decide), char_id hj]
          simp only [pu]
          rw [up_c (a := 1) (k := 2) (by decide), h6, show nI (aX a).length + 1 = nI ((aX a).length + 1) from nP, cl_some, if_neg (by decide), up_s]
        · have e : Ex (fun k => k = 2 ∨ k = 1) s (up (up s 2 (aX a).length (nI j)) 1 1 (nI ((aX a).length + 1))) := Ex.u1.tr Ex.u1
          refine ⟨xN.ex (a := a) h1 e (fun k hk => by omega), h2.ex e (fun k hk => by omega), xH.ex (a := a) h3 e (fun k hk => by omega), xI.ex (a := a) h4 e (fun k hk => by omega), xT.ex (a := a) h5 e (fun k hk => by omega), ?_, fun i hi => ?_⟩
          · show _ = nI (aX a ++ [j]).length
            rw [up_s, List.length_append]; rfl
          · show _ = nI ((aX a ++ [j]).getD i 0)
            have hi2 : i < (aX a).length + 1 := by have : i < (aX a ++ [j]).length := hi; rw [List.length_append] at this; exact this
            rw [up_c (a := 2) (k := 1) (by decide)]
            by_cases he : i = (aX a).length
            · subst he
              rw [up_s]; simp
            · rw [up_i he, h7 i (by omega)]
              simp [List.getD_eq_getElem?_getD, List.getElem?_append_left (show i < (aX a).length by omega)]
        · exact (Ex.u1.tr Ex.u1).frx (fun k hk => by omega)
        · rw [Int64.add_zero]; rfl
      · intro s hx
        obtain ⟨h1, h2, h3, h4, h5, h6, h7⟩ := hx
        refine ⟨up (up s 76 (aX a).length (nI j)) 67 13 (nI ((aX a).length + 1)), ?_, ?_, ?_, ?_⟩
        · unfold M_X7_type
          rw [show (255 : Int32) = nI 255 from rfl, in_1 hj (by decide), cl_some, if_neg (by decide), h6, show (140 : Int32) = nI 140 from rfl, i_eq_f (by omega) (by omega) (by decide), wr_nI hf (by decide)]
          simp only [pu]
          rw [up_c (a := 67) (k := 76) (by decide), h6, show nI (aX a).length + 1 = nI ((aX a).length + 1) from nP, up_s]
        · refine ⟨h1, h2, h3, h4, h5, ?_, fun i hi => ?_⟩
          · show _ = nI (aX a ++ [j]).length
            rw [up_s, List.length_append]; rfl
          · show _ = nI ((aX a ++ [j]).getD i 0)
            have hi2 : i < (aX a).length + 1 := by have : i < (aX a ++ [j]).length := hi; rw [List.length_append] at this; exact this
            rw [up_c (a := 76) (k := 67) (by decide)]
            by_cases he : i = (aX a).length
            · subst he
              rw [up_s]; simp
            · rw [up_i he, h7 i (by omega)]
              simp [List.getD_eq_getElem?_getD, List.getElem?_append_left (show i < (aX a).length by omega)]
        · exact (Ex.u1.tr Ex.u1).frm (fun k hk => by omega)
        · rw [Int64.add_zero]; rfl
    · refine ⟨a, -3, 0, ok, opX_read fun s hx => ?_, opM_read fun s hx => ?_⟩
      · obtain ⟨h1, h2, h3, h4, h5, h6, h7⟩ := hx
        refine ⟨s, ?_, Sx.rf, FrX.rf, rfl⟩
        unfold M_X6_type M_X5_add
        rw [show (255 : Int32) = nI 255 from rfl, wi_1 hj (by decide), cl_some, if_neg (by decide), h6, show (140 : Int32) = nI 140 from rfl, i_lt_f (by omega) (by omega)]; rfl
      · obtain ⟨h1, h2, h3, h4, h5, h6, h7⟩ := hx
        refine ⟨s, ?_, Sm.rf, FrM.rf, rfl⟩
        unfold M_X7_type
        rw [show (255 : Int32) = nI 255 from rfl, in_1 hj (by decide), cl_some, if_neg (by decide), h6, show (140 : Int32) = nI 140 from rfl, i_eq_t (by omega)]
theorem op_clear : ∀ a, okA a → Op2 (M_X6_clear) (M_X7_clear) a := by
  intro a ok
  refine ⟨sX a [], nI (aX a).length, 0, ?_, ?_, ?_⟩
  · obtain ⟨o1, o2, o3, o4, o5, o6, o7, o8⟩ := ok
    exact ⟨o1, o2, o3, o4, o5, o6, Nat.zero_le _, fun x hx => absurd hx List.not_mem_nil⟩
  · intro s hx
    obtain ⟨h1, h2, h3, h4, h5, h6, h7⟩ := hx
    refine ⟨up s 1 1 0, by unfold M_X6_clear pu; rw [h6], ⟨xN.ex (a := a) h1 Ex.u1 (fun k hk => by omega), h2.ex Ex.u1 (fun k hk => by omega), xH.ex (a := a) h3 Ex.u1 (fun k hk => by omega), xI.ex (a := a) h4 Ex.u1 (fun k hk => by omega), xT.ex (a := a) h5 Ex.u1 (fun k hk => by omega), up_s, fun i hi => absurd hi (Nat.not_lt_zero i)⟩, Ex.u1.frx (fun k hk => by omega), by rw [Int64.add_zero]; rfl⟩
  · intro s hx
    obtain ⟨h1, h2, h3, h4, h5, h6, h7⟩ := hx
    refine ⟨up s 67 13 0, by unfold M_X7_clear pu; rw [h6], ⟨h1, h2, h3, h4, h5, up_s, fun i hi => absurd hi (Nat.not_lt_zero i)⟩, Ex.u1.frm (fun k hk => by omega), by rw [Int64.add_zero]; rfl⟩
theorem op_count (x1 : Int32) : ∀ a, okA a → Op2 (M_X6_count x1) (M_X7_count x1) a := by
  intro a ok
  refine ⟨a, if x1 = 0 then nI (aN a) else if x1 = 1 then nI (aT a).length else if x1 = 2 then nI (aX a).length else -1, 0, ok, opX_read fun s hx => ?_, opM_read fun s hx => ?_⟩
  · obtain ⟨h1, h2, h3, h4, h5, h6, h7⟩ := hx
    refine ⟨s, ?_, Sx.rf, FrX.rf, rfl⟩
    unfold M_X6_count
    rw [h1.1, h5.1, h6]
    split
    · rfl
    · split
      · rfl
      · split <;> rfl
  · obtain ⟨h1, h2, h3, h4, h5, h6, h7⟩ := hx
    refine ⟨s, ?_, Sm.rf, FrM.rf, rfl⟩
    unfold M_X7_count
    rw [h1.1, h5.1, h6]
    split
    · rfl
    · split
      · rfl
      · split <;> rfl
