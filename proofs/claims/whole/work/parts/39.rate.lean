theorem puL_b {α : Type} {s : St} {k : Nat} {v : Int64} {c : St → Option α} : puL s k v c = c (upL s k v) := rfl
theorem Sx.l {s : St} {k : Nat} {v : Int64} : Sx s (upL s k v) := ⟨fun _ _ => rfl, rfl⟩
theorem Sm.l {s : St} {k : Nat} {v : Int64} : Sm s (upL s k v) := ⟨fun _ _ _ => rfl, rfl, rfl, rfl, rfl⟩
theorem FrX.l {s : St} {v : Int64} : FrX s (upL s 0 v) := ⟨fun _ _ => rfl, upL_c (by decide)⟩
theorem FrM.l {s : St} {v : Int64} : FrM s (upL s 67 v) := ⟨fun _ _ => rfl, upL_c (by decide)⟩
theorem upL_t {s : St} {k : Nat} {v w : Int64} : upL (upL s k v) k w = upL s k w := by
  unfold upL va_up
  refine Prod.ext rfl ?_
  funext j
  show (if j = k then w else if j = k then v else s.2 j) = if j = k then w else s.2 j
  split <;> rfl
/-- both sides count, and nothing else -/
theorem op2_ct {f g : St → Option (Int32 × St)} {a : Ab} (ok : okA a) (r : Int32) (dt : Int64) (hf : ∀ s, Rx a s → f s = some (r, upL s 0 (s.2 0 + dt))) (hg : ∀ s, Rm a s → g s = some (r, upL s 67 (s.2 67 + dt))) : Op2 f g a :=
  ⟨a, r, dt, ok, fun s hx => ⟨_, hf s hx, hx.same Sx.l, FrX.l, upL_s⟩, fun s hx => ⟨_, hg s hx, hx.same Sm.l, FrM.l, upL_s⟩⟩
theorem asF_x {a : Ab} (ok : okA a) {f : Nat} (hf : f < aN a) {s : St} (hx : Rx a s) : M_X6_asFarmer (nI f) s = some (nI (cL (aC a) f), upL s 0 (s.2 0 + 1)) := by
  have hn := ok.1
  unfold M_X6_asFarmer
  rw [puL_b, rd_nI (by omega) (by decide), upL_1, (hx.2.1.2.2 f hf).1]
theorem asL_x {a : Ab} (ok : okA a) {f : Nat} (hf : f < aN a) {s : St} (hx : Rx a s) : M_X6_asLate (nI f) s = some (nI (cL (aC a) f) - nI (aS a f), upL s 0 (s.2 0 + 101)) := by
  have hn := ok.1
  unfold M_X6_asLate
  rw [puL_b, asF_x ok hf (hx.same Sx.l), cl_some, rd_nI (by omega) (by decide), upL_1, upL_1, (hx.1.2 f hf).2.1, upL_t, upL_s, Int64.add_assoc]; rfl
theorem asM_x {a : Ab} (ok : okA a) {f : Nat} (hf : f < aN a) {s : St} (hx : Rx a s) : M_X6_asMower (nI f) s = some (nI (cL (aC a) f) + nI (pc (hw (aN a) (cK (aC a)) f)), upL s 0 (s.2 0 + 11)) := by
  have hn := ok.1
  have hw6 : hw (aN a) (cK (aC a)) f < 64 := Nat.lt_of_lt_of_le (hw_lt _ _ _) (pow6 hn)
  unfold M_X6_asMower
  rw [puL_b, asF_x ok hf (hx.same Sx.l), cl_some, upL_t, upL_s, hungWith ok (by omega) (hx.same Sx.l).1 (hx.same Sx.l).2.1, cl_some, bc hw6, cl_some, Int64.add_assoc]; rfl
theorem op_rate (x1 x2 : Int32) : ∀ a, okA a → Op2 (M_X6_rate x1 x2) (M_X7_rate x1 x2) a := by
  intro a ok
  have hn := ok.1
  have nX : ∀ s, (∃ r, M_X1_has 9 x2 s = some (r, s) ∧ (r = 0 ∨ r = 1)) → (x1 < 0 ∨ nI 5 < x1) → M_X6_rate x1 x2 s = some (-1000000, s) := by
    intro s h1 h2
    obtain ⟨r, h1, h3⟩ := h1
    unfold M_X6_rate
    rw [h1, cl_some]
    rcases h3 with rfl | rfl
    · rw [if_pos rfl]
    · rw [if_neg (by decide), if_neg (by rintro rfl; revert h2; decide), if_neg (by rintro rfl; revert h2; decide), if_neg (by rintro rfl; revert h2; decide), if_neg (by rintro rfl; revert h2; decide), if_neg (by rintro rfl; revert h2; decide), if_neg (by rintro rfl; revert h2; decide)]
  rcases in_cases x1 (m := 5) (by decide) with hj | ⟨j, hj, rfl⟩
  · refine op2_rd ok (-1000000) (fun s hx => nX s ?_ hj) (fun s hx => by unfold M_X7_rate; rw [show (5 : Int32) = nI 5 from rfl, in_0 hj]; rfl)
    rcases pk_ix x2 (n := aN a) (by omega) with h | h | ⟨f, hf, rfl⟩
    · exact ⟨0, has_x0 hx.1.1 (Or.inl h), Or.inl rfl⟩
    · exact ⟨0, has_x0 hx.1.1 (Or.inr h), Or.inl rfl⟩
    · exact ⟨1, has_x1 hx.1.1 hf hn, Or.inr rfl⟩
  have hin : ∀ s, M_X7_in (nI j) 0 5 s = some (1, s) := fun s => in_1 (m := 5) hj (by decide)
  rcases pk_ix x2 (n := aN a) (by omega) with h | h | ⟨f, hf, rfl⟩
  · exact op2_rd ok (-1000000) (fun s hx => by unfold M_X6_rate; rw [has_x0 hx.1.1 (Or.inl h)]; rfl) (fun s hx => by unfold M_X7_rate; rw [hin, cl_some, if_neg (by decide), isF_0 hx.1.1 hn (Or.inl h)]; rfl)
  · exact op2_rd ok (-1000000) (fun s hx => by unfold M_X6_rate; rw [has_x0 hx.1.1 (Or.inr h)]; rfl) (fun s hx => by unfold M_X7_rate; rw [hin, cl_some, if_neg (by decide), isF_0 hx.1.1 hn (Or.inr h)]; rfl)
  have hw6 : hw (aN a) (cK (aC a)) f < 64 := Nat.lt_of_lt_of_le (hw_lt _ _ _) (pow6 hn)
  match j, hj, hin with
  | 0, _, hin =>
    refine op2_ct ok (nI (cL (aC a) f)) 1 (fun s hx => ?_) (fun s hx => ?_)
    · unfold M_X6_rate
      rw [has_x1 hx.1.1 hf hn, cl_some, if_neg (by decide), if_pos (by rfl), asF_x ok hf hx, cl_some]
    · unfold M_X7_rate
      rw [hin, cl_some, if_neg (by decide), isF_1 hx.1.1 hf hn, cl_some, if_neg (by decide), show (2 : Int32) + nI f = nI (2 + f) from nP, rd_nI (by omega) (by decide), st2 hx.2.1 hf, hangWith ok (by omega) hx.1 hx.2.1, cl_some, bits (by omega), cl_some, rd_nI (by omega) (by decide), (hx.1.2 f hf).2.1, if_neg (by decide), if_neg (by decide), if_neg (by decide), if_neg (by decide), if_neg (by decide), puL_b]
  | 1, _, hin =>
    refine op2_ct ok (nI (cL (aC a) f) + nI (pc (hw (aN a) (cK (aC a)) f))) 11 (fun s hx => ?_) (fun s hx => ?_)
    · unfold M_X6_rate
      rw [has_x1 hx.1.1 hf hn, cl_some, if_neg (by decide), if_neg (by decide), if_pos (by rfl), asM_x ok hf hx, cl_some]
    · unfold M_X7_rate
      rw [hin, cl_some, if_neg (by decide), isF_1 hx.1.1 hf hn, cl_some, if_neg (by decide), show (2 : Int32) + nI f = nI (2 + f) from nP, rd_nI (by omega) (by decide), st2 hx.2.1 hf, hangWith ok (by omega) hx.1 hx.2.1, cl_some, bits (by omega), cl_some, rd_nI (by omega) (by decide), (hx.1.2 f hf).2.1, if_pos (by rfl), puL_b]
  | 2, _, hin =>
    refine op2_ct ok (nI (cL (aC a) f) - nI (aS a f)) 101 (fun s hx => ?_) (fun s hx => ?_)
    · unfold M_X6_rate
      rw [has_x1 hx.1.1 hf hn, cl_some, if_neg (by decide), if_neg (by decide), if_neg (by decide), if_pos (by rfl), asL_x ok hf hx, cl_some]
    · unfold M_X7_rate
      rw [hin, cl_some, if_neg (by decide), isF_1 hx.1.1 hf hn, cl_some, if_neg (by decide), show (2 : Int32) + nI f = nI (2 + f) from nP, rd_nI (by omega) (by decide), st2 hx.2.1 hf, hangWith ok (by omega) hx.1 hx.2.1, cl_some, bits (by omega), cl_some, rd_nI (by omega) (by decide), (hx.1.2 f hf).2.1, if_neg (by decide), if_pos (by rfl), puL_b]
  | 3, _, hin =>
    refine op2_ct ok (2 * (nI (cL (aC a) f) + nI (pc (hw (aN a) (cK (aC a)) f)))) 1011 (fun s hx => ?_) (fun s hx => ?_)
    · unfold M_X6_rate
      rw [has_x1 hx.1.1 hf hn, cl_some, if_neg (by decide), if_neg (by decide), if_neg (by decide), if_neg (by decide), if_pos (by rfl), M_X6_asSon, puL_b, asM_x ok hf (hx.same Sx.l), cl_some, cl_some, upL_t, upL_s, Int64.add_assoc]; rfl
    · unfold M_X7_rate
      rw [hin, cl_some, if_neg (by decide), isF_1 hx.1.1 hf hn, cl_some, if_neg (by decide), show (2 : Int32) + nI f = nI (2 + f) from nP, rd_nI (by omega) (by decide), st2 hx.2.1 hf, hangWith ok (by omega) hx.1 hx.2.1, cl_some, bits (by omega), cl_some, rd_nI (by omega) (by decide), (hx.1.2 f hf).2.1, if_neg (by decide), if_neg (by decide), if_pos (by rfl), puL_b]
  | 4, _, hin =>
    refine op2_ct ok (nI (cL (aC a) f) - nI (aS a f) + nI f) 10101 (fun s hx => ?_) (fun s hx => ?_)
    · unfold M_X6_rate
      rw [has_x1 hx.1.1 hf hn, cl_some, if_neg (by decide), if_neg (by decide), if_neg (by decide), if_neg (by decide), if_neg (by decide), if_pos (by rfl), M_X6_asCousin, puL_b, asL_x ok hf (hx.same Sx.l), cl_some, cl_some, upL_t, upL_s, Int64.add_assoc]; rfl
    · unfold M_X7_rate
      rw [hin, cl_some, if_neg (by decide), isF_1 hx.1.1 hf hn, cl_some, if_neg (by decide), show (2 : Int32) + nI f = nI (2 + f) from nP, rd_nI (by omega) (by decide), st2 hx.2.1 hf, hangWith ok (by omega) hx.1 hx.2.1, cl_some, bits (by omega), cl_some, rd_nI (by omega) (by decide), (hx.1.2 f hf).2.1, if_neg (by decide), if_neg (by decide), if_neg (by decide), if_pos (by rfl), puL_b]
  | 5, _, hin =>
    refine op2_ct ok (nI (cL (aC a) f) + nI (cD (aC a))) 100001 (fun s hx => ?_) (fun s hx => ?_)
    · unfold M_X6_rate
      rw [has_x1 hx.1.1 hf hn, cl_some, if_neg (by decide), if_neg (by decide), if_neg (by decide), if_neg (by decide), if_neg (by decide), if_neg (by decide), if_pos (by rfl), M_X6_asSnow, puL_b, asF_x ok hf (hx.same Sx.l), cl_some, cl_some, upL_1, upL_1, hx.2.1.1, upL_t, upL_s, Int64.add_assoc]; rfl
    · unfold M_X7_rate
      rw [hin, cl_some, if_neg (by decide), isF_1 hx.1.1 hf hn, cl_some, if_neg (by decide), show (2 : Int32) + nI f = nI (2 + f) from nP, rd_nI (by omega) (by decide), st2 hx.2.1 hf, hangWith ok (by omega) hx.1 hx.2.1, cl_some, bits (by omega), cl_some, rd_nI (by omega) (by decide), (hx.1.2 f hf).2.1, if_neg (by decide), if_neg (by decide), if_neg (by decide), if_neg (by decide), if_pos (by rfl), puL_b, show (0 : Int32) = nI 0 from rfl, rd_nI (by decide) (by decide), upL_1, hx.2.1.1]
  | j + 6, hj, _ => exact absurd hj (by omega)
