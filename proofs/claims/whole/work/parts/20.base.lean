/-! ===== numbers: nI and its like ===== -/
theorem eLE {a b : Nat} (ha : a < 2147483648) (hb : b < 2147483648) : (nI a ≤ nI b) = (a ≤ b) := propext (nI_leI ha hb)
theorem eLT {a b : Nat} (ha : a < 2147483648) (hb : b < 2147483648) : (nI a < nI b) = (a < b) := propext (nI_ltI ha hb)
theorem eEQ {a b : Nat} (ha : a < 2147483648) (hb : b < 2147483648) : (nI a = nI b) = (a = b) := propext (nI_eq ha hb)
theorem nl_0 : (0 : Int32) = nI 0 := by decide
theorem nl_1 : (1 : Int32) = nI 1 := by decide
theorem nl_2 : (2 : Int32) = nI 2 := by decide
theorem nl_3 : (3 : Int32) = nI 3 := by decide
theorem nl_4 : (4 : Int32) = nI 4 := by decide
theorem nl_5 : (5 : Int32) = nI 5 := by decide
theorem nl_6 : (6 : Int32) = nI 6 := by decide
theorem nl_7 : (7 : Int32) = nI 7 := by decide
theorem nl_8 : (8 : Int32) = nI 8 := by decide
theorem nl_9 : (9 : Int32) = nI 9 := by decide
theorem nl_10 : (10 : Int32) = nI 10 := by decide
theorem nl_14 : (14 : Int32) = nI 14 := by decide
theorem nl_20 : (20 : Int32) = nI 20 := by decide
theorem nl_30 : (30 : Int32) = nI 30 := by decide
theorem nl_32 : (32 : Int32) = nI 32 := by decide
theorem nl_48 : (48 : Int32) = nI 48 := by decide
theorem nl_57 : (57 : Int32) = nI 57 := by decide
theorem nl_59 : (59 : Int32) = nI 59 := by decide
theorem nl_60 : (60 : Int32) = nI 60 := by decide
theorem nl_64 : (64 : Int32) = nI 64 := by decide
theorem nl_99 : (99 : Int32) = nI 99 := by decide
theorem nl_100 : (100 : Int32) = nI 100 := by decide
theorem nl_102 : (102 : Int32) = nI 102 := by decide
theorem nl_126 : (126 : Int32) = nI 126 := by decide
theorem nl_140 : (140 : Int32) = nI 140 := by decide
theorem nl_147 : (147 : Int32) = nI 147 := by decide
theorem nl_181 : (181 : Int32) = nI 181 := by decide
theorem nl_255 : (255 : Int32) = nI 255 := by decide
theorem nl_999 : (999 : Int32) = nI 999 := by decide
theorem nI_toN {j : Nat} (h : j < 2147483648) : (nI j).toNatClampNeg = j := nI_clamp h
theorem ib_nI {j n : Nat} (h : j < n) (hn : n ≤ 2147483648) : ib (nI j) n := by
  unfold ib
  rw [nI_toN (by omega)]
  intro h2
  rcases h2 with h2 | h2
  · exact nI_pos (by omega) h2
  · omega
theorem rd_nI {α : Type} {s : St} {k n j : Nat} {c : Int32 → Option α} (h : j < n) (hn : n ≤ 2147483648) : rd s k n (nI j) c = c (s.1 k j) := by
  unfold rd
  rw [if_pos (ib_nI h hn), nI_toN (by omega)]
theorem wr_nI {α : Type} {s : St} {k n j : Nat} {v : Int32} {c : St → Option α} (h : j < n) (hn : n ≤ 2147483648) : wr s k n (nI j) v c = c (up s k j v) := by
  unfold wr
  rw [if_pos (ib_nI h hn), nI_toN (by omega)]
theorem ra_nI {α : Type} {k n j : Nat} {c : Nat → Option α} (h : j < n) (hn : n ≤ 2147483648) : ra k n (nI j) c = c (k + 1 + 3 * j) := by
  unfold ra
  rw [if_pos (ib_nI h hn), nI_toN (by omega)]
theorem rs_nI {α : Type} {xs : Nat → Int32} {n j : Nat} {c : Int32 → Option α} (h : j < n) (hn : n ≤ 2147483648) : rs xs n (nI j) c = c (xs j) := by
  unfold rs
  rw [if_pos (ib_nI h hn), nI_toN (by omega)]
theorem cl_some {α : Type} {r : Int32} {s : St} {c : Int32 → St → Option α} : cl (some (r, s)) c = c r s := rfl
theorem nP {a b : Nat} : nI a + nI b = nI (a + b) := nI_add a b
theorem nS {a b : Nat} (h : b ≤ a) : nI a - nI b = nI (a - b) := pk_sub h
theorem nM {a b : Nat} : nI a * nI b = nI (a * b) := pk_mul a b
/-- either not within, or a number within -/
theorem in_cases (x : Int32) {m : Nat} (hm : m < 2147483647) : (x < 0 ∨ nI m < x) ∨ ∃ j : Nat, j ≤ m ∧ x = nI j := by
  by_cases h0 : x < 0
  · exact Or.inl (Or.inl h0)
  · obtain ⟨j, h3, h4⟩ := nI_of h0
    subst h4
    by_cases h5 : j ≤ m
    · exact Or.inr ⟨j, h5, rfl⟩
    · refine Or.inl (Or.inr ?_)
      rw [eLT (by omega) (by omega)]
      omega
/-! ===== the store ===== -/
theorem up_s {s : St} {k i : Nat} {v : Int32} : (up s k i v).1 k i = v := by simp [up, va_up, upd]
theorem up_c {s : St} {k i a : Nat} {v : Int32} (h : a ≠ k) : (up s k i v).1 a = s.1 a := by simp [up, va_up, h]
theorem up_i {s : St} {k i b : Nat} {v : Int32} (h : b ≠ i) : (up s k i v).1 k b = s.1 k b := by simp [up, va_up, upd, h]
theorem up_2 {s : St} {k i : Nat} {v : Int32} : (up s k i v).2 = s.2 := rfl
theorem upL_1 {s : St} {k : Nat} {v : Int64} : (upL s k v).1 = s.1 := rfl
theorem upL_s {s : St} {k : Nat} {v : Int64} : (upL s k v).2 k = v := by simp [upL, va_up]
theorem upL_c {s : St} {k a : Nat} {v : Int64} (h : a ≠ k) : (upL s k v).2 a = s.2 a := by simp [upL, va_up, h]
theorem i_lt_t {α : Type} {a b : Nat} {x y : α} (h : a < b) (hb : b < 2147483648) : (if nI a < nI b then x else y) = x := if_pos (by rw [eLT (by omega) hb]; exact h)
theorem i_lt_f {α : Type} {a b : Nat} {x y : α} (h : b ≤ a) (ha : a < 2147483648) : (if nI a < nI b then x else y) = y := if_neg (by rw [eLT ha (by omega)]; omega)
theorem i_le_t {α : Type} {a b : Nat} {x y : α} (h : a ≤ b) (hb : b < 2147483648) : (if nI a ≤ nI b then x else y) = x := if_pos (by rw [eLE (by omega) hb]; exact h)
theorem i_le_f {α : Type} {a b : Nat} {x y : α} (h : b < a) (ha : a < 2147483648) : (if nI a ≤ nI b then x else y) = y := if_neg (by rw [eLE ha (by omega)]; omega)
theorem i_eq_t {α : Type} {a b : Nat} {x y : α} (h : a = b) : (if nI a = nI b then x else y) = x := if_pos (by rw [h])
theorem i_eq_f {α : Type} {a b : Nat} {x y : α} (h : a ≠ b) (ha : a < 2147483648) (hb : b < 2147483648) : (if nI a = nI b then x else y) = y := if_neg (by rw [eEQ ha hb]; exact h)
