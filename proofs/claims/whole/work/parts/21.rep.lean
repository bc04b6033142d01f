/-! ===== the abstract state, and how each side holds it ===== -/
abbrev Sc : Type := Nat × Nat × (Nat → Nat) × (Nat → Nat)
def cD (c : Sc) : Nat := c.1
def cA (c : Sc) : Nat := c.2.1
def cL (c : Sc) : Nat → Nat := c.2.2.1
def cK (c : Sc) : Nat → Nat := c.2.2.2
abbrev Ab : Type := Nat × (Nat → Nat) × (Nat → Nat) × (Nat → Nat) × Sc × List Sc × (Nat → Option Sc) × List (Nat × Nat × Bool) × List Nat
def aN (a : Ab) : Nat := a.1
def aF (a : Ab) : Nat → Nat := a.2.1
def aS (a : Ab) : Nat → Nat := a.2.2.1
def aV (a : Ab) : Nat → Nat := a.2.2.2.1
def aC (a : Ab) : Sc := a.2.2.2.2.1
def aH (a : Ab) : List Sc := a.2.2.2.2.2.1
def aI (a : Ab) : Nat → Option Sc := a.2.2.2.2.2.2.1
def aT (a : Ab) : List (Nat × Nat × Bool) := a.2.2.2.2.2.2.2.1
def aX (a : Ab) : List Nat := a.2.2.2.2.2.2.2.2
def okSc (n : Nat) (c : Sc) : Prop := cD c ≤ 999 ∧ cA c < 2 ^ n ∧ ∀ f, f < n → cL c f ≤ 9 ∧ cK c f < n
def okA (a : Ab) : Prop := aN a ≤ 6 ∧ (∀ f, f < aN a → aF a f ≤ 30 ∧ aS a f ≤ 20 ∧ aV a f ≤ 6 ∧ aN a ≠ 1) ∧ okSc (aN a) (aC a) ∧ ((aH a).length ≤ 10 ∧ ∀ c ∈ aH a, okSc (aN a) c) ∧ (∀ i c, aI a i = some c → okSc (aN a) c) ∧ ((aT a).length ≤ 6 ∧ ∀ t ∈ aT a, t.1 ≤ 20 ∧ t.2.1 ≤ 6) ∧ ((aX a).length ≤ 140 ∧ ∀ x ∈ aX a, x ≤ 255)
def scAt (s : St) (k n : Nat) (c : Sc) : Prop := s.1 k 1 = nI (cD c) ∧ s.1 k 2 = nI (cA c) ∧ ∀ f, f < n → s.1 (k + 1) f = nI (cL c f) ∧ s.1 (k + 2) f = nI (cK c f)
def stAt (s : St) (k o n : Nat) (c : Sc) : Prop := s.1 k o = nI (cD c) ∧ s.1 k (o + 1) = nI (cA c) ∧ ∀ f, f < n → s.1 k (o + 2 + f) = nI (cL c f) ∧ s.1 k (o + 8 + f) = nI (cK c f)
def soT (ts : List (Nat × Nat × Bool)) (x y : Nat) : Bool := ts.all fun t => (decide (x ≤ t.1 ∨ y ≤ t.2.1)) == t.2.2
def xN (a : Ab) (s : St) : Prop := s.1 9 0 = nI (aN a) ∧ ∀ f, f < aN a → s.1 10 f = nI (aF a f) ∧ s.1 12 f = nI (aS a f) ∧ s.1 13 f = nI (aV a f)
def xH (a : Ab) (s : St) : Prop := ∃ p, p < 10 ∧ s.1 21 1 = nI p ∧ s.1 21 2 = nI (aH a).length ∧ ∀ i c, (aH a)[i]? = some c → scAt s (23 + 3 * ((p + 9 - i) % 10)) (aN a) c
def xI (a : Ab) (s : St) : Prop := ∀ i, i < 2 → (s.1 60 i = if (aI a i).isSome then 1 else 0) ∧ ∀ c, aI a i = some c → scAt s (54 + 3 * i) (aN a) c
def xT (a : Ab) (s : St) : Prop := s.1 64 0 = nI (aT a).length ∧ ∀ x y, x < 21 → y < 7 → s.1 65 (x * 7 + y) = if soT (aT a) x y then 0 else 1
def xX (a : Ab) (s : St) : Prop := s.1 1 1 = nI (aX a).length ∧ ∀ i, i < (aX a).length → s.1 2 i = nI ((aX a).getD i 0)
def Rx (a : Ab) (s : St) : Prop := xN a s ∧ scAt s 15 (aN a) (aC a) ∧ xH a s ∧ xI a s ∧ xT a s ∧ xX a s
def mN (a : Ab) (s : St) : Prop := s.1 67 0 = nI (aN a) ∧ ∀ f, f < aN a → s.1 68 f = nI (aF a f) ∧ s.1 69 f = nI (aS a f) ∧ s.1 70 f = nI (aV a f)
def mH (a : Ab) (s : St) : Prop := s.1 67 6 = nI (aH a).length ∧ ∀ i c, (aH a)[i]? = some c → stAt s 72 (14 * ((aH a).length - 1 - i)) (aN a) c
def mI (a : Ab) (s : St) : Prop := ∀ i, i < 2 → (s.1 74 i = if (aI a i).isSome then 1 else 0) ∧ ∀ c, aI a i = some c → stAt s 73 (14 * i) (aN a) c
def mT (a : Ab) (s : St) : Prop := s.1 67 9 = nI (aT a).length ∧ ∀ i t, (aT a)[i]? = some t → s.1 75 (3 * i) = nI t.1 ∧ s.1 75 (3 * i + 1) = nI t.2.1 ∧ s.1 75 (3 * i + 2) = if t.2.2 then 1 else 0
def mX (a : Ab) (s : St) : Prop := s.1 67 13 = nI (aX a).length ∧ ∀ i, i < (aX a).length → s.1 76 i = nI ((aX a).getD i 0)
def Rm (a : Ab) (s : St) : Prop := mN a s ∧ stAt s 71 0 (aN a) (aC a) ∧ mH a s ∧ mI a s ∧ mT a s ∧ mX a s
/-! which cells they rest on -/
def rx (k : Nat) : Prop := k = 2 ∨ k = 9 ∨ k = 10 ∨ k = 12 ∨ k = 13 ∨ (15 ≤ k ∧ k ≤ 17) ∨ k = 21 ∨ (23 ≤ k ∧ k ≤ 52) ∨ (54 ≤ k ∧ k ≤ 60) ∨ k = 64 ∨ k = 65
def Sx (s s' : St) : Prop := (∀ k, rx k → s'.1 k = s.1 k) ∧ s'.1 1 1 = s.1 1 1
def Sm (s s' : St) : Prop := (∀ k, 68 ≤ k → k ≤ 76 → s'.1 k = s.1 k) ∧ s'.1 67 0 = s.1 67 0 ∧ s'.1 67 6 = s.1 67 6 ∧ s'.1 67 9 = s.1 67 9 ∧ s'.1 67 13 = s.1 67 13
theorem scAt.same {s s' : St} {k n : Nat} {c : Sc} (h : scAt s k n c) (h0 : s'.1 k = s.1 k) (h1 : s'.1 (k + 1) = s.1 (k + 1)) (h2 : s'.1 (k + 2) = s.1 (k + 2)) : scAt s' k n c := by
  unfold scAt at *
  rw [h0, h1, h2]; exact h
theorem stAt.same {s s' : St} {k o n : Nat} {c : Sc} (h : stAt s k o n c) (h0 : s'.1 k = s.1 k) : stAt s' k o n c := by
  unfold stAt at *
  rw [h0]; exact h
theorem xN.same {a : Ab} {s s' : St} (h : xN a s) (e : Sx s s') : xN a s' := by
  unfold xN at *
  rw [e.1 9 (by unfold rx; omega), e.1 10 (by unfold rx; omega), e.1 12 (by unfold rx; omega), e.1 13 (by unfold rx; omega)]; exact h
theorem xH.same {a : Ab} {s s' : St} (h : xH a s) (e : Sx s s') : xH a s' := by
  obtain ⟨p, hp, h1, h2, h3⟩ := h
  refine ⟨p, hp, ?_, ?_, fun i c hi => ?_⟩
  · rw [e.1 21 (by unfold rx; omega)]; exact h1
  · rw [e.1 21 (by unfold rx; omega)]; exact h2
  · have hm : (p + 9 - i) % 10 < 10 := Nat.mod_lt _ (by decide)
    exact (h3 i c hi).same (e.1 _ (by unfold rx; omega)) (e.1 _ (by unfold rx; omega)) (e.1 _ (by unfold rx; omega))
theorem xI.same {a : Ab} {s s' : St} (h : xI a s) (e : Sx s s') : xI a s' := by
  intro i hi
  obtain ⟨h1, h2⟩ := h i hi
  refine ⟨?_, fun c hc => (h2 c hc).same (e.1 _ (by unfold rx; omega)) (e.1 _ (by unfold rx; omega)) (e.1 _ (by unfold rx; omega))⟩
  rw [e.1 60 (by unfold rx; omega)]; exact h1
theorem xT.same {a : Ab} {s s' : St} (h : xT a s) (e : Sx s s') : xT a s' := by
  unfold xT at *
  rw [e.1 64 (by unfold rx; omega), e.1 65 (by unfold rx; omega)]; exact h
theorem xX.same {a : Ab} {s s' : St} (h : xX a s) (e : Sx s s') : xX a s' := by
  unfold xX at *
  rw [e.2, e.1 2 (by unfold rx; omega)]; exact h
theorem Rx.same {a : Ab} {s s' : St} (h : Rx a s) (e : Sx s s') : Rx a s' :=
  ⟨h.1.same e, h.2.1.same (e.1 15 (by unfold rx; omega)) (e.1 16 (by unfold rx; omega)) (e.1 17 (by unfold rx; omega)), h.2.2.1.same e, h.2.2.2.1.same e, h.2.2.2.2.1.same e, h.2.2.2.2.2.same e⟩
theorem Rm.same {a : Ab} {s s' : St} (h : Rm a s) (e : Sm s s') : Rm a s' := by
  obtain ⟨h1, h2, h3, h4, h5, h6⟩ := h
  obtain ⟨e0, e1, e2, e3, e4⟩ := e
  refine ⟨?_, h2.same (e0 71 (by omega) (by omega)), ?_, ?_, ?_, ?_⟩
  · unfold mN at *
    rw [e1, e0 68 (by omega) (by omega), e0 69 (by omega) (by omega), e0 70 (by omega) (by omega)]; exact h1
  · exact ⟨by rw [e2]; exact h3.1, fun i c hi => (h3.2 i c hi).same (e0 72 (by omega) (by omega))⟩
  · exact fun i hi => ⟨by rw [e0 74 (by omega) (by omega)]; exact (h4 i hi).1, fun c hc => ((h4 i hi).2 c hc).same (e0 73 (by omega) (by omega))⟩
  · unfold mT at *
    rw [e3, e0 75 (by omega) (by omega)]; exact h5
  · unfold mX at *
    rw [e4, e0 76 (by omega) (by omega)]; exact h6
/-! what an operation of each side says -/
def FrX (s s' : St) : Prop := (∀ k, 67 ≤ k → s'.1 k = s.1 k) ∧ s'.2 67 = s.2 67
def FrM (s s' : St) : Prop := (∀ k, k < 67 → s'.1 k = s.1 k) ∧ s'.2 0 = s.2 0
def OpX (f : St → Option (Int32 × St)) (a a' : Ab) (r : Int32) (dt : Int64) : Prop := ∀ s, Rx a s → ∃ s', f s = some (r, s') ∧ Rx a' s' ∧ FrX s s' ∧ s'.2 0 = s.2 0 + dt
def OpM (f : St → Option (Int32 × St)) (a a' : Ab) (r : Int32) (dt : Int64) : Prop := ∀ s, Rm a s → ∃ s', f s = some (r, s') ∧ Rm a' s' ∧ FrM s s' ∧ s'.2 67 = s.2 67 + dt
def Op2 (f g : St → Option (Int32 × St)) (a : Ab) : Prop := ∃ (a' : Ab) (r : Int32) (dt : Int64), okA a' ∧ OpX f a a' r dt ∧ OpM g a a' r dt
def Inv (s : St) : Prop := ∃ a, okA a ∧ Rx a s ∧ Rm a s ∧ s.2 0 = s.2 67
theorem FrM.sx {s s' : St} (h : FrM s s') : Sx s s' := ⟨fun k hk => h.1 k (by unfold rx at hk; omega), by rw [h.1 1 (by omega)]⟩
theorem FrX.sm {s s' : St} (h : FrX s s') : Sm s s' := ⟨fun k h1 _ => h.1 k (by omega), by rw [h.1 67 (by omega)], by rw [h.1 67 (by omega)], by rw [h.1 67 (by omega)], by rw [h.1 67 (by omega)]⟩
theorem both {f g : St → Option (Int32 × St)} (h : ∀ a, okA a → Op2 f g a) {s : St} (hI : Inv s) : ∃ r s1 s2, f s = some (r, s1) ∧ g s1 = some (r, s2) ∧ Inv s2 := by
  obtain ⟨a, ok, hx, hm, ht⟩ := hI
  obtain ⟨a', r, dt, ok', ox, om⟩ := h a ok
  obtain ⟨s1, e1, x1, fx, t1⟩ := ox s hx
  obtain ⟨s2, e2, m2, fm, t2⟩ := om s1 (hm.same fx.sm)
  exact ⟨r, s1, s2, e1, e2, a', ok', x1.same fm.sx, m2, by rw [fm.2, t1, t2, fx.2, ht]⟩
/-- a call that reads alone, on both sides -/
theorem opX_read {f : St → Option (Int32 × St)} {a : Ab} {r : Int32} (h : ∀ s, Rx a s → ∃ s', f s = some (r, s') ∧ Sx s s' ∧ FrX s s' ∧ s'.2 0 = s.2 0) : OpX f a a r 0 := by
  intro s hx
  obtain ⟨s', h1, h2, h3, h4⟩ := h s hx
  exact ⟨s', h1, hx.same h2, h3, by rw [h4, Int64.add_zero]⟩
theorem opM_read {f : St → Option (Int32 × St)} {a : Ab} {r : Int32} (h : ∀ s, Rm a s → ∃ s', f s = some (r, s') ∧ Sm s s' ∧ FrM s s' ∧ s'.2 67 = s.2 67) : OpM f a a r 0 := by
  intro s hx
  obtain ⟨s', h1, h2, h3, h4⟩ := h s hx
  exact ⟨s', h1, hx.same h2, h3, by rw [h4, Int64.add_zero]⟩
theorem Sx.rf {s : St} : Sx s s := ⟨fun _ _ => rfl, rfl⟩
theorem Sm.rf {s : St} : Sm s s := ⟨fun _ _ _ => rfl, rfl, rfl, rfl, rfl⟩
theorem FrX.rf {s : St} : FrX s s := ⟨fun _ _ => rfl, rfl⟩
theorem FrM.rf {s : St} : FrM s s := ⟨fun _ _ => rfl, rfl⟩
theorem Sx.tr {s t u : St} (h : Sx s t) (h2 : Sx t u) : Sx s u := ⟨fun k hk => (h2.1 k hk).trans (h.1 k hk), h2.2.trans h.2⟩
theorem Sm.tr {s t u : St} (h : Sm s t) (h2 : Sm t u) : Sm s u := ⟨fun k h3 h4 => (h2.1 k h3 h4).trans (h.1 k h3 h4), h2.2.1.trans h.2.1, h2.2.2.1.trans h.2.2.1, h2.2.2.2.1.trans h.2.2.2.1, h2.2.2.2.2.trans h.2.2.2.2⟩
theorem FrX.tr {s t u : St} (h : FrX s t) (h2 : FrX t u) : FrX s u := ⟨fun k hk => (h2.1 k hk).trans (h.1 k hk), h2.2.trans h.2⟩
theorem FrM.tr {s t u : St} (h : FrM s t) (h2 : FrM t u) : FrM s u := ⟨fun k hk => (h2.1 k hk).trans (h.1 k hk), h2.2.trans h.2⟩
