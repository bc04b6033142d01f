/-! ===== the law: its script, trace(), and its loop ===== -/
def rs {α : Type} (xs : Nat → Int32) (n : Nat) (i : Int32) (c : Int32 → Option α) : Option α := if ib i n then c (xs i.toNatClampNeg) else none
def QmL (E : Ce) (v : Int64) (s' : St) : Array Value → State → Outcome → State → Prop := fun _ st o t => o = .returned (some (.long v)) ∧ va_P E.D vwCl (wl E s') t.heap ∧ va_F (AA E) st t
def ConL (E : Ce) (y : MethodName) (cc : ByteArray) (k : Nat) : Prop := ∀ s : St, Met E.l y (.code y cc 1 (some .long) :: TB) (rmD 1) (va_Pc [.ref (E.B + k)] (Wd E s)) (QmL E (s.2 k) s) 0 0 (AA E)
theorem ConL.of {E : Ce} {y : MethodName} {cc : ByteArray} {k : Nat} (hy : plainName y.cls = true)
    (h : ∀ (X : Cx) (s : St), X.E = E → Ok X cc y.cls 1 1 → (∀ (pc : Nat) (H : Heap) (locs : List Loc) (ls : Array Slot), decode cc pc = .ok (.lreturn, 1) → va_P X.E.D vwCl (wl X.E s) H → va_S (AA X.E) X.s.heap H locs → W X.p X.E.l X.e X.R X.s X.m X.args X.below X.meth X.c H locs X.kc X.ks (X.Q 0 s) (F0 X.m pc ls [.long (s.2 k)])) → G X 0 [.ref (X.B + k)] [] s (some (0, s))) : ConL E y cc k := by
  intro s0
  refine Met.ofW (cc := cc) (maxL := 1) (ret := some .long) hy rfl ?_
  intro p e s m args below meth c s₁ B hml hv
  obtain ⟨rfl, hP, hK, hN⟩ := hv
  have hx := B.exec
  have hb := B.bytes
  have hr := B.returns
  have hts := atoms_spec (ws := .code y cc 1 (some .long) :: TB) B.pre
  have hown : s.vm.findClass y.cls = some m.cls := findClass_of_methodNamed B.named
  have hlocks := B.notSynchronized
  have hS : va_S (AA E) s.heap s.heap [] := va_S.rf
  rw [lg_entry_eq]
  let X : Cx := (E, p, e, rmD 1, s, m, [Value.ref (E.B + k)].toArray, below, meth, c, fun _ s' => MQ below (QmL E (s'.2 k) s') [Value.ref (E.B + k)].toArray s 0 0 (AA E), 0, 0)
  have hok : Ok X cc y.cls 1 1 := ⟨hx, hb, hown, fun w hw => hts w (List.mem_cons_of_mem _ hw), hN, hK, hml, Nat.le_refl _, Nat.le_refl _, Nat.le_refl _, Nat.le_refl _⟩
  have hg := h X s0 rfl hok (fun pc H locs ls hd hP2 hS2 => W.lret hx hb hr (fun t ht hW => ⟨rfl, by rw [ht]; exact hP2, hS2.F ht⟩) hS2.2.2 hd)
  exact hg 0 s0 rfl s.heap [] _ hP hS (by
    show LH _ c.maxLocals [Value.ref (E.B + k)]
    rw [hml]
    exact LH.entry (List.forall_mem_cons.mpr ⟨rfl, fun _ h => absurd h List.not_mem_nil⟩) (Nat.le_of_ble_eq_true rfl) ⟨rfl, trivial⟩)
theorem hyX6_trace : yX6_trace.cls ≠ "java/lang/invoke/MethodHandle" ∧ yX6_trace.cls ≠ "java/lang/invoke/VarHandle" ∧ (parseMethodDescriptor yX6_trace.desc).map (fun d => d.parameters.length) = some 0 := by decide +kernel
theorem hyX7_trace : yX7_trace.cls ≠ "java/lang/invoke/MethodHandle" ∧ yX7_trace.cls ≠ "java/lang/invoke/VarHandle" ∧ (parseMethodDescriptor yX7_trace.desc).map (fun d => d.parameters.length) = some 0 := by decide +kernel
theorem qX6_trace (E : Ce) : ConL E yX6_trace cX6_trace 0 := ConL.of (by decide) (fun X s hE K hr => by
  refine g_aload_n (pc := 0) K 0 dX6_trace_0 rfl rfl ?_
  refine gg_6_11 (pc := 1) K (by decide) kd_0 kX6_223 dX6_trace_1 ?_
  exact fun r s' e H locs ls hP hS hL => by cases e; exact hr 4 H locs ls dX6_trace_4 hP hS)
theorem qX7_trace (E : Ce) : ConL E yX7_trace cX7_trace 67 := ConL.of (by decide) (fun X s hE K hr => by
  refine g_aload_n (pc := 0) K 0 dX7_trace_0 rfl rfl ?_
  refine gg_7_11 (pc := 1) K (by decide) kd_67 kX7_185 dX7_trace_1 ?_
  exact fun r s' e H locs ls hP hS hL => by cases e; exact hr 4 H locs ls dX7_trace_4 hP hS)
section
variable {X : Cx} {cc : ByteArray} {own : String} {nL d pc : Nat} {L S : List Value} {s : St} {o : Option (Int32 × St)} {xs : Nat → Int32} {n b : Nat}
theorem g_sld (K : Ok X cc own nL d) (hX : va_X b n xs X.s X.s.heap) (hbl : b < X.s.heap.size) (hbA : ¬ AA X.E b) {i : Int32} {c : Int32 → Option (Int32 × St)} (hd : decode cc pc = .ok (.iaload, 1)) (h : ∀ v, G X (pc + 1) L (.int v :: S) s (c v)) : G X pc L (.int i :: .ref b :: S) s (rs xs n i c) := by
  intro r s' e H locs ls hP hS hL
  unfold rs at e
  split at e
  · rename_i hin
    exact va_sld K.1 K.2.1 hX hbl hbA hS hin hd (h _ r s' e H locs ls hP hS hL)
  · cases e
theorem g_slen (K : Ok X cc own nL d) (hX : va_X b n xs X.s X.s.heap) (hbl : b < X.s.heap.size) (hbA : ¬ AA X.E b) (hd : decode cc pc = .ok (.arraylength, 1)) (h : G X (pc + 1) L (.int (Int32.ofNat n) :: S) s o) : G X pc L (.ref b :: S) s o :=
  fun r s' e H locs ls hP hS hL => va_slen K.1 K.2.1 hX hbl hbA hS hd (h r s' e H locs ls hP hS hL)
theorem g_lcmp (K : Ok X cc own nL d) {x y : Int64} (hd : decode cc pc = .ok (.lcmp, 1)) (h : G X (pc + 1) L (.int (lg_cmp x y) :: S) s o) : G X pc L (.long y :: .long x :: S) s o :=
  fun r s' e H locs ls hP hS hL => W.lcmp K.1 K.2.1 hd (h r s' e H locs ls hP hS hL)
theorem g_callL (K : Ok X cc own nL d) {y : MethodName} {cc' : ByteArray} {ix k ci : Nat} (hcon : ConL X.E y cc' k) {Tt : u_T} {N : Nat} (hk : k < 80) (hc : vwCl[ci]? = some (y.cls, Tt, N)) (he : ∀ s : St, ∃ fs, cellE X.E k (s.1 k) (s.2 k) = .inr (ci, fs)) (hd1 : 1 < d) (hd2 : 1 ≤ 21) (hcode : Cond.code y cc' 1 (some .long) ∈ TB) (hini : Cond.initialized y.cls ∈ TB) (hlink : Cond.methodLink own ix y ∈ TB) (hin : Cond.instanceMethod y ∈ TB) (hse : Cond.selects y.cls y y ∈ TB)
    (hy : y.cls ≠ "java/lang/invoke/MethodHandle" ∧ y.cls ≠ "java/lang/invoke/VarHandle" ∧ (parseMethodDescriptor y.desc).map (fun d => d.parameters.length) = some 0) {S0 : List Value} (hS0 : S0 = .ref (X.B + k) :: S) (hrm : (S.map fun v => v.category).sum ≤ 8) (hd : decode cc pc = .ok (.invokevirtual ix, 3))
    (h : G X (pc + 3) L (.long (s.2 k) :: S) s o) : G X pc L S0 s o := by
  intro r s' e H locs ls hP hS hL
  obtain ⟨fs, he⟩ := he s
  subst hS0
  have hr := va_runV (l := X.E.l) (e := X.e) (below := X.below) (meth := X.meth) (locs := locs) (cells := X.kc) (slots := X.ks) (Ts := TB) (C := y.cls) (As := []) (rest := S) (g := F0 X.m pc ls (.ref (X.B + k) :: S)) ⟨K.1, K.2.1, rfl, K.2.2.1, K.2.2.2.1⟩ (hcon s) ⟨g_cb K hd1 hd2 hcode hini hlink hy, K.2.2.2.1 _ hin, K.2.2.2.1 _ hse⟩ ⟨wd_blind, g_rcv K hP hk hc he, wd_pre hP K.2.2.2.2.2.1 K.2.2.2.2.1⟩ rfl rfl hL.1 rfl (lv_room hrm) hd ⟨K.2.2.2.2.2.2.2.2.2.1, K.2.2.2.2.2.2.2.2.2.2⟩
  intro T hT X0
  obtain ⟨v, st₀, t, T', Lc, h0, X', hLc, e1, e2, ⟨hv, hP1, hz, hk1⟩, st⟩ := hr T hT X0
  rw [h0] at hz hk1
  obtain ⟨t2, a1, b1⟩ := h r s' e T'.heap (locs ++ Lc) ls (by rw [e1]; exact hP1)
    ⟨Nat.le_trans hS.1 (by rw [e1]; exact hz), fun q h1 h2 => by rw [e1, hk1 q (Nat.lt_of_lt_of_le h1 hS.1) h2]; exact hS.2.1 q h1 h2, fun q hq => by
      rcases List.mem_append.mp hq with h | h
      · exact hS.2.2 q h
      · exact hLc q h⟩ hL T' rfl X'
  refine ⟨t2, st t2 ?_, b1⟩
  cases hv
  exact a1
end
def M_L_law_L18 (xs : Nat → Int32) (n : Nat) (kk : St → Option (Int32 × St)) : Nat → Int32 → St → Option (Int32 × St)
  | 0, _, _ => none
  | fu + 1, x3, s =>
    if ((Int32.ofNat n) - (5)) < x3 then (
      kk s) else (
      rs xs n x3 fun v1 =>
      jn (κ := St → Option (Int32 × St)) (fun s3 =>
        M_L_law_L18 xs n kk fu (x3 + (5)) s3) fun kj2 =>
        if (v1 &&& (31)) = 0 then (
          rs xs n (x3 + (1)) fun v4 =>
          cl (M_X6_type v4 s) fun r5 s6 =>
          rs xs n (x3 + (1)) fun v7 =>
          cl (M_X7_type v7 s6) fun r8 s9 =>
          if r5 = r8 then (
            kj2 s9) else (
            some (0, s9))) else if (v1 &&& (31)) = 1 then (
          cl (M_X6_clear s) fun r11 s12 =>
          cl (M_X7_clear s12) fun r13 s14 =>
          if r11 = r13 then (
            kj2 s14) else (
            some (0, s14))) else if (v1 &&& (31)) = 2 then (
          cl (M_X6_valley s) fun r16 s17 =>
          cl (M_X7_valley s17) fun r18 s19 =>
          if r16 = r18 then (
            kj2 s19) else (
            some (0, s19))) else if (v1 &&& (31)) = 3 then (
          rs xs n (x3 + (1)) fun v21 =>
          rs xs n (x3 + (2)) fun v22 =>
          cl (M_X6_farmer v21 v22 s) fun r23 s24 =>
          rs xs n (x3 + (1)) fun v25 =>
          rs xs n (x3 + (2)) fun v26 =>
          cl (M_X7_farmer v25 v26 s24) fun r27 s28 =>
          if r23 = r27 then (
            kj2 s28) else (
            some (0, s28))) else if (v1 &&& (31)) = 4 then (
          rs xs n (x3 + (1)) fun v30 =>
          cl (M_X6_now v30 s) fun r31 s32 =>
          rs xs n (x3 + (1)) fun v33 =>
          cl (M_X7_now v33 s32) fun r34 s35 =>
          if r31 = r34 then (
            kj2 s35) else (
            some (0, s35))) else if (v1 &&& (31)) = 5 then (
          rs xs n (x3 + (1)) fun v37 =>
          cl (M_X6_day v37 s) fun r38 s39 =>
          rs xs n (x3 + (1)) fun v40 =>
          cl (M_X7_day v40 s39) fun r41 s42 =>
          if r38 = r41 then (
            kj2 s42) else (
            some (0, s42))) else if (v1 &&& (31)) = 6 then (
          rs xs n (x3 + (1)) fun v44 =>
          cl (M_X6_brings v44 s) fun r45 s46 =>
          rs xs n (x3 + (1)) fun v47 =>
          cl (M_X7_brings v47 s46) fun r48 s49 =>
          if r45 = r48 then (
            kj2 s49) else (
            some (0, s49))) else if (v1 &&& (31)) = 7 then (
          rs xs n (x3 + (1)) fun v51 =>
          rs xs n (x3 + (2)) fun v52 =>
          cl (M_X6_hangs v51 v52 s) fun r53 s54 =>
          rs xs n (x3 + (1)) fun v55 =>
          rs xs n (x3 + (2)) fun v56 =>
          cl (M_X7_hangs v55 v56 s54) fun r57 s58 =>
          if r53 = r57 then (
            kj2 s58) else (
            some (0, s58))) else if (v1 &&& (31)) = 8 then (
          cl (M_X6_undo s) fun r60 s61 =>
          cl (M_X7_undo s61) fun r62 s63 =>
          if r60 = r62 then (
            kj2 s63) else (
            some (0, s63))) else if (v1 &&& (31)) = 9 then (
          rs xs n (x3 + (1)) fun v65 =>
          cl (M_X6_start v65 s) fun r66 s67 =>
          rs xs n (x3 + (1)) fun v68 =>
          cl (M_X7_start v68 s67) fun r69 s70 =>
          if r66 = r69 then (
            kj2 s70) else (
            some (0, s70))) else if (v1 &&& (31)) = 10 then (
          rs xs n (x3 + (1)) fun v72 =>
          cl (M_X6_hang v72 s) fun r73 s74 =>
          rs xs n (x3 + (1)) fun v75 =>
          cl (M_X7_hang v75 s74) fun r76 s77 =>
          if r73 = r76 then (
            kj2 s77) else (
            some (0, s77))) else if (v1 &&& (31)) = 11 then (
          rs xs n (x3 + (1)) fun v79 =>
          rs xs n (x3 + (2)) fun v80 =>
          rs xs n (x3 + (3)) fun v81 =>
          rs xs n (x3 + (4)) fun v82 =>
          cl (M_X6_odds v79 v80 v81 v82 s) fun r83 s84 =>
          rs xs n (x3 + (1)) fun v85 =>
          rs xs n (x3 + (2)) fun v86 =>
          rs xs n (x3 + (3)) fun v87 =>
          rs xs n (x3 + (4)) fun v88 =>
          cl (M_X7_odds v85 v86 v87 v88 s84) fun r89 s90 =>
          if r83 = r89 then (
            kj2 s90) else (
            some (0, s90))) else if (v1 &&& (31)) = 12 then (
          rs xs n (x3 + (1)) fun v92 =>
          rs xs n (x3 + (2)) fun v93 =>
          rs xs n (x3 + (3)) fun v94 =>
          cl (M_X6_sees v92 v93 v94 s) fun r95 s96 =>
          rs xs n (x3 + (1)) fun v97 =>
          rs xs n (x3 + (2)) fun v98 =>
          rs xs n (x3 + (3)) fun v99 =>
          cl (M_X7_sees v97 v98 v99 s96) fun r100 s101 =>
          if r95 = r100 then (
            kj2 s101) else (
            some (0, s101))) else if (v1 &&& (31)) = 13 then (
          cl (M_X6_forget s) fun r103 s104 =>
          cl (M_X7_forget s104) fun r105 s106 =>
          if r103 = r105 then (
            kj2 s106) else (
            some (0, s106))) else if (v1 &&& (31)) = 14 then (
          rs xs n (x3 + (1)) fun v108 =>
          cl (M_X6_ones v108 s) fun r109 s110 =>
          rs xs n (x3 + (1)) fun v111 =>
          cl (M_X7_ones v111 s110) fun r112 s113 =>
          if r109 = r112 then (
            kj2 s113) else (
            some (0, s113))) else if (v1 &&& (31)) = 15 then (
          rs xs n (x3 + (1)) fun v115 =>
          cl (M_X6_look v115 s) fun r116 s117 =>
          rs xs n (x3 + (1)) fun v118 =>
          cl (M_X7_look v118 s117) fun r119 s120 =>
          if r116 = r119 then (
            kj2 s120) else (
            some (0, s120))) else if (v1 &&& (31)) = 16 then (
          rs xs n (x3 + (1)) fun v122 =>
          rs xs n (x3 + (2)) fun v123 =>
          cl (M_X6_rate v122 v123 s) fun r124 s125 =>
          rs xs n (x3 + (1)) fun v126 =>
          rs xs n (x3 + (2)) fun v127 =>
          cl (M_X7_rate v126 v127 s125) fun r128 s129 =>
          if r124 = r128 then (
            kj2 s129) else (
            some (0, s129))) else if (v1 &&& (31)) = 17 then (
          rs xs n (x3 + (1)) fun v131 =>
          cl (M_X6_keep v131 s) fun r132 s133 =>
          rs xs n (x3 + (1)) fun v134 =>
          cl (M_X7_keep v134 s133) fun r135 s136 =>
          if r132 = r135 then (
            kj2 s136) else (
            some (0, s136))) else if (v1 &&& (31)) = 18 then (
          rs xs n (x3 + (1)) fun v138 =>
          cl (M_X6_back v138 s) fun r139 s140 =>
          rs xs n (x3 + (1)) fun v141 =>
          cl (M_X7_back v141 s140) fun r142 s143 =>
          if r139 = r142 then (
            kj2 s143) else (
            some (0, s143))) else if (v1 &&& (31)) = 19 then (
          rs xs n (x3 + (1)) fun v145 =>
          cl (M_X6_count v145 s) fun r146 s147 =>
          rs xs n (x3 + (1)) fun v148 =>
          cl (M_X7_count v148 s147) fun r149 s150 =>
          if r146 = r149 then (
            kj2 s150) else (
            some (0, s150))) else if (v1 &&& (31)) = 20 then (
          if (lg_cmp (s.2 0) (s.2 67)) = 0 then (
            kj2 s) else (
            some (0, s))) else (
          kj2 s))
def M_L_law (xs : Nat → Int32) (n : Nat) (s : St) : Option (Int32 × St) :=
  M_L_law_L18 xs n  (fun s153 =>
    some (1, s153)) 600 (0) s

set_option maxRecDepth 20000 in
set_option maxHeartbeats 4000000 in
theorem tM_L_law_L18 {X : Cx} (K : Ok X cL_law RL 4 20) (hR : RZ X cL_law) (xs : Nat → Int32) (n b : Nat) (hX : va_X b n xs X.s X.s.heap) (hbl : b < X.s.heap.size) (hbA : ¬ AA X.E b) (kk : St → Option (Int32 × St)) (hkk : ∀ (s : St), G X 652 [.null, .null, .null, .null] [] s (kk s)) : ∀ (fu : Nat) (x3 : Int32) (s : St), G X 18 [.ref b, .ref (X.B + 0), .ref (X.B + 67), .int x3] [] s (M_L_law_L18 xs n kk fu x3 s) := by
  intro fu
  induction fu with
  | zero => intro x3 s; exact g_none
  | succ fu ih =>
    intro x3 s
    rw [M_L_law_L18]
    refine g_iload_n (pc := 18) K 3 dL_law_18 rfl rfl ?_
    refine g_aload_n (pc := 19) K 0 dL_law_19 rfl rfl ?_
    refine g_slen (pc := 20) K hX hbl hbA dL_law_20 ?_
    refine g_iconst (pc := 21) K (5) dL_law_21 (by decide) ?_
    refine g_isub (pc := 22) K dL_law_22 ?_
    refine g_icmp_gt (pc := 23) K 652 dL_law_23 (by decide) ?_ ?_
    · exact g_wk (hkk  s) trivial
    · refine g_aload_n (pc := 26) K 0 dL_law_26 rfl rfl ?_
      refine g_iload_n (pc := 27) K 3 dL_law_27 rfl rfl ?_
      refine g_sld (pc := 28) K hX hbl hbA dL_law_28 (fun v1 => ?_)
      refine g_bipush (pc := 29) K (31) dL_law_29 (by decide) ?_
      refine g_iand (pc := 31) K dL_law_31 ?_
      refine g_jn (κ := St → Option (Int32 × St)) (fun kj2 => ∀ (s3 : St), G X 646 [.ref b, .ref (X.B + 0), .ref (X.B + 67), .int x3] [] s3 (kj2 s3)) (fun s3 => ?_) (fun kj2 hkj2 => ?_)
      · refine g_iinc (pc := 646) K (5) dL_law_646 rfl (by decide) (by decide) ?_
        change G X 649 [.ref b, .ref (X.B + 0), .ref (X.B + 67), .int (x3 + (5))] [] s3 _
        refine g_goto (pc := 649) K 18 dL_law_649 (by decide) ?_
        exact g_wk (ih (x3 + (5)) s3) ⟨rfl, ⟨rfl, ⟨rfl, ⟨rfl, trivial⟩⟩⟩⟩
      · refine g_case (pc := 32) (0) ?_ (fun n10 => ?_)
        · refine g_tin (pc := 32) (off := 100) K 132 dL_law_32 (by decide) (by decide) (by decide) (by decide) ?_
          refine g_aload_n (pc := 132) K 1 dL_law_132 rfl rfl ?_
          refine g_aload_n (pc := 133) K 0 dL_law_133 rfl rfl ?_
          refine g_iload_n (pc := 134) K 3 dL_law_134 rfl rfl ?_
          refine g_iconst (pc := 135) K (1) dL_law_135 (by decide) ?_
          refine g_iadd (pc := 136) K dL_law_136 ?_
          refine g_sld (pc := 137) K hX hbl hbA dL_law_137 (fun v4 => ?_)
          refine g_callV (pc := 138) (S := []) K (qX6_type X.E v4) (by decide) (ci := 6) rfl (fun _ => ⟨_, ce_6 kd_0⟩) (by decide) (by decide) wcX6_type wiX6 kL_13 wmX6_type weX6_type hyX6_type rfl rfl (Nat.le_of_ble_eq_true rfl) dL_law_138 (fun r5 s6 => ?_)
          change G X 141 [.ref b, .ref (X.B + 0), .ref (X.B + 67), .int x3] [.int r5] s6 _
          refine g_aload_n (pc := 141) K 2 dL_law_141 rfl rfl ?_
          refine g_aload_n (pc := 142) K 0 dL_law_142 rfl rfl ?_
          refine g_iload_n (pc := 143) K 3 dL_law_143 rfl rfl ?_
          refine g_iconst (pc := 144) K (1) dL_law_144 (by decide) ?_
          refine g_iadd (pc := 145) K dL_law_145 ?_
          refine g_sld (pc := 146) K hX hbl hbA dL_law_146 (fun v7 => ?_)
          refine g_callV (pc := 147) (S := [.int r5]) K (qX7_type X.E v7) (by decide) (ci := 7) rfl (fun _ => ⟨_, ce_7 kd_67⟩) (by decide) (by decide) wcX7_type wiX7 kL_17 wmX7_type weX7_type hyX7_type rfl rfl (Nat.le_of_ble_eq_true rfl) dL_law_147 (fun r8 s9 => ?_)
          change G X 150 [.ref b, .ref (X.B + 0), .ref (X.B + 67), .int x3] [.int r8, .int r5] s9 _
          refine g_icmp_eq (pc := 150) K 646 dL_law_150 (by decide) ?_ ?_
          · exact g_wk (hkj2  s9) ⟨rfl, ⟨rfl, ⟨rfl, ⟨rfl, trivial⟩⟩⟩⟩
          · refine g_iconst (pc := 153) K (0) dL_law_153 (by decide) ?_
            exact g_zr0 (pc := 154) hR dL_law_154
        refine g_case (pc := 32) (1) ?_ (fun n15 => ?_)
        · refine g_tin (pc := 32) (off := 123) K 155 dL_law_32 (by decide) (by decide) (by decide) (by decide) ?_
          refine g_aload_n (pc := 155) K 1 dL_law_155 rfl rfl ?_
          refine g_callV (pc := 156) (S := []) K (qX6_clear X.E ) (by decide) (ci := 6) rfl (fun _ => ⟨_, ce_6 kd_0⟩) (by decide) (by decide) wcX6_clear wiX6 kL_18 wmX6_clear weX6_clear hyX6_clear rfl rfl (Nat.le_of_ble_eq_true rfl) dL_law_156 (fun r11 s12 => ?_)
          change G X 159 [.ref b, .ref (X.B + 0), .ref (X.B + 67), .int x3] [.int r11] s12 _
          refine g_aload_n (pc := 159) K 2 dL_law_159 rfl rfl ?_
          refine g_callV (pc := 160) (S := [.int r11]) K (qX7_clear X.E ) (by decide) (ci := 7) rfl (fun _ => ⟨_, ce_7 kd_67⟩) (by decide) (by decide) wcX7_clear wiX7 kL_22 wmX7_clear weX7_clear hyX7_clear rfl rfl (Nat.le_of_ble_eq_true rfl) dL_law_160 (fun r13 s14 => ?_)
          change G X 163 [.ref b, .ref (X.B + 0), .ref (X.B + 67), .int x3] [.int r13, .int r11] s14 _
          refine g_icmp_eq (pc := 163) K 646 dL_law_163 (by decide) ?_ ?_
          · exact g_wk (hkj2  s14) ⟨rfl, ⟨rfl, ⟨rfl, ⟨rfl, trivial⟩⟩⟩⟩
          · refine g_iconst (pc := 166) K (0) dL_law_166 (by decide) ?_
            exact g_zr0 (pc := 167) hR dL_law_167
        refine g_case (pc := 32) (2) ?_ (fun n20 => ?_)
        · refine g_tin (pc := 32) (off := 136) K 168 dL_law_32 (by decide) (by decide) (by decide) (by decide) ?_
          refine g_aload_n (pc := 168) K 1 dL_law_168 rfl rfl ?_
          refine g_callV (pc := 169) (S := []) K (qX6_valley X.E ) (by decide) (ci := 6) rfl (fun _ => ⟨_, ce_6 kd_0⟩) (by decide) (by decide) wcX6_valley wiX6 kL_23 wmX6_valley weX6_valley hyX6_valley rfl rfl (Nat.le_of_ble_eq_true rfl) dL_law_169 (fun r16 s17 => ?_)
          change G X 172 [.ref b, .ref (X.B + 0), .ref (X.B + 67), .int x3] [.int r16] s17 _
          refine g_aload_n (pc := 172) K 2 dL_law_172 rfl rfl ?_
          refine g_callV (pc := 173) (S := [.int r16]) K (qX7_valley X.E ) (by decide) (ci := 7) rfl (fun _ => ⟨_, ce_7 kd_67⟩) (by decide) (by decide) wcX7_valley wiX7 kL_26 wmX7_valley weX7_valley hyX7_valley rfl rfl (Nat.le_of_ble_eq_true rfl) dL_law_173 (fun r18 s19 => ?_)
          change G X 176 [.ref b, .ref (X.B + 0), .ref (X.B + 67), .int x3] [.int r18, .int r16] s19 _
          refine g_icmp_eq (pc := 176) K 646 dL_law_176 (by decide) ?_ ?_
          · exact g_wk (hkj2  s19) ⟨rfl, ⟨rfl, ⟨rfl, ⟨rfl, trivial⟩⟩⟩⟩
          · refine g_iconst (pc := 179) K (0) dL_law_179 (by decide) ?_
            exact g_zr0 (pc := 180) hR dL_law_180
        refine g_case (pc := 32) (3) ?_ (fun n29 => ?_)
        · refine g_tin (pc := 32) (off := 149) K 181 dL_law_32 (by decide) (by decide) (by decide) (by decide) ?_
          refine g_aload_n (pc := 181) K 1 dL_law_181 rfl rfl ?_
          refine g_aload_n (pc := 182) K 0 dL_law_182 rfl rfl ?_
          refine g_iload_n (pc := 183) K 3 dL_law_183 rfl rfl ?_
          refine g_iconst (pc := 184) K (1) dL_law_184 (by decide) ?_
          refine g_iadd (pc := 185) K dL_law_185 ?_
          refine g_sld (pc := 186) K hX hbl hbA dL_law_186 (fun v21 => ?_)
          refine g_aload_n (pc := 187) K 0 dL_law_187 rfl rfl ?_
          refine g_iload_n (pc := 188) K 3 dL_law_188 rfl rfl ?_
          refine g_iconst (pc := 189) K (2) dL_law_189 (by decide) ?_
          refine g_iadd (pc := 190) K dL_law_190 ?_
          refine g_sld (pc := 191) K hX hbl hbA dL_law_191 (fun v22 => ?_)
          refine g_callV (pc := 192) (S := []) K (qX6_farmer X.E v21 v22) (by decide) (ci := 6) rfl (fun _ => ⟨_, ce_6 kd_0⟩) (by decide) (by decide) wcX6_farmer wiX6 kL_27 wmX6_farmer weX6_farmer hyX6_farmer rfl rfl (Nat.le_of_ble_eq_true rfl) dL_law_192 (fun r23 s24 => ?_)
          change G X 195 [.ref b, .ref (X.B + 0), .ref (X.B + 67), .int x3] [.int r23] s24 _
          refine g_aload_n (pc := 195) K 2 dL_law_195 rfl rfl ?_
          refine g_aload_n (pc := 196) K 0 dL_law_196 rfl rfl ?_
          refine g_iload_n (pc := 197) K 3 dL_law_197 rfl rfl ?_
          refine g_iconst (pc := 198) K (1) dL_law_198 (by decide) ?_
          refine g_iadd (pc := 199) K dL_law_199 ?_
          refine g_sld (pc := 200) K hX hbl hbA dL_law_200 (fun v25 => ?_)
          refine g_aload_n (pc := 201) K 0 dL_law_201 rfl rfl ?_
          refine g_iload_n (pc := 202) K 3 dL_law_202 rfl rfl ?_
          refine g_iconst (pc := 203) K (2) dL_law_203 (by decide) ?_
          refine g_iadd (pc := 204) K dL_law_204 ?_
          refine g_sld (pc := 205) K hX hbl hbA dL_law_205 (fun v26 => ?_)
          refine g_callV (pc := 206) (S := [.int r23]) K (qX7_farmer X.E v25 v26) (by decide) (ci := 7) rfl (fun _ => ⟨_, ce_7 kd_67⟩) (by decide) (by decide) wcX7_farmer wiX7 kL_31 wmX7_farmer weX7_farmer hyX7_farmer rfl rfl (Nat.le_of_ble_eq_true rfl) dL_law_206 (fun r27 s28 => ?_)
          change G X 209 [.ref b, .ref (X.B + 0), .ref (X.B + 67), .int x3] [.int r27, .int r23] s28 _
          refine g_icmp_eq (pc := 209) K 646 dL_law_209 (by decide) ?_ ?_
          · exact g_wk (hkj2  s28) ⟨rfl, ⟨rfl, ⟨rfl, ⟨rfl, trivial⟩⟩⟩⟩
          · refine g_iconst (pc := 212) K (0) dL_law_212 (by decide) ?_
            exact g_zr0 (pc := 213) hR dL_law_213
        refine g_case (pc := 32) (4) ?_ (fun n36 => ?_)
        · refine g_tin (pc := 32) (off := 182) K 214 dL_law_32 (by decide) (by decide) (by decide) (by decide) ?_
          refine g_aload_n (pc := 214) K 1 dL_law_214 rfl rfl ?_
          refine g_aload_n (pc := 215) K 0 dL_law_215 rfl rfl ?_
          refine g_iload_n (pc := 216) K 3 dL_law_216 rfl rfl ?_
          refine g_iconst (pc := 217) K (1) dL_law_217 (by decide) ?_
          refine g_iadd (pc := 218) K dL_law_218 ?_
          refine g_sld (pc := 219) K hX hbl hbA dL_law_219 (fun v30 => ?_)
          refine g_callV (pc := 220) (S := []) K (qX6_now X.E v30) (by decide) (ci := 6) rfl (fun _ => ⟨_, ce_6 kd_0⟩) (by decide) (by decide) wcX6_now wiX6 kL_32 wmX6_now weX6_now hyX6_now rfl rfl (Nat.le_of_ble_eq_true rfl) dL_law_220 (fun r31 s32 => ?_)
          change G X 223 [.ref b, .ref (X.B + 0), .ref (X.B + 67), .int x3] [.int r31] s32 _
          refine g_aload_n (pc := 223) K 2 dL_law_223 rfl rfl ?_
          refine g_aload_n (pc := 224) K 0 dL_law_224 rfl rfl ?_
          refine g_iload_n (pc := 225) K 3 dL_law_225 rfl rfl ?_
          refine g_iconst (pc := 226) K (1) dL_law_226 (by decide) ?_
          refine g_iadd (pc := 227) K dL_law_227 ?_
          refine g_sld (pc := 228) K hX hbl hbA dL_law_228 (fun v33 => ?_)
          refine g_callV (pc := 229) (S := [.int r31]) K (qX7_now X.E v33) (by decide) (ci := 7) rfl (fun _ => ⟨_, ce_7 kd_67⟩) (by decide) (by decide) wcX7_now wiX7 kL_35 wmX7_now weX7_now hyX7_now rfl rfl (Nat.le_of_ble_eq_true rfl) dL_law_229 (fun r34 s35 => ?_)
          change G X 232 [.ref b, .ref (X.B + 0), .ref (X.B + 67), .int x3] [.int r34, .int r31] s35 _
          refine g_icmp_eq (pc := 232) K 646 dL_law_232 (by decide) ?_ ?_
          · exact g_wk (hkj2  s35) ⟨rfl, ⟨rfl, ⟨rfl, ⟨rfl, trivial⟩⟩⟩⟩
          · refine g_iconst (pc := 235) K (0) dL_law_235 (by decide) ?_
            exact g_zr0 (pc := 236) hR dL_law_236
        refine g_case (pc := 32) (5) ?_ (fun n43 => ?_)
        · refine g_tin (pc := 32) (off := 205) K 237 dL_law_32 (by decide) (by decide) (by decide) (by decide) ?_
          refine g_aload_n (pc := 237) K 1 dL_law_237 rfl rfl ?_
          refine g_aload_n (pc := 238) K 0 dL_law_238 rfl rfl ?_
          refine g_iload_n (pc := 239) K 3 dL_law_239 rfl rfl ?_
          refine g_iconst (pc := 240) K (1) dL_law_240 (by decide) ?_
          refine g_iadd (pc := 241) K dL_law_241 ?_
          refine g_sld (pc := 242) K hX hbl hbA dL_law_242 (fun v37 => ?_)
          refine g_callV (pc := 243) (S := []) K (qX6_day X.E v37) (by decide) (ci := 6) rfl (fun _ => ⟨_, ce_6 kd_0⟩) (by decide) (by decide) wcX6_day wiX6 kL_36 wmX6_day weX6_day hyX6_day rfl rfl (Nat.le_of_ble_eq_true rfl) dL_law_243 (fun r38 s39 => ?_)
          change G X 246 [.ref b, .ref (X.B + 0), .ref (X.B + 67), .int x3] [.int r38] s39 _
          refine g_aload_n (pc := 246) K 2 dL_law_246 rfl rfl ?_
          refine g_aload_n (pc := 247) K 0 dL_law_247 rfl rfl ?_
          refine g_iload_n (pc := 248) K 3 dL_law_248 rfl rfl ?_
          refine g_iconst (pc := 249) K (1) dL_law_249 (by decide) ?_
          refine g_iadd (pc := 250) K dL_law_250 ?_
          refine g_sld (pc := 251) K hX hbl hbA dL_law_251 (fun v40 => ?_)
          refine g_callV (pc := 252) (S := [.int r38]) K (qX7_day X.E v40) (by decide) (ci := 7) rfl (fun _ => ⟨_, ce_7 kd_67⟩) (by decide) (by decide) wcX7_day wiX7 kL_39 wmX7_day weX7_day hyX7_day rfl rfl (Nat.le_of_ble_eq_true rfl) dL_law_252 (fun r41 s42 => ?_)
          change G X 255 [.ref b, .ref (X.B + 0), .ref (X.B + 67), .int x3] [.int r41, .int r38] s42 _
          refine g_icmp_eq (pc := 255) K 646 dL_law_255 (by decide) ?_ ?_
          · exact g_wk (hkj2  s42) ⟨rfl, ⟨rfl, ⟨rfl, ⟨rfl, trivial⟩⟩⟩⟩
          · refine g_iconst (pc := 258) K (0) dL_law_258 (by decide) ?_
            exact g_zr0 (pc := 259) hR dL_law_259
        refine g_case (pc := 32) (6) ?_ (fun n50 => ?_)
        · refine g_tin (pc := 32) (off := 228) K 260 dL_law_32 (by decide) (by decide) (by decide) (by decide) ?_
          refine g_aload_n (pc := 260) K 1 dL_law_260 rfl rfl ?_
          refine g_aload_n (pc := 261) K 0 dL_law_261 rfl rfl ?_
          refine g_iload_n (pc := 262) K 3 dL_law_262 rfl rfl ?_
          refine g_iconst (pc := 263) K (1) dL_law_263 (by decide) ?_
          refine g_iadd (pc := 264) K dL_law_264 ?_
          refine g_sld (pc := 265) K hX hbl hbA dL_law_265 (fun v44 => ?_)
          refine g_callV (pc := 266) (S := []) K (qX6_brings X.E v44) (by decide) (ci := 6) rfl (fun _ => ⟨_, ce_6 kd_0⟩) (by decide) (by decide) wcX6_brings wiX6 kL_40 wmX6_brings weX6_brings hyX6_brings rfl rfl (Nat.le_of_ble_eq_true rfl) dL_law_266 (fun r45 s46 => ?_)
          change G X 269 [.ref b, .ref (X.B + 0), .ref (X.B + 67), .int x3] [.int r45] s46 _
          refine g_aload_n (pc := 269) K 2 dL_law_269 rfl rfl ?_
          refine g_aload_n (pc := 270) K 0 dL_law_270 rfl rfl ?_
          refine g_iload_n (pc := 271) K 3 dL_law_271 rfl rfl ?_
          refine g_iconst (pc := 272) K (1) dL_law_272 (by decide) ?_
          refine g_iadd (pc := 273) K dL_law_273 ?_
          refine g_sld (pc := 274) K hX hbl hbA dL_law_274 (fun v47 => ?_)
          refine g_callV (pc := 275) (S := [.int r45]) K (qX7_brings X.E v47) (by decide) (ci := 7) rfl (fun _ => ⟨_, ce_7 kd_67⟩) (by decide) (by decide) wcX7_brings wiX7 kL_43 wmX7_brings weX7_brings hyX7_brings rfl rfl (Nat.le_of_ble_eq_true rfl) dL_law_275 (fun r48 s49 => ?_)
          change G X 278 [.ref b, .ref (X.B + 0), .ref (X.B + 67), .int x3] [.int r48, .int r45] s49 _
          refine g_icmp_eq (pc := 278) K 646 dL_law_278 (by decide) ?_ ?_
          · exact g_wk (hkj2  s49) ⟨rfl, ⟨rfl, ⟨rfl, ⟨rfl, trivial⟩⟩⟩⟩
          · refine g_iconst (pc := 281) K (0) dL_law_281 (by decide) ?_
            exact g_zr0 (pc := 282) hR dL_law_282
        refine g_case (pc := 32) (7) ?_ (fun n59 => ?_)
        · refine g_tin (pc := 32) (off := 251) K 283 dL_law_32 (by decide) (by decide) (by decide) (by decide) ?_
          refine g_aload_n (pc := 283) K 1 dL_law_283 rfl rfl ?_
          refine g_aload_n (pc := 284) K 0 dL_law_284 rfl rfl ?_
          refine g_iload_n (pc := 285) K 3 dL_law_285 rfl rfl ?_
          refine g_iconst (pc := 286) K (1) dL_law_286 (by decide) ?_
          refine g_iadd (pc := 287) K dL_law_287 ?_
          refine g_sld (pc := 288) K hX hbl hbA dL_law_288 (fun v51 => ?_)
          refine g_aload_n (pc := 289) K 0 dL_law_289 rfl rfl ?_
          refine g_iload_n (pc := 290) K 3 dL_law_290 rfl rfl ?_
          refine g_iconst (pc := 291) K (2) dL_law_291 (by decide) ?_
          refine g_iadd (pc := 292) K dL_law_292 ?_
          refine g_sld (pc := 293) K hX hbl hbA dL_law_293 (fun v52 => ?_)
          refine g_callV (pc := 294) (S := []) K (qX6_hangs X.E v51 v52) (by decide) (ci := 6) rfl (fun _ => ⟨_, ce_6 kd_0⟩) (by decide) (by decide) wcX6_hangs wiX6 kL_44 wmX6_hangs weX6_hangs hyX6_hangs rfl rfl (Nat.le_of_ble_eq_true rfl) dL_law_294 (fun r53 s54 => ?_)
          change G X 297 [.ref b, .ref (X.B + 0), .ref (X.B + 67), .int x3] [.int r53] s54 _
          refine g_aload_n (pc := 297) K 2 dL_law_297 rfl rfl ?_
          refine g_aload_n (pc := 298) K 0 dL_law_298 rfl rfl ?_
          refine g_iload_n (pc := 299) K 3 dL_law_299 rfl rfl ?_
          refine g_iconst (pc := 300) K (1) dL_law_300 (by decide) ?_
          refine g_iadd (pc := 301) K dL_law_301 ?_
          refine g_sld (pc := 302) K hX hbl hbA dL_law_302 (fun v55 => ?_)
          refine g_aload_n (pc := 303) K 0 dL_law_303 rfl rfl ?_
          refine g_iload_n (pc := 304) K 3 dL_law_304 rfl rfl ?_
          refine g_iconst (pc := 305) K (2) dL_law_305 (by decide) ?_
          refine g_iadd (pc := 306) K dL_law_306 ?_
          refine g_sld (pc := 307) K hX hbl hbA dL_law_307 (fun v56 => ?_)
          refine g_callV (pc := 308) (S := [.int r53]) K (qX7_hangs X.E v55 v56) (by decide) (ci := 7) rfl (fun _ => ⟨_, ce_7 kd_67⟩) (by decide) (by decide) wcX7_hangs wiX7 kL_47 wmX7_hangs weX7_hangs hyX7_hangs rfl rfl (Nat.le_of_ble_eq_true rfl) dL_law_308 (fun r57 s58 => ?_)
          change G X 311 [.ref b, .ref (X.B + 0), .ref (X.B + 67), .int x3] [.int r57, .int r53] s58 _
          refine g_icmp_eq (pc := 311) K 646 dL_law_311 (by decide) ?_ ?_
          · exact g_wk (hkj2  s58) ⟨rfl, ⟨rfl, ⟨rfl, ⟨rfl, trivial⟩⟩⟩⟩
          · refine g_iconst (pc := 314) K (0) dL_law_314 (by decide) ?_
            exact g_zr0 (pc := 315) hR dL_law_315
        refine g_case (pc := 32) (8) ?_ (fun n64 => ?_)
        · refine g_tin (pc := 32) (off := 284) K 316 dL_law_32 (by decide) (by decide) (by decide) (by decide) ?_
          refine g_aload_n (pc := 316) K 1 dL_law_316 rfl rfl ?_
          refine g_callV (pc := 317) (S := []) K (qX6_undo X.E ) (by decide) (ci := 6) rfl (fun _ => ⟨_, ce_6 kd_0⟩) (by decide) (by decide) wcX6_undo wiX6 kL_48 wmX6_undo weX6_undo hyX6_undo rfl rfl (Nat.le_of_ble_eq_true rfl) dL_law_317 (fun r60 s61 => ?_)
          change G X 320 [.ref b, .ref (X.B + 0), .ref (X.B + 67), .int x3] [.int r60] s61 _
          refine g_aload_n (pc := 320) K 2 dL_law_320 rfl rfl ?_
          refine g_callV (pc := 321) (S := [.int r60]) K (qX7_undo X.E ) (by decide) (ci := 7) rfl (fun _ => ⟨_, ce_7 kd_67⟩) (by decide) (by decide) wcX7_undo wiX7 kL_51 wmX7_undo weX7_undo hyX7_undo rfl rfl (Nat.le_of_ble_eq_true rfl) dL_law_321 (fun r62 s63 => ?_)
          change G X 324 [.ref b, .ref (X.B + 0), .ref (X.B + 67), .int x3] [.int r62, .int r60] s63 _
          refine g_icmp_eq (pc := 324) K 646 dL_law_324 (by decide) ?_ ?_
          · exact g_wk (hkj2  s63) ⟨rfl, ⟨rfl, ⟨rfl, ⟨rfl, trivial⟩⟩⟩⟩
          · refine g_iconst (pc := 327) K (0) dL_law_327 (by decide) ?_
            exact g_zr0 (pc := 328) hR dL_law_328
        refine g_case (pc := 32) (9) ?_ (fun n71 => ?_)
        · refine g_tin (pc := 32) (off := 297) K 329 dL_law_32 (by decide) (by decide) (by decide) (by decide) ?_
          refine g_aload_n (pc := 329) K 1 dL_law_329 rfl rfl ?_
          refine g_aload_n (pc := 330) K 0 dL_law_330 rfl rfl ?_
          refine g_iload_n (pc := 331) K 3 dL_law_331 rfl rfl ?_
          refine g_iconst (pc := 332) K (1) dL_law_332 (by decide) ?_
          refine g_iadd (pc := 333) K dL_law_333 ?_
          refine g_sld (pc := 334) K hX hbl hbA dL_law_334 (fun v65 => ?_)
          refine g_callV (pc := 335) (S := []) K (qX6_start X.E v65) (by decide) (ci := 6) rfl (fun _ => ⟨_, ce_6 kd_0⟩) (by decide) (by decide) wcX6_start wiX6 kL_52 wmX6_start weX6_start hyX6_start rfl rfl (Nat.le_of_ble_eq_true rfl) dL_law_335 (fun r66 s67 => ?_)
          change G X 338 [.ref b, .ref (X.B + 0), .ref (X.B + 67), .int x3] [.int r66] s67 _
          refine g_aload_n (pc := 338) K 2 dL_law_338 rfl rfl ?_
          refine g_aload_n (pc := 339) K 0 dL_law_339 rfl rfl ?_
          refine g_iload_n (pc := 340) K 3 dL_law_340 rfl rfl ?_
          refine g_iconst (pc := 341) K (1) dL_law_341 (by decide) ?_
          refine g_iadd (pc := 342) K dL_law_342 ?_
          refine g_sld (pc := 343) K hX hbl hbA dL_law_343 (fun v68 => ?_)
          refine g_callV (pc := 344) (S := [.int r66]) K (qX7_start X.E v68) (by decide) (ci := 7) rfl (fun _ => ⟨_, ce_7 kd_67⟩) (by decide) (by decide) wcX7_start wiX7 kL_55 wmX7_start weX7_start hyX7_start rfl rfl (Nat.le_of_ble_eq_true rfl) dL_law_344 (fun r69 s70 => ?_)
          change G X 347 [.ref b, .ref (X.B + 0), .ref (X.B + 67), .int x3] [.int r69, .int r66] s70 _
          refine g_icmp_eq (pc := 347) K 646 dL_law_347 (by decide) ?_ ?_
          · exact g_wk (hkj2  s70) ⟨rfl, ⟨rfl, ⟨rfl, ⟨rfl, trivial⟩⟩⟩⟩
          · refine g_iconst (pc := 350) K (0) dL_law_350 (by decide) ?_
            exact g_zr0 (pc := 351) hR dL_law_351
        refine g_case (pc := 32) (10) ?_ (fun n78 => ?_)
        · refine g_tin (pc := 32) (off := 320) K 352 dL_law_32 (by decide) (by decide) (by decide) (by decide) ?_
          refine g_aload_n (pc := 352) K 1 dL_law_352 rfl rfl ?_
          refine g_aload_n (pc := 353) K 0 dL_law_353 rfl rfl ?_
          refine g_iload_n (pc := 354) K 3 dL_law_354 rfl rfl ?_
          refine g_iconst (pc := 355) K (1) dL_law_355 (by decide) ?_
          refine g_iadd (pc := 356) K dL_law_356 ?_
          refine g_sld (pc := 357) K hX hbl hbA dL_law_357 (fun v72 => ?_)
          refine g_callV (pc := 358) (S := []) K (qX6_hang X.E v72) (by decide) (ci := 6) rfl (fun _ => ⟨_, ce_6 kd_0⟩) (by decide) (by decide) wcX6_hang wiX6 kL_56 wmX6_hang weX6_hang hyX6_hang rfl rfl (Nat.le_of_ble_eq_true rfl) dL_law_358 (fun r73 s74 => ?_)
          change G X 361 [.ref b, .ref (X.B + 0), .ref (X.B + 67), .int x3] [.int r73] s74 _
          refine g_aload_n (pc := 361) K 2 dL_law_361 rfl rfl ?_
          refine g_aload_n (pc := 362) K 0 dL_law_362 rfl rfl ?_
          refine g_iload_n (pc := 363) K 3 dL_law_363 rfl rfl ?_
          refine g_iconst (pc := 364) K (1) dL_law_364 (by decide) ?_
          refine g_iadd (pc := 365) K dL_law_365 ?_
          refine g_sld (pc := 366) K hX hbl hbA dL_law_366 (fun v75 => ?_)
          refine g_callV (pc := 367) (S := [.int r73]) K (qX7_hang X.E v75) (by decide) (ci := 7) rfl (fun _ => ⟨_, ce_7 kd_67⟩) (by decide) (by decide) wcX7_hang wiX7 kL_59 wmX7_hang weX7_hang hyX7_hang rfl rfl (Nat.le_of_ble_eq_true rfl) dL_law_367 (fun r76 s77 => ?_)
          change G X 370 [.ref b, .ref (X.B + 0), .ref (X.B + 67), .int x3] [.int r76, .int r73] s77 _
          refine g_icmp_eq (pc := 370) K 646 dL_law_370 (by decide) ?_ ?_
          · exact g_wk (hkj2  s77) ⟨rfl, ⟨rfl, ⟨rfl, ⟨rfl, trivial⟩⟩⟩⟩
          · refine g_iconst (pc := 373) K (0) dL_law_373 (by decide) ?_
            exact g_zr0 (pc := 374) hR dL_law_374
        refine g_case (pc := 32) (11) ?_ (fun n91 => ?_)
        · refine g_tin (pc := 32) (off := 343) K 375 dL_law_32 (by decide) (by decide) (by decide) (by decide) ?_
          refine g_aload_n (pc := 375) K 1 dL_law_375 rfl rfl ?_
          refine g_aload_n (pc := 376) K 0 dL_law_376 rfl rfl ?_
          refine g_iload_n (pc := 377) K 3 dL_law_377 rfl rfl ?_
          refine g_iconst (pc := 378) K (1) dL_law_378 (by decide) ?_
          refine g_iadd (pc := 379) K dL_law_379 ?_
          refine g_sld (pc := 380) K hX hbl hbA dL_law_380 (fun v79 => ?_)
          refine g_aload_n (pc := 381) K 0 dL_law_381 rfl rfl ?_
          refine g_iload_n (pc := 382) K 3 dL_law_382 rfl rfl ?_
          refine g_iconst (pc := 383) K (2) dL_law_383 (by decide) ?_
          refine g_iadd (pc := 384) K dL_law_384 ?_
          refine g_sld (pc := 385) K hX hbl hbA dL_law_385 (fun v80 => ?_)
          refine g_aload_n (pc := 386) K 0 dL_law_386 rfl rfl ?_
          refine g_iload_n (pc := 387) K 3 dL_law_387 rfl rfl ?_
          refine g_iconst (pc := 388) K (3) dL_law_388 (by decide) ?_
          refine g_iadd (pc := 389) K dL_law_389 ?_
          refine g_sld (pc := 390) K hX hbl hbA dL_law_390 (fun v81 => ?_)
          refine g_aload_n (pc := 391) K 0 dL_law_391 rfl rfl ?_
          refine g_iload_n (pc := 392) K 3 dL_law_392 rfl rfl ?_
          refine g_iconst (pc := 393) K (4) dL_law_393 (by decide) ?_
          refine g_iadd (pc := 394) K dL_law_394 ?_
          refine g_sld (pc := 395) K hX hbl hbA dL_law_395 (fun v82 => ?_)
          refine g_callV (pc := 396) (S := []) K (qX6_odds X.E v79 v80 v81 v82) (by decide) (ci := 6) rfl (fun _ => ⟨_, ce_6 kd_0⟩) (by decide) (by decide) wcX6_odds wiX6 kL_60 wmX6_odds weX6_odds hyX6_odds rfl rfl (Nat.le_of_ble_eq_true rfl) dL_law_396 (fun r83 s84 => ?_)
          change G X 399 [.ref b, .ref (X.B + 0), .ref (X.B + 67), .int x3] [.int r83] s84 _
          refine g_aload_n (pc := 399) K 2 dL_law_399 rfl rfl ?_
          refine g_aload_n (pc := 400) K 0 dL_law_400 rfl rfl ?_
          refine g_iload_n (pc := 401) K 3 dL_law_401 rfl rfl ?_
          refine g_iconst (pc := 402) K (1) dL_law_402 (by decide) ?_
          refine g_iadd (pc := 403) K dL_law_403 ?_
          refine g_sld (pc := 404) K hX hbl hbA dL_law_404 (fun v85 => ?_)
          refine g_aload_n (pc := 405) K 0 dL_law_405 rfl rfl ?_
          refine g_iload_n (pc := 406) K 3 dL_law_406 rfl rfl ?_
          refine g_iconst (pc := 407) K (2) dL_law_407 (by decide) ?_
          refine g_iadd (pc := 408) K dL_law_408 ?_
          refine g_sld (pc := 409) K hX hbl hbA dL_law_409 (fun v86 => ?_)
          refine g_aload_n (pc := 410) K 0 dL_law_410 rfl rfl ?_
          refine g_iload_n (pc := 411) K 3 dL_law_411 rfl rfl ?_
          refine g_iconst (pc := 412) K (3) dL_law_412 (by decide) ?_
          refine g_iadd (pc := 413) K dL_law_413 ?_
          refine g_sld (pc := 414) K hX hbl hbA dL_law_414 (fun v87 => ?_)
          refine g_aload_n (pc := 415) K 0 dL_law_415 rfl rfl ?_
          refine g_iload_n (pc := 416) K 3 dL_law_416 rfl rfl ?_
          refine g_iconst (pc := 417) K (4) dL_law_417 (by decide) ?_
          refine g_iadd (pc := 418) K dL_law_418 ?_
          refine g_sld (pc := 419) K hX hbl hbA dL_law_419 (fun v88 => ?_)
          refine g_callV (pc := 420) (S := [.int r83]) K (qX7_odds X.E v85 v86 v87 v88) (by decide) (ci := 7) rfl (fun _ => ⟨_, ce_7 kd_67⟩) (by decide) (by decide) wcX7_odds wiX7 kL_64 wmX7_odds weX7_odds hyX7_odds rfl rfl (Nat.le_of_ble_eq_true rfl) dL_law_420 (fun r89 s90 => ?_)
          change G X 423 [.ref b, .ref (X.B + 0), .ref (X.B + 67), .int x3] [.int r89, .int r83] s90 _
          refine g_icmp_eq (pc := 423) K 646 dL_law_423 (by decide) ?_ ?_
          · exact g_wk (hkj2  s90) ⟨rfl, ⟨rfl, ⟨rfl, ⟨rfl, trivial⟩⟩⟩⟩
          · refine g_iconst (pc := 426) K (0) dL_law_426 (by decide) ?_
            exact g_zr0 (pc := 427) hR dL_law_427
        refine g_case (pc := 32) (12) ?_ (fun n102 => ?_)
        · refine g_tin (pc := 32) (off := 396) K 428 dL_law_32 (by decide) (by decide) (by decide) (by decide) ?_
          refine g_aload_n (pc := 428) K 1 dL_law_428 rfl rfl ?_
          refine g_aload_n (pc := 429) K 0 dL_law_429 rfl rfl ?_
          refine g_iload_n (pc := 430) K 3 dL_law_430 rfl rfl ?_
          refine g_iconst (pc := 431) K (1) dL_law_431 (by decide) ?_
          refine g_iadd (pc := 432) K dL_law_432 ?_
          refine g_sld (pc := 433) K hX hbl hbA dL_law_433 (fun v92 => ?_)
          refine g_aload_n (pc := 434) K 0 dL_law_434 rfl rfl ?_
          refine g_iload_n (pc := 435) K 3 dL_law_435 rfl rfl ?_
          refine g_iconst (pc := 436) K (2) dL_law_436 (by decide) ?_
          refine g_iadd (pc := 437) K dL_law_437 ?_
          refine g_sld (pc := 438) K hX hbl hbA dL_law_438 (fun v93 => ?_)
          refine g_aload_n (pc := 439) K 0 dL_law_439 rfl rfl ?_
          refine g_iload_n (pc := 440) K 3 dL_law_440 rfl rfl ?_
          refine g_iconst (pc := 441) K (3) dL_law_441 (by decide) ?_
          refine g_iadd (pc := 442) K dL_law_442 ?_
          refine g_sld (pc := 443) K hX hbl hbA dL_law_443 (fun v94 => ?_)
          refine g_callV (pc := 444) (S := []) K (qX6_sees X.E v92 v93 v94) (by decide) (ci := 6) rfl (fun _ => ⟨_, ce_6 kd_0⟩) (by decide) (by decide) wcX6_sees wiX6 kL_65 wmX6_sees weX6_sees hyX6_sees rfl rfl (Nat.le_of_ble_eq_true rfl) dL_law_444 (fun r95 s96 => ?_)
          change G X 447 [.ref b, .ref (X.B + 0), .ref (X.B + 67), .int x3] [.int r95] s96 _
          refine g_aload_n (pc := 447) K 2 dL_law_447 rfl rfl ?_
          refine g_aload_n (pc := 448) K 0 dL_law_448 rfl rfl ?_
          refine g_iload_n (pc := 449) K 3 dL_law_449 rfl rfl ?_
          refine g_iconst (pc := 450) K (1) dL_law_450 (by decide) ?_
          refine g_iadd (pc := 451) K dL_law_451 ?_
          refine g_sld (pc := 452) K hX hbl hbA dL_law_452 (fun v97 => ?_)
          refine g_aload_n (pc := 453) K 0 dL_law_453 rfl rfl ?_
          refine g_iload_n (pc := 454) K 3 dL_law_454 rfl rfl ?_
          refine g_iconst (pc := 455) K (2) dL_law_455 (by decide) ?_
          refine g_iadd (pc := 456) K dL_law_456 ?_
          refine g_sld (pc := 457) K hX hbl hbA dL_law_457 (fun v98 => ?_)
          refine g_aload_n (pc := 458) K 0 dL_law_458 rfl rfl ?_
          refine g_iload_n (pc := 459) K 3 dL_law_459 rfl rfl ?_
          refine g_iconst (pc := 460) K (3) dL_law_460 (by decide) ?_
          refine g_iadd (pc := 461) K dL_law_461 ?_
          refine g_sld (pc := 462) K hX hbl hbA dL_law_462 (fun v99 => ?_)
          refine g_callV (pc := 463) (S := [.int r95]) K (qX7_sees X.E v97 v98 v99) (by decide) (ci := 7) rfl (fun _ => ⟨_, ce_7 kd_67⟩) (by decide) (by decide) wcX7_sees wiX7 kL_69 wmX7_sees weX7_sees hyX7_sees rfl rfl (Nat.le_of_ble_eq_true rfl) dL_law_463 (fun r100 s101 => ?_)
          change G X 466 [.ref b, .ref (X.B + 0), .ref (X.B + 67), .int x3] [.int r100, .int r95] s101 _
          refine g_icmp_eq (pc := 466) K 646 dL_law_466 (by decide) ?_ ?_
          · exact g_wk (hkj2  s101) ⟨rfl, ⟨rfl, ⟨rfl, ⟨rfl, trivial⟩⟩⟩⟩
          · refine g_iconst (pc := 469) K (0) dL_law_469 (by decide) ?_
            exact g_zr0 (pc := 470) hR dL_law_470
        refine g_case (pc := 32) (13) ?_ (fun n107 => ?_)
        · refine g_tin (pc := 32) (off := 439) K 471 dL_law_32 (by decide) (by decide) (by decide) (by decide) ?_
          refine g_aload_n (pc := 471) K 1 dL_law_471 rfl rfl ?_
          refine g_callV (pc := 472) (S := []) K (qX6_forget X.E ) (by decide) (ci := 6) rfl (fun _ => ⟨_, ce_6 kd_0⟩) (by decide) (by decide) wcX6_forget wiX6 kL_70 wmX6_forget weX6_forget hyX6_forget rfl rfl (Nat.le_of_ble_eq_true rfl) dL_law_472 (fun r103 s104 => ?_)
          change G X 475 [.ref b, .ref (X.B + 0), .ref (X.B + 67), .int x3] [.int r103] s104 _
          refine g_aload_n (pc := 475) K 2 dL_law_475 rfl rfl ?_
          refine g_callV (pc := 476) (S := [.int r103]) K (qX7_forget X.E ) (by decide) (ci := 7) rfl (fun _ => ⟨_, ce_7 kd_67⟩) (by decide) (by decide) wcX7_forget wiX7 kL_73 wmX7_forget weX7_forget hyX7_forget rfl rfl (Nat.le_of_ble_eq_true rfl) dL_law_476 (fun r105 s106 => ?_)
          change G X 479 [.ref b, .ref (X.B + 0), .ref (X.B + 67), .int x3] [.int r105, .int r103] s106 _
          refine g_icmp_eq (pc := 479) K 646 dL_law_479 (by decide) ?_ ?_
          · exact g_wk (hkj2  s106) ⟨rfl, ⟨rfl, ⟨rfl, ⟨rfl, trivial⟩⟩⟩⟩
          · refine g_iconst (pc := 482) K (0) dL_law_482 (by decide) ?_
            exact g_zr0 (pc := 483) hR dL_law_483
        refine g_case (pc := 32) (14) ?_ (fun n114 => ?_)
        · refine g_tin (pc := 32) (off := 452) K 484 dL_law_32 (by decide) (by decide) (by decide) (by decide) ?_
          refine g_aload_n (pc := 484) K 1 dL_law_484 rfl rfl ?_
          refine g_aload_n (pc := 485) K 0 dL_law_485 rfl rfl ?_
          refine g_iload_n (pc := 486) K 3 dL_law_486 rfl rfl ?_
          refine g_iconst (pc := 487) K (1) dL_law_487 (by decide) ?_
          refine g_iadd (pc := 488) K dL_law_488 ?_
          refine g_sld (pc := 489) K hX hbl hbA dL_law_489 (fun v108 => ?_)
          refine g_callV (pc := 490) (S := []) K (qX6_ones X.E v108) (by decide) (ci := 6) rfl (fun _ => ⟨_, ce_6 kd_0⟩) (by decide) (by decide) wcX6_ones wiX6 kL_74 wmX6_ones weX6_ones hyX6_ones rfl rfl (Nat.le_of_ble_eq_true rfl) dL_law_490 (fun r109 s110 => ?_)
          change G X 493 [.ref b, .ref (X.B + 0), .ref (X.B + 67), .int x3] [.int r109] s110 _
          refine g_aload_n (pc := 493) K 2 dL_law_493 rfl rfl ?_
          refine g_aload_n (pc := 494) K 0 dL_law_494 rfl rfl ?_
          refine g_iload_n (pc := 495) K 3 dL_law_495 rfl rfl ?_
          refine g_iconst (pc := 496) K (1) dL_law_496 (by decide) ?_
          refine g_iadd (pc := 497) K dL_law_497 ?_
          refine g_sld (pc := 498) K hX hbl hbA dL_law_498 (fun v111 => ?_)
          refine g_callV (pc := 499) (S := [.int r109]) K (qX7_ones X.E v111) (by decide) (ci := 7) rfl (fun _ => ⟨_, ce_7 kd_67⟩) (by decide) (by decide) wcX7_ones wiX7 kL_77 wmX7_ones weX7_ones hyX7_ones rfl rfl (Nat.le_of_ble_eq_true rfl) dL_law_499 (fun r112 s113 => ?_)
          change G X 502 [.ref b, .ref (X.B + 0), .ref (X.B + 67), .int x3] [.int r112, .int r109] s113 _
          refine g_icmp_eq (pc := 502) K 646 dL_law_502 (by decide) ?_ ?_
          · exact g_wk (hkj2  s113) ⟨rfl, ⟨rfl, ⟨rfl, ⟨rfl, trivial⟩⟩⟩⟩
          · refine g_iconst (pc := 505) K (0) dL_law_505 (by decide) ?_
            exact g_zr0 (pc := 506) hR dL_law_506
        refine g_case (pc := 32) (15) ?_ (fun n121 => ?_)
        · refine g_tin (pc := 32) (off := 475) K 507 dL_law_32 (by decide) (by decide) (by decide) (by decide) ?_
          refine g_aload_n (pc := 507) K 1 dL_law_507 rfl rfl ?_
          refine g_aload_n (pc := 508) K 0 dL_law_508 rfl rfl ?_
          refine g_iload_n (pc := 509) K 3 dL_law_509 rfl rfl ?_
          refine g_iconst (pc := 510) K (1) dL_law_510 (by decide) ?_
          refine g_iadd (pc := 511) K dL_law_511 ?_
          refine g_sld (pc := 512) K hX hbl hbA dL_law_512 (fun v115 => ?_)
          refine g_callV (pc := 513) (S := []) K (qX6_look X.E v115) (by decide) (ci := 6) rfl (fun _ => ⟨_, ce_6 kd_0⟩) (by decide) (by decide) wcX6_look wiX6 kL_78 wmX6_look weX6_look hyX6_look rfl rfl (Nat.le_of_ble_eq_true rfl) dL_law_513 (fun r116 s117 => ?_)
          change G X 516 [.ref b, .ref (X.B + 0), .ref (X.B + 67), .int x3] [.int r116] s117 _
          refine g_aload_n (pc := 516) K 2 dL_law_516 rfl rfl ?_
          refine g_aload_n (pc := 517) K 0 dL_law_517 rfl rfl ?_
          refine g_iload_n (pc := 518) K 3 dL_law_518 rfl rfl ?_
          refine g_iconst (pc := 519) K (1) dL_law_519 (by decide) ?_
          refine g_iadd (pc := 520) K dL_law_520 ?_
          refine g_sld (pc := 521) K hX hbl hbA dL_law_521 (fun v118 => ?_)
          refine g_callV (pc := 522) (S := [.int r116]) K (qX7_look X.E v118) (by decide) (ci := 7) rfl (fun _ => ⟨_, ce_7 kd_67⟩) (by decide) (by decide) wcX7_look wiX7 kL_81 wmX7_look weX7_look hyX7_look rfl rfl (Nat.le_of_ble_eq_true rfl) dL_law_522 (fun r119 s120 => ?_)
          change G X 525 [.ref b, .ref (X.B + 0), .ref (X.B + 67), .int x3] [.int r119, .int r116] s120 _
          refine g_icmp_eq (pc := 525) K 646 dL_law_525 (by decide) ?_ ?_
          · exact g_wk (hkj2  s120) ⟨rfl, ⟨rfl, ⟨rfl, ⟨rfl, trivial⟩⟩⟩⟩
          · refine g_iconst (pc := 528) K (0) dL_law_528 (by decide) ?_
            exact g_zr0 (pc := 529) hR dL_law_529
        refine g_case (pc := 32) (16) ?_ (fun n130 => ?_)
        · refine g_tin (pc := 32) (off := 498) K 530 dL_law_32 (by decide) (by decide) (by decide) (by decide) ?_
          refine g_aload_n (pc := 530) K 1 dL_law_530 rfl rfl ?_
          refine g_aload_n (pc := 531) K 0 dL_law_531 rfl rfl ?_
          refine g_iload_n (pc := 532) K 3 dL_law_532 rfl rfl ?_
          refine g_iconst (pc := 533) K (1) dL_law_533 (by decide) ?_
          refine g_iadd (pc := 534) K dL_law_534 ?_
          refine g_sld (pc := 535) K hX hbl hbA dL_law_535 (fun v122 => ?_)
          refine g_aload_n (pc := 536) K 0 dL_law_536 rfl rfl ?_
          refine g_iload_n (pc := 537) K 3 dL_law_537 rfl rfl ?_
          refine g_iconst (pc := 538) K (2) dL_law_538 (by decide) ?_
          refine g_iadd (pc := 539) K dL_law_539 ?_
          refine g_sld (pc := 540) K hX hbl hbA dL_law_540 (fun v123 => ?_)
          refine g_callV (pc := 541) (S := []) K (qX6_rate X.E v122 v123) (by decide) (ci := 6) rfl (fun _ => ⟨_, ce_6 kd_0⟩) (by decide) (by decide) wcX6_rate wiX6 kL_82 wmX6_rate weX6_rate hyX6_rate rfl rfl (Nat.le_of_ble_eq_true rfl) dL_law_541 (fun r124 s125 => ?_)
          change G X 544 [.ref b, .ref (X.B + 0), .ref (X.B + 67), .int x3] [.int r124] s125 _
          refine g_aload_n (pc := 544) K 2 dL_law_544 rfl rfl ?_
          refine g_aload_n (pc := 545) K 0 dL_law_545 rfl rfl ?_
          refine g_iload_n (pc := 546) K 3 dL_law_546 rfl rfl ?_
          refine g_iconst (pc := 547) K (1) dL_law_547 (by decide) ?_
          refine g_iadd (pc := 548) K dL_law_548 ?_
          refine g_sld (pc := 549) K hX hbl hbA dL_law_549 (fun v126 => ?_)
          refine g_aload_n (pc := 550) K 0 dL_law_550 rfl rfl ?_
          refine g_iload_n (pc := 551) K 3 dL_law_551 rfl rfl ?_
          refine g_iconst (pc := 552) K (2) dL_law_552 (by decide) ?_
          refine g_iadd (pc := 553) K dL_law_553 ?_
          refine g_sld (pc := 554) K hX hbl hbA dL_law_554 (fun v127 => ?_)
          refine g_callV (pc := 555) (S := [.int r124]) K (qX7_rate X.E v126 v127) (by decide) (ci := 7) rfl (fun _ => ⟨_, ce_7 kd_67⟩) (by decide) (by decide) wcX7_rate wiX7 kL_85 wmX7_rate weX7_rate hyX7_rate rfl rfl (Nat.le_of_ble_eq_true rfl) dL_law_555 (fun r128 s129 => ?_)
          change G X 558 [.ref b, .ref (X.B + 0), .ref (X.B + 67), .int x3] [.int r128, .int r124] s129 _
          refine g_icmp_eq (pc := 558) K 646 dL_law_558 (by decide) ?_ ?_
          · exact g_wk (hkj2  s129) ⟨rfl, ⟨rfl, ⟨rfl, ⟨rfl, trivial⟩⟩⟩⟩
          · refine g_iconst (pc := 561) K (0) dL_law_561 (by decide) ?_
            exact g_zr0 (pc := 562) hR dL_law_562
        refine g_case (pc := 32) (17) ?_ (fun n137 => ?_)
        · refine g_tin (pc := 32) (off := 531) K 563 dL_law_32 (by decide) (by decide) (by decide) (by decide) ?_
          refine g_aload_n (pc := 563) K 1 dL_law_563 rfl rfl ?_
          refine g_aload_n (pc := 564) K 0 dL_law_564 rfl rfl ?_
          refine g_iload_n (pc := 565) K 3 dL_law_565 rfl rfl ?_
          refine g_iconst (pc := 566) K (1) dL_law_566 (by decide) ?_
          refine g_iadd (pc := 567) K dL_law_567 ?_
          refine g_sld (pc := 568) K hX hbl hbA dL_law_568 (fun v131 => ?_)
          refine g_callV (pc := 569) (S := []) K (qX6_keep X.E v131) (by decide) (ci := 6) rfl (fun _ => ⟨_, ce_6 kd_0⟩) (by decide) (by decide) wcX6_keep wiX6 kL_86 wmX6_keep weX6_keep hyX6_keep rfl rfl (Nat.le_of_ble_eq_true rfl) dL_law_569 (fun r132 s133 => ?_)
          change G X 572 [.ref b, .ref (X.B + 0), .ref (X.B + 67), .int x3] [.int r132] s133 _
          refine g_aload_n (pc := 572) K 2 dL_law_572 rfl rfl ?_
          refine g_aload_n (pc := 573) K 0 dL_law_573 rfl rfl ?_
          refine g_iload_n (pc := 574) K 3 dL_law_574 rfl rfl ?_
          refine g_iconst (pc := 575) K (1) dL_law_575 (by decide) ?_
          refine g_iadd (pc := 576) K dL_law_576 ?_
          refine g_sld (pc := 577) K hX hbl hbA dL_law_577 (fun v134 => ?_)
          refine g_callV (pc := 578) (S := [.int r132]) K (qX7_keep X.E v134) (by decide) (ci := 7) rfl (fun _ => ⟨_, ce_7 kd_67⟩) (by decide) (by decide) wcX7_keep wiX7 kL_89 wmX7_keep weX7_keep hyX7_keep rfl rfl (Nat.le_of_ble_eq_true rfl) dL_law_578 (fun r135 s136 => ?_)
          change G X 581 [.ref b, .ref (X.B + 0), .ref (X.B + 67), .int x3] [.int r135, .int r132] s136 _
          refine g_icmp_eq (pc := 581) K 646 dL_law_581 (by decide) ?_ ?_
          · exact g_wk (hkj2  s136) ⟨rfl, ⟨rfl, ⟨rfl, ⟨rfl, trivial⟩⟩⟩⟩
          · refine g_iconst (pc := 584) K (0) dL_law_584 (by decide) ?_
            exact g_zr0 (pc := 585) hR dL_law_585
        refine g_case (pc := 32) (18) ?_ (fun n144 => ?_)
        · refine g_tin (pc := 32) (off := 554) K 586 dL_law_32 (by decide) (by decide) (by decide) (by decide) ?_
          refine g_aload_n (pc := 586) K 1 dL_law_586 rfl rfl ?_
          refine g_aload_n (pc := 587) K 0 dL_law_587 rfl rfl ?_
          refine g_iload_n (pc := 588) K 3 dL_law_588 rfl rfl ?_
          refine g_iconst (pc := 589) K (1) dL_law_589 (by decide) ?_
          refine g_iadd (pc := 590) K dL_law_590 ?_
          refine g_sld (pc := 591) K hX hbl hbA dL_law_591 (fun v138 => ?_)
          refine g_callV (pc := 592) (S := []) K (qX6_back X.E v138) (by decide) (ci := 6) rfl (fun _ => ⟨_, ce_6 kd_0⟩) (by decide) (by decide) wcX6_back wiX6 kL_90 wmX6_back weX6_back hyX6_back rfl rfl (Nat.le_of_ble_eq_true rfl) dL_law_592 (fun r139 s140 => ?_)
          change G X 595 [.ref b, .ref (X.B + 0), .ref (X.B + 67), .int x3] [.int r139] s140 _
          refine g_aload_n (pc := 595) K 2 dL_law_595 rfl rfl ?_
          refine g_aload_n (pc := 596) K 0 dL_law_596 rfl rfl ?_
          refine g_iload_n (pc := 597) K 3 dL_law_597 rfl rfl ?_
          refine g_iconst (pc := 598) K (1) dL_law_598 (by decide) ?_
          refine g_iadd (pc := 599) K dL_law_599 ?_
          refine g_sld (pc := 600) K hX hbl hbA dL_law_600 (fun v141 => ?_)
          refine g_callV (pc := 601) (S := [.int r139]) K (qX7_back X.E v141) (by decide) (ci := 7) rfl (fun _ => ⟨_, ce_7 kd_67⟩) (by decide) (by decide) wcX7_back wiX7 kL_93 wmX7_back weX7_back hyX7_back rfl rfl (Nat.le_of_ble_eq_true rfl) dL_law_601 (fun r142 s143 => ?_)
          change G X 604 [.ref b, .ref (X.B + 0), .ref (X.B + 67), .int x3] [.int r142, .int r139] s143 _
          refine g_icmp_eq (pc := 604) K 646 dL_law_604 (by decide) ?_ ?_
          · exact g_wk (hkj2  s143) ⟨rfl, ⟨rfl, ⟨rfl, ⟨rfl, trivial⟩⟩⟩⟩
          · refine g_iconst (pc := 607) K (0) dL_law_607 (by decide) ?_
            exact g_zr0 (pc := 608) hR dL_law_608
        refine g_case (pc := 32) (19) ?_ (fun n151 => ?_)
        · refine g_tin (pc := 32) (off := 577) K 609 dL_law_32 (by decide) (by decide) (by decide) (by decide) ?_
          refine g_aload_n (pc := 609) K 1 dL_law_609 rfl rfl ?_
          refine g_aload_n (pc := 610) K 0 dL_law_610 rfl rfl ?_
          refine g_iload_n (pc := 611) K 3 dL_law_611 rfl rfl ?_
          refine g_iconst (pc := 612) K (1) dL_law_612 (by decide) ?_
          refine g_iadd (pc := 613) K dL_law_613 ?_
          refine g_sld (pc := 614) K hX hbl hbA dL_law_614 (fun v145 => ?_)
          refine g_callV (pc := 615) (S := []) K (qX6_count X.E v145) (by decide) (ci := 6) rfl (fun _ => ⟨_, ce_6 kd_0⟩) (by decide) (by decide) wcX6_count wiX6 kL_94 wmX6_count weX6_count hyX6_count rfl rfl (Nat.le_of_ble_eq_true rfl) dL_law_615 (fun r146 s147 => ?_)
          change G X 618 [.ref b, .ref (X.B + 0), .ref (X.B + 67), .int x3] [.int r146] s147 _
          refine g_aload_n (pc := 618) K 2 dL_law_618 rfl rfl ?_
          refine g_aload_n (pc := 619) K 0 dL_law_619 rfl rfl ?_
          refine g_iload_n (pc := 620) K 3 dL_law_620 rfl rfl ?_
          refine g_iconst (pc := 621) K (1) dL_law_621 (by decide) ?_
          refine g_iadd (pc := 622) K dL_law_622 ?_
          refine g_sld (pc := 623) K hX hbl hbA dL_law_623 (fun v148 => ?_)
          refine g_callV (pc := 624) (S := [.int r146]) K (qX7_count X.E v148) (by decide) (ci := 7) rfl (fun _ => ⟨_, ce_7 kd_67⟩) (by decide) (by decide) wcX7_count wiX7 kL_97 wmX7_count weX7_count hyX7_count rfl rfl (Nat.le_of_ble_eq_true rfl) dL_law_624 (fun r149 s150 => ?_)
          change G X 627 [.ref b, .ref (X.B + 0), .ref (X.B + 67), .int x3] [.int r149, .int r146] s150 _
          refine g_icmp_eq (pc := 627) K 646 dL_law_627 (by decide) ?_ ?_
          · exact g_wk (hkj2  s150) ⟨rfl, ⟨rfl, ⟨rfl, ⟨rfl, trivial⟩⟩⟩⟩
          · refine g_iconst (pc := 630) K (0) dL_law_630 (by decide) ?_
            exact g_zr0 (pc := 631) hR dL_law_631
        refine g_case (pc := 32) (20) ?_ (fun n152 => ?_)
        · refine g_tin (pc := 32) (off := 600) K 632 dL_law_32 (by decide) (by decide) (by decide) (by decide) ?_
          refine g_aload_n (pc := 632) K 1 dL_law_632 rfl rfl ?_
          refine g_callL (pc := 633) (S := []) K (qX6_trace X.E) (by decide) (ci := 6) rfl (fun _ => ⟨_, ce_6 kd_0⟩) (by decide) (by decide) wcX6_trace wiX6 kL_98 wmX6_trace weX6_trace hyX6_trace rfl (Nat.le_of_ble_eq_true rfl) dL_law_633 ?_
          refine g_aload_n (pc := 636) K 2 dL_law_636 rfl rfl ?_
          refine g_callL (pc := 637) (S := [.long (s.2 0)]) K (qX7_trace X.E) (by decide) (ci := 7) rfl (fun _ => ⟨_, ce_7 kd_67⟩) (by decide) (by decide) wcX7_trace wiX7 kL_102 wmX7_trace weX7_trace hyX7_trace rfl (Nat.le_of_ble_eq_true rfl) dL_law_637 ?_
          refine g_lcmp (pc := 640) K dL_law_640 ?_
          refine g_if_eq (pc := 641) K 646 dL_law_641 (by decide) ?_ ?_
          · exact g_wk (hkj2  s) ⟨rfl, ⟨rfl, ⟨rfl, ⟨rfl, trivial⟩⟩⟩⟩
          · refine g_iconst (pc := 644) K (0) dL_law_644 (by decide) ?_
            exact g_zr0 (pc := 645) hR dL_law_645
        refine g_tout (pc := 32) K 646 dL_law_32 (by have an10 := lv_neT n10 (a := 0) (by decide); have an15 := lv_neT n15 (a := 1) (by decide); have an20 := lv_neT n20 (a := 2) (by decide); have an29 := lv_neT n29 (a := 3) (by decide); have an36 := lv_neT n36 (a := 4) (by decide); have an43 := lv_neT n43 (a := 5) (by decide); have an50 := lv_neT n50 (a := 6) (by decide); have an59 := lv_neT n59 (a := 7) (by decide); have an64 := lv_neT n64 (a := 8) (by decide); have an71 := lv_neT n71 (a := 9) (by decide); have an78 := lv_neT n78 (a := 10) (by decide); have an91 := lv_neT n91 (a := 11) (by decide); have an102 := lv_neT n102 (a := 12) (by decide); have an107 := lv_neT n107 (a := 13) (by decide); have an114 := lv_neT n114 (a := 14) (by decide); have an121 := lv_neT n121 (a := 15) (by decide); have an130 := lv_neT n130 (a := 16) (by decide); have an137 := lv_neT n137 (a := 17) (by decide); have an144 := lv_neT n144 (a := 18) (by decide); have an151 := lv_neT n151 (a := 19) (by decide); have an152 := lv_neT n152 (a := 20) (by decide); omega) (by decide) ?_
        exact g_wk (hkj2  s) ⟨rfl, ⟨rfl, ⟨rfl, ⟨rfl, trivial⟩⟩⟩⟩
set_option maxRecDepth 20000 in
set_option maxHeartbeats 4000000 in
theorem tL_law {X : Cx} (K : Ok X cL_law RL 4 20) (hR : RZ X cL_law) (xs : Nat → Int32) (n b : Nat) (hX : va_X b n xs X.s X.s.heap) (hbl : b < X.s.heap.size) (hbA : ¬ AA X.E b) (s : St) : G X 16 [.ref b, .ref (X.B + 0), .ref (X.B + 67), .null] [] s (M_L_law xs n s) := by
  unfold M_L_law
  refine g_iconst (pc := 16) K (0) dL_law_16 (by decide) ?_
  refine g_istore_n (pc := 17) K 3 dL_law_17 rfl (by decide) ?_
  change G X 18 [.ref b, .ref (X.B + 0), .ref (X.B + 67), .int (0)] [] s _
  refine g_weak (L' := [.ref b, .ref (X.B + 0), .ref (X.B + 67), .int (0)]) ⟨rfl, ⟨rfl, ⟨rfl, ⟨rfl, trivial⟩⟩⟩⟩ ?_
  refine tM_L_law_L18 K hR xs n b hX hbl hbA  _ (fun s153 => ?_) 600 (0) s
  refine g_iconst (pc := 652) K (1) dL_law_652 (by decide) ?_
  exact g_zr1 (pc := 653) hR dL_law_653
