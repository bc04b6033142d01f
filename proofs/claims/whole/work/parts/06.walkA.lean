theorem hyX0_hangFrom : yX0_hangFrom.cls ≠ "java/lang/invoke/MethodHandle" ∧ yX0_hangFrom.cls ≠ "java/lang/invoke/VarHandle" ∧ (parseMethodDescriptor yX0_hangFrom.desc).map (fun d => d.parameters.length) = some 4 := by decide +kernel
set_option maxRecDepth 20000 in
set_option maxHeartbeats 4000000 in
theorem tM_X0_hangFrom_L50 {X : Cx} (dd : Nat) (K : Ok X cX0_hangFrom RX0 6 (dd + 2)) (hR : RV X cX0_hangFrom) (x1 : Int32) (x2 : Int32) (x3 : Int32) (rec : Int32 → Int32 → Int32 → St → Option (Int32 × St)) (hrec : ∀ (a1 : Int32) (a2 : Int32) (a3 : Int32), Con X.E yX0_hangFrom cX0_hangFrom 6 none (dd + 1) [.ref (X.B + 61), .int a1, .int a2, .int a3] (rec a1 a2 a3)) (kk : St → Option (Int32 × St)) (hkk : ∀ (s : St), G X 133 [.null, .null, .null, .null, .null, .null] [] s (kk s)) : ∀ (fu : Nat) (x4 : Int32) (s : St), G X 50 [.ref (X.B + 61), .int x1, .int x2, .int x3, .int x4, .null] [] s (M_X0_hangFrom_L50 x1 x2 x3 rec kk fu x4 s) := by
  intro fu
  induction fu with
  | zero => intro x4 s; exact g_none
  | succ fu ih =>
    intro x4 s
    rw [M_X0_hangFrom_L50]
    refine g_iload (pc := 50) K dX0_hangFrom_50 rfl ?_
    refine g_aload_n (pc := 52) K 0 dX0_hangFrom_52 rfl rfl ?_
    refine gg_0_0 (pc := 53) K (by decide) kd_61 kX0_18 dX0_hangFrom_53 ?_
    refine gg_1_0 (pc := 56) K (by decide) kd_9 kX0_30 dX0_hangFrom_56 ?_
    refine g_icmp_ge (pc := 59) K 133 dX0_hangFrom_59 (by decide) ?_ ?_
    · exact g_wk (hkk  s) trivial
    · refine g_iload (pc := 62) K dX0_hangFrom_62 rfl ?_
      refine g_iload_n (pc := 64) K 1 dX0_hangFrom_64 rfl rfl ?_
      refine g_jn (κ := St → Option (Int32 × St)) (fun kj5 => ∀ (s6 : St), G X 127 [.ref (X.B + 61), .int x1, .int x2, .int x3, .int x4, .null] [] s6 (kj5 s6)) (fun s6 => ?_) (fun kj5 hkj5 => ?_)
      · refine g_iinc (pc := 127) K (1) dX0_hangFrom_127 rfl (by decide) (by decide) ?_
        change G X 130 [.ref (X.B + 61), .int x1, .int x2, .int x3, .int (x4 + (1)), .null] [] s6 _
        refine g_goto (pc := 130) K 50 dX0_hangFrom_130 (by decide) ?_
        exact g_wk (ih (x4 + (1)) s6) ⟨rfl, ⟨rfl, ⟨rfl, ⟨rfl, ⟨rfl, trivial⟩⟩⟩⟩⟩
      · refine g_icmp_eq (pc := 65) K 127 dX0_hangFrom_65 (by decide) ?_ ?_
        · exact g_wk (hkj5  s) ⟨rfl, ⟨rfl, ⟨rfl, ⟨rfl, ⟨rfl, trivial⟩⟩⟩⟩⟩
        · refine g_iload_n (pc := 68) K 2 dX0_hangFrom_68 rfl rfl ?_
          refine g_iload (pc := 69) K dX0_hangFrom_69 rfl ?_
          refine g_ishr (pc := 71) K dX0_hangFrom_71 ?_
          refine g_iconst (pc := 72) K (1) dX0_hangFrom_72 (by decide) ?_
          refine g_iand (pc := 73) K dX0_hangFrom_73 ?_
          refine g_if_ne (pc := 74) K 127 dX0_hangFrom_74 (by decide) ?_ ?_
          · exact g_wk (hkj5  s) ⟨rfl, ⟨rfl, ⟨rfl, ⟨rfl, ⟨rfl, trivial⟩⟩⟩⟩⟩
          · refine g_aload_n (pc := 77) K 0 dX0_hangFrom_77 rfl rfl ?_
            refine gg_0_3 (pc := 78) K (by decide) kd_61 kX0_15 dX0_hangFrom_78 ?_
            refine g_iload_n (pc := 81) K 1 dX0_hangFrom_81 rfl rfl ?_
            refine g_iload (pc := 82) K dX0_hangFrom_82 rfl ?_
            refine g_iastore (pc := 84) K (by decide) kd_63 ln_63 dX0_hangFrom_84 (fun s7 => ?_)
            refine g_aload_n (pc := 85) K 0 dX0_hangFrom_85 rfl rfl ?_
            refine gg_0_0 (pc := 86) K (by decide) kd_61 kX0_18 dX0_hangFrom_86 ?_
            refine gg_1_1 (pc := 89) K (by decide) kd_9 kX0_41 dX0_hangFrom_89 10 rfl ?_
            refine g_iload_n (pc := 92) K 1 dX0_hangFrom_92 rfl rfl ?_
            refine g_iaload (pc := 93) K (by decide) kd_10 ln_10 dX0_hangFrom_93 (fun v8 => ?_)
            refine g_aload_n (pc := 94) K 0 dX0_hangFrom_94 rfl rfl ?_
            refine gg_0_0 (pc := 95) K (by decide) kd_61 kX0_18 dX0_hangFrom_95 ?_
            refine gg_1_1 (pc := 98) K (by decide) kd_9 kX0_41 dX0_hangFrom_98 10 rfl ?_
            refine g_iload (pc := 101) K dX0_hangFrom_101 rfl ?_
            refine g_iaload (pc := 103) K (by decide) kd_10 ln_10 dX0_hangFrom_103 (fun v9 => ?_)
            refine g_isub (pc := 104) K dX0_hangFrom_104 ?_
            refine g_mabs (pc := 105) K (by omega) kX0_44 (Nat.le_of_ble_eq_true rfl) dX0_hangFrom_105 ?_
            refine g_istore (pc := 108) K dX0_hangFrom_108 (by decide) ?_
            change G X 110 [.ref (X.B + 61), .int x1, .int x2, .int x3, .int x4, .int (if 0 ≤ (v8 - v9) then (v8 - v9) else 0 - (v8 - v9))] [] s7 _
            refine g_aload_n (pc := 110) K 0 dX0_hangFrom_110 rfl rfl ?_
            refine g_iload_n (pc := 111) K 1 dX0_hangFrom_111 rfl rfl ?_
            refine g_iconst (pc := 112) K (1) dX0_hangFrom_112 (by decide) ?_
            refine g_iadd (pc := 113) K dX0_hangFrom_113 ?_
            refine g_iload_n (pc := 114) K 2 dX0_hangFrom_114 rfl rfl ?_
            refine g_iconst (pc := 115) K (1) dX0_hangFrom_115 (by decide) ?_
            refine g_iload (pc := 116) K dX0_hangFrom_116 rfl ?_
            refine g_ishl (pc := 118) K dX0_hangFrom_118 ?_
            refine g_ior (pc := 119) K dX0_hangFrom_119 ?_
            refine g_iload_n (pc := 120) K 3 dX0_hangFrom_120 rfl rfl ?_
            refine g_iload (pc := 121) K dX0_hangFrom_121 rfl ?_
            refine g_iadd (pc := 123) K dX0_hangFrom_123 ?_
            refine g_callS (pc := 124) (S := []) K (hrec (x1 + (1)) (x2 ||| ((1) <<< (x4 &&& 31))) (x3 + (if 0 ≤ (v8 - v9) then (v8 - v9) else 0 - (v8 - v9)))) (by omega) (by decide) wcX0_hangFrom wiX0 kX0_26 wtX0_hangFrom hyX0_hangFrom rfl rfl (Nat.le_of_ble_eq_true rfl) dX0_hangFrom_124 (fun r10 s11 => ?_)
            change G X 127 [.ref (X.B + 61), .int x1, .int x2, .int x3, .int x4, .int (if 0 ≤ (v8 - v9) then (v8 - v9) else 0 - (v8 - v9))] [] s11 _
            exact g_wk (hkj5  s11) ⟨rfl, ⟨rfl, ⟨rfl, ⟨rfl, ⟨rfl, trivial⟩⟩⟩⟩⟩
set_option maxRecDepth 20000 in
set_option maxHeartbeats 4000000 in
theorem tX0_hangFrom {X : Cx} (dd : Nat) (K : Ok X cX0_hangFrom RX0 6 (dd + 2)) (hR : RV X cX0_hangFrom) (fu : Nat) (hrec : ∀ (a1 : Int32) (a2 : Int32) (a3 : Int32), Con X.E yX0_hangFrom cX0_hangFrom 6 none (dd + 1) [.ref (X.B + 61), .int a1, .int a2, .int a3] (M_X0_hangFrom fu a1 a2 a3)) (a1 : Int32) (a2 : Int32) (a3 : Int32) (s : St) : G X 0 [.ref (X.B + 61), .int a1, .int a2, .int a3, .null, .null] [] s (M_X0_hangFrom (fu + 1) a1 a2 a3 s) := by
  rw [M_X0_hangFrom]
  refine g_iload_n (pc := 0) K 3 dX0_hangFrom_0 rfl rfl ?_
  refine g_aload_n (pc := 1) K 0 dX0_hangFrom_1 rfl rfl ?_
  refine gg_0_1 (pc := 2) K (by decide) kd_61 kX0_22 dX0_hangFrom_2 ?_
  refine g_icmp_lt (pc := 5) K 9 dX0_hangFrom_5 (by decide) ?_ ?_
  · refine g_iload_n (pc := 9) K 1 dX0_hangFrom_9 rfl rfl ?_
    refine g_aload_n (pc := 10) K 0 dX0_hangFrom_10 rfl rfl ?_
    refine gg_0_0 (pc := 11) K (by decide) kd_61 kX0_18 dX0_hangFrom_11 ?_
    refine gg_1_0 (pc := 14) K (by decide) kd_9 kX0_30 dX0_hangFrom_14 ?_
    refine g_jn (κ := St → Option (Int32 × St)) (fun kj1 => ∀ (s2 : St), G X 26 [.ref (X.B + 61), .null, .null, .int a3, .null, .null] [] s2 (kj1 s2)) (fun s2 => ?_) (fun kj1 hkj1 => ?_)
    · refine g_aload_n (pc := 26) K 0 dX0_hangFrom_26 rfl rfl ?_
      refine g_iload_n (pc := 27) K 3 dX0_hangFrom_27 rfl rfl ?_
      refine gp_0_1 (pc := 28) K (by decide) kd_61 kX0_22 dX0_hangFrom_28 (fun s3 => ?_)
      refine g_aload_n (pc := 31) K 0 dX0_hangFrom_31 rfl rfl ?_
      refine gg_0_3 (pc := 32) K (by decide) kd_61 kX0_15 dX0_hangFrom_32 ?_
      refine g_iconst (pc := 35) K (0) dX0_hangFrom_35 (by decide) ?_
      refine g_aload_n (pc := 36) K 0 dX0_hangFrom_36 rfl rfl ?_
      refine gg_0_2 (pc := 37) K (by decide) kd_61 kX0_9 dX0_hangFrom_37 ?_
      refine g_iconst (pc := 40) K (0) dX0_hangFrom_40 (by decide) ?_
      refine g_bipush (pc := 41) K (6) dX0_hangFrom_41 (by decide) ?_
      refine g_acopy (pc := 43) K (by omega) (by decide) (by decide) kd_63 kd_62 ln_63 ln_62 (by decide) (by decide) (Nat.le_of_ble_eq_true rfl) dX0_hangFrom_43 (fun s4 => ?_)
      exact g_vr (pc := 46) hR dX0_hangFrom_46
    · refine g_icmp_ge (pc := 17) K 26 dX0_hangFrom_17 (by decide) ?_ ?_
      · exact g_wk (hkj1  s) ⟨rfl, ⟨rfl, trivial⟩⟩
      · refine g_iload_n (pc := 20) K 1 dX0_hangFrom_20 rfl rfl ?_
        refine g_bipush (pc := 21) K (6) dX0_hangFrom_21 (by decide) ?_
        refine g_icmp_lt (pc := 23) K 47 dX0_hangFrom_23 (by decide) ?_ ?_
        · refine g_iconst (pc := 47) K (0) dX0_hangFrom_47 (by decide) ?_
          refine g_istore (pc := 48) K dX0_hangFrom_48 (by decide) ?_
          change G X 50 [.ref (X.B + 61), .int a1, .int a2, .int a3, .int (0), .null] [] s _
          refine g_weak (L' := [.ref (X.B + 61), .int a1, .int a2, .int a3, .int (0), .null]) ⟨rfl, ⟨rfl, ⟨rfl, ⟨rfl, ⟨rfl, trivial⟩⟩⟩⟩⟩ ?_
          refine tM_X0_hangFrom_L50 dd K hR a1 a2 a3 (M_X0_hangFrom fu) hrec _ (fun s12 => ?_) 400 (0) s
          exact g_vr (pc := 133) hR dX0_hangFrom_133
        · exact g_wk (hkj1  s) ⟨rfl, ⟨rfl, trivial⟩⟩
  · exact g_vr (pc := 8) hR dX0_hangFrom_8
theorem qX0_hangFrom (E : Ce) : ∀ (fu : Nat) (a1 : Int32) (a2 : Int32) (a3 : Int32), Con E yX0_hangFrom cX0_hangFrom 6 none (fu + 1) [.ref (E.B + 61), .int a1, .int a2, .int a3] (M_X0_hangFrom fu a1 a2 a3)
  | 0, a1, a2, a3 => fun s r s' e => by cases e
  | fu + 1, a1, a2, a3 =>
  Con.of (by decide) (List.forall_mem_cons.mpr ⟨rfl, List.forall_mem_cons.mpr ⟨rfl, List.forall_mem_cons.mpr ⟨rfl, List.forall_mem_cons.mpr ⟨rfl, fun _ h => absurd h List.not_mem_nil⟩⟩⟩⟩) (Nat.le_of_ble_eq_true rfl) (Or.inl rfl) [.ref (E.B + 61), .int a1, .int a2, .int a3, .null, .null] ⟨rfl, ⟨rfl, ⟨rfl, ⟨rfl, trivial⟩⟩⟩⟩ (fun X s hE hok hI hZ hV => by subst hE; exact tX0_hangFrom fu hok (hV rfl) fu (fun a1 a2 a3 => qX0_hangFrom X.E fu a1 a2 a3) a1 a2 a3 s)
theorem hyX0_search : yX0_search.cls ≠ "java/lang/invoke/MethodHandle" ∧ yX0_search.cls ≠ "java/lang/invoke/VarHandle" ∧ (parseMethodDescriptor yX0_search.desc).map (fun d => d.parameters.length) = some 0 := by decide +kernel
set_option maxRecDepth 20000 in
set_option maxHeartbeats 4000000 in
theorem tX0_search {X : Cx} (K : Ok X cX0_search RX0 1 11) (hR : RV X cX0_search) (s : St) : G X 0 [.ref (X.B + 61)] [] s (M_X0_search s) := by
  unfold M_X0_search
  refine g_aload_n (pc := 0) K 0 dX0_search_0 rfl rfl ?_
  refine g_sipush (pc := 1) K (181) dX0_search_1 (by decide) ?_
  refine gp_0_1 (pc := 4) K (by decide) kd_61 kX0_22 dX0_search_4 (fun s1 => ?_)
  refine g_aload_n (pc := 7) K 0 dX0_search_7 rfl rfl ?_
  refine g_iconst (pc := 8) K (0) dX0_search_8 (by decide) ?_
  refine g_iconst (pc := 9) K (0) dX0_search_9 (by decide) ?_
  refine g_iconst (pc := 10) K (0) dX0_search_10 (by decide) ?_
  refine g_callS (pc := 11) (S := []) K (qX0_hangFrom X.E 9 (0) (0) (0)) (by decide) (by decide) wcX0_hangFrom wiX0 kX0_26 wtX0_hangFrom hyX0_hangFrom rfl rfl (Nat.le_of_ble_eq_true rfl) dX0_search_11 (fun r2 s3 => ?_)
  change G X 14 [.ref (X.B + 61)] [] s3 _
  exact g_vr (pc := 14) hR dX0_search_14
theorem qX0_search (E : Ce) : Con E yX0_search cX0_search 1 none 11 [.ref (E.B + 61)] (M_X0_search) :=
  Con.of (by decide) (List.forall_mem_cons.mpr ⟨rfl, fun _ h => absurd h List.not_mem_nil⟩) (Nat.le_of_ble_eq_true rfl) (Or.inl rfl) [.ref (E.B + 61)] ⟨rfl, trivial⟩ (fun X s hE hok hI hZ hV => by subst hE; exact tX0_search hok (hV rfl) s)
theorem hyX1_has : yX1_has.cls ≠ "java/lang/invoke/MethodHandle" ∧ yX1_has.cls ≠ "java/lang/invoke/VarHandle" ∧ (parseMethodDescriptor yX1_has.desc).map (fun d => d.parameters.length) = some 1 := by decide +kernel
set_option maxRecDepth 20000 in
set_option maxHeartbeats 4000000 in
theorem tX1_has {X : Cx} (K : Ok X cX1_has RX1 2 1) (hR : RZ X cX1_has) (k : Nat) (hk : Frm k) (a1 : Int32) (s : St) : G X 0 [.ref (X.B + k), .int a1] [] s (M_X1_has k a1 s) := by
  unfold M_X1_has
  refine g_iload_n (pc := 0) K 1 dX1_has_0 rfl rfl ?_
  refine g_if_lt (pc := 1) K 16 dX1_has_1 (by decide) ?_ ?_
  · refine g_iconst (pc := 16) K (0) dX1_has_16 (by decide) ?_
    exact g_zr0 (pc := 17) hR dX1_has_17
  · refine g_iload_n (pc := 4) K 1 dX1_has_4 rfl rfl ?_
    refine g_aload_n (pc := 5) K 0 dX1_has_5 rfl rfl ?_
    refine gg_1_0 (pc := 6) K hk.1 hk.2.1 kX1_27 dX1_has_6 ?_
    refine g_icmp_ge (pc := 9) K 16 dX1_has_9 (by decide) ?_ ?_
    · refine g_iconst (pc := 16) K (0) dX1_has_16 (by decide) ?_
      exact g_zr0 (pc := 17) hR dX1_has_17
    · refine g_iconst (pc := 12) K (1) dX1_has_12 (by decide) ?_
      refine g_goto (pc := 13) K 17 dX1_has_13 (by decide) ?_
      exact g_zr1 (pc := 17) hR dX1_has_17
theorem qX1_has (E : Ce) (k : Nat) (hk : Frm k) (a1 : Int32) : Con E yX1_has cX1_has 2 (some .boolean) 1 [.ref (E.B + k), .int a1] (M_X1_has k a1) :=
  Con.of (by decide) (List.forall_mem_cons.mpr ⟨rfl, List.forall_mem_cons.mpr ⟨rfl, fun _ h => absurd h List.not_mem_nil⟩⟩) (Nat.le_of_ble_eq_true rfl) (Or.inr (Or.inr rfl)) [.ref (E.B + k), .int a1] ⟨rfl, ⟨rfl, trivial⟩⟩ (fun X s hE hok hI hZ hV => by subst hE; exact tX1_has hok (hZ rfl) k hk a1 s)
theorem hyX1_everyone : yX1_everyone.cls ≠ "java/lang/invoke/MethodHandle" ∧ yX1_everyone.cls ≠ "java/lang/invoke/VarHandle" ∧ (parseMethodDescriptor yX1_everyone.desc).map (fun d => d.parameters.length) = some 0 := by decide +kernel
set_option maxRecDepth 20000 in
set_option maxHeartbeats 4000000 in
theorem tX1_everyone {X : Cx} (K : Ok X cX1_everyone RX1 1 1) (hR : RI X cX1_everyone) (k : Nat) (hk : Frm k) (s : St) : G X 0 [.ref (X.B + k)] [] s (M_X1_everyone k s) := by
  unfold M_X1_everyone
  refine g_iconst (pc := 0) K (1) dX1_everyone_0 (by decide) ?_
  refine g_aload_n (pc := 1) K 0 dX1_everyone_1 rfl rfl ?_
  refine gg_1_0 (pc := 2) K hk.1 hk.2.1 kX1_27 dX1_everyone_2 ?_
  refine g_ishl (pc := 5) K dX1_everyone_5 ?_
  refine g_iconst (pc := 6) K (1) dX1_everyone_6 (by decide) ?_
  refine g_isub (pc := 7) K dX1_everyone_7 ?_
  exact g_ir (pc := 8) hR dX1_everyone_8
theorem qX1_everyone (E : Ce) (k : Nat) (hk : Frm k) : Con E yX1_everyone cX1_everyone 1 (some .int) 1 [.ref (E.B + k)] (M_X1_everyone k) :=
  Con.of (by decide) (List.forall_mem_cons.mpr ⟨rfl, fun _ h => absurd h List.not_mem_nil⟩) (Nat.le_of_ble_eq_true rfl) (Or.inr (Or.inl rfl)) [.ref (E.B + k)] ⟨rfl, trivial⟩ (fun X s hE hok hI hZ hV => by subst hE; exact tX1_everyone hok (hI rfl) k hk s)
theorem hyX1_copyFrom : yX1_copyFrom.cls ≠ "java/lang/invoke/MethodHandle" ∧ yX1_copyFrom.cls ≠ "java/lang/invoke/VarHandle" ∧ (parseMethodDescriptor yX1_copyFrom.desc).map (fun d => d.parameters.length) = some 1 := by decide +kernel
set_option maxRecDepth 20000 in
set_option maxHeartbeats 4000000 in
theorem tM_X1_copyFrom_L10 {X : Cx} (K : Ok X cX1_copyFrom RX1 3 1) (hR : RV X cX1_copyFrom) (k : Nat) (k1 : Nat) (hk : Frm k) (hk1 : Frm k1) (kk : St → Option (Int32 × St)) (hkk : ∀ (s : St), G X 82 [.null, .null, .null] [] s (kk s)) : ∀ (fu : Nat) (x2 : Int32) (s : St), G X 10 [.ref (X.B + k), .ref (X.B + k1), .int x2] [] s (M_X1_copyFrom_L10 k k1 kk fu x2 s) := by
  intro fu
  induction fu with
  | zero => intro x2 s; exact g_none
  | succ fu ih =>
    intro x2 s
    rw [M_X1_copyFrom_L10]
    refine g_iload_n (pc := 10) K 2 dX1_copyFrom_10 rfl rfl ?_
    refine g_bipush (pc := 11) K (6) dX1_copyFrom_11 (by decide) ?_
    refine g_icmp_ge (pc := 13) K 82 dX1_copyFrom_13 (by decide) ?_ ?_
    · exact g_wk (hkk  s) trivial
    · refine g_aload_n (pc := 16) K 0 dX1_copyFrom_16 rfl rfl ?_
      refine gg_1_1 (pc := 17) K hk.1 hk.2.1 kX1_9 dX1_copyFrom_17 (k + 1) rfl ?_
      refine g_iload_n (pc := 20) K 2 dX1_copyFrom_20 rfl rfl ?_
      refine g_aload_n (pc := 21) K 1 dX1_copyFrom_21 rfl rfl ?_
      refine gg_1_1 (pc := 22) K hk1.1 hk1.2.1 kX1_9 dX1_copyFrom_22 (k1 + 1) rfl ?_
      refine g_iload_n (pc := 25) K 2 dX1_copyFrom_25 rfl rfl ?_
      refine g_iaload (pc := 26) K hk1.2.2.1.1 hk1.2.2.1.2.1 hk1.2.2.1.2.2 dX1_copyFrom_26 (fun v2 => ?_)
      refine g_iastore (pc := 27) K hk.2.2.1.1 hk.2.2.1.2.1 hk.2.2.1.2.2 dX1_copyFrom_27 (fun s3 => ?_)
      refine g_aload_n (pc := 28) K 0 dX1_copyFrom_28 rfl rfl ?_
      refine gg_1_2 (pc := 29) K hk.1 hk.2.1 kX1_15 dX1_copyFrom_29 (k + 2) rfl ?_
      refine g_iload_n (pc := 32) K 2 dX1_copyFrom_32 rfl rfl ?_
      refine g_aload_n (pc := 33) K 1 dX1_copyFrom_33 rfl rfl ?_
      refine gg_1_2 (pc := 34) K hk1.1 hk1.2.1 kX1_15 dX1_copyFrom_34 (k1 + 2) rfl ?_
      refine g_iload_n (pc := 37) K 2 dX1_copyFrom_37 rfl rfl ?_
      refine g_iaload (pc := 38) K hk1.2.2.2.1.1 hk1.2.2.2.1.2.1 hk1.2.2.2.1.2.2 dX1_copyFrom_38 (fun v4 => ?_)
      refine g_iastore (pc := 39) K hk.2.2.2.1.1 hk.2.2.2.1.2.1 hk.2.2.2.1.2.2 dX1_copyFrom_39 (fun s5 => ?_)
      refine g_aload_n (pc := 40) K 0 dX1_copyFrom_40 rfl rfl ?_
      refine gg_1_3 (pc := 41) K hk.1 hk.2.1 kX1_18 dX1_copyFrom_41 (k + 3) rfl ?_
      refine g_iload_n (pc := 44) K 2 dX1_copyFrom_44 rfl rfl ?_
      refine g_aload_n (pc := 45) K 1 dX1_copyFrom_45 rfl rfl ?_
      refine gg_1_3 (pc := 46) K hk1.1 hk1.2.1 kX1_18 dX1_copyFrom_46 (k1 + 3) rfl ?_
      refine g_iload_n (pc := 49) K 2 dX1_copyFrom_49 rfl rfl ?_
      refine g_iaload (pc := 50) K hk1.2.2.2.2.1.1 hk1.2.2.2.2.1.2.1 hk1.2.2.2.2.1.2.2 dX1_copyFrom_50 (fun v6 => ?_)
      refine g_iastore (pc := 51) K hk.2.2.2.2.1.1 hk.2.2.2.2.1.2.1 hk.2.2.2.2.1.2.2 dX1_copyFrom_51 (fun s7 => ?_)
      refine g_aload_n (pc := 52) K 0 dX1_copyFrom_52 rfl rfl ?_
      refine gg_1_4 (pc := 53) K hk.1 hk.2.1 kX1_21 dX1_copyFrom_53 (k + 4) rfl ?_
      refine g_iload_n (pc := 56) K 2 dX1_copyFrom_56 rfl rfl ?_
      refine g_aload_n (pc := 57) K 1 dX1_copyFrom_57 rfl rfl ?_
      refine gg_1_4 (pc := 58) K hk1.1 hk1.2.1 kX1_21 dX1_copyFrom_58 (k1 + 4) rfl ?_
      refine g_iload_n (pc := 61) K 2 dX1_copyFrom_61 rfl rfl ?_
      refine g_iaload (pc := 62) K hk1.2.2.2.2.2.1.1 hk1.2.2.2.2.2.1.2.1 hk1.2.2.2.2.2.1.2.2 dX1_copyFrom_62 (fun v8 => ?_)
      refine g_iastore (pc := 63) K hk.2.2.2.2.2.1.1 hk.2.2.2.2.2.1.2.1 hk.2.2.2.2.2.1.2.2 dX1_copyFrom_63 (fun s9 => ?_)
      refine g_aload_n (pc := 64) K 0 dX1_copyFrom_64 rfl rfl ?_
      refine gg_1_5 (pc := 65) K hk.1 hk.2.1 kX1_24 dX1_copyFrom_65 (k + 5) rfl ?_
      refine g_iload_n (pc := 68) K 2 dX1_copyFrom_68 rfl rfl ?_
      refine g_aload_n (pc := 69) K 1 dX1_copyFrom_69 rfl rfl ?_
      refine gg_1_5 (pc := 70) K hk1.1 hk1.2.1 kX1_24 dX1_copyFrom_70 (k1 + 5) rfl ?_
      refine g_iload_n (pc := 73) K 2 dX1_copyFrom_73 rfl rfl ?_
      refine g_iaload (pc := 74) K hk1.2.2.2.2.2.2.1 hk1.2.2.2.2.2.2.2.1 hk1.2.2.2.2.2.2.2.2 dX1_copyFrom_74 (fun v10 => ?_)
      refine g_iastore (pc := 75) K hk.2.2.2.2.2.2.1 hk.2.2.2.2.2.2.2.1 hk.2.2.2.2.2.2.2.2 dX1_copyFrom_75 (fun s11 => ?_)
      refine g_iinc (pc := 76) K (1) dX1_copyFrom_76 rfl (by decide) (by decide) ?_
      change G X 79 [.ref (X.B + k), .ref (X.B + k1), .int (x2 + (1))] [] s11 _
      refine g_goto (pc := 79) K 10 dX1_copyFrom_79 (by decide) ?_
      exact g_wk (ih (x2 + (1)) s11) ⟨rfl, ⟨rfl, ⟨rfl, trivial⟩⟩⟩
set_option maxRecDepth 20000 in
set_option maxHeartbeats 4000000 in
theorem tX1_copyFrom {X : Cx} (K : Ok X cX1_copyFrom RX1 3 1) (hR : RV X cX1_copyFrom) (k : Nat) (k1 : Nat) (hk : Frm k) (hk1 : Frm k1) (s : St) : G X 0 [.ref (X.B + k), .ref (X.B + k1), .null] [] s (M_X1_copyFrom k k1 s) := by
  unfold M_X1_copyFrom
  refine g_aload_n (pc := 0) K 0 dX1_copyFrom_0 rfl rfl ?_
  refine g_aload_n (pc := 1) K 1 dX1_copyFrom_1 rfl rfl ?_
  refine gg_1_0 (pc := 2) K hk1.1 hk1.2.1 kX1_27 dX1_copyFrom_2 ?_
  refine gp_1_0 (pc := 5) K hk.1 hk.2.1 kX1_27 dX1_copyFrom_5 (fun s1 => ?_)
  refine g_iconst (pc := 8) K (0) dX1_copyFrom_8 (by decide) ?_
  refine g_istore_n (pc := 9) K 2 dX1_copyFrom_9 rfl (by decide) ?_
  change G X 10 [.ref (X.B + k), .ref (X.B + k1), .int (0)] [] s1 _
  refine g_weak (L' := [.ref (X.B + k), .ref (X.B + k1), .int (0)]) ⟨rfl, ⟨rfl, ⟨rfl, trivial⟩⟩⟩ ?_
  refine tM_X1_copyFrom_L10 K hR k k1 hk hk1 _ (fun s12 => ?_) 400 (0) s1
  exact g_vr (pc := 82) hR dX1_copyFrom_82
theorem qX1_copyFrom (E : Ce) (k : Nat) (k1 : Nat) (hk : Frm k) (hk1 : Frm k1) : Con E yX1_copyFrom cX1_copyFrom 3 none 1 [.ref (E.B + k), .ref (E.B + k1)] (M_X1_copyFrom k k1) :=
  Con.of (by decide) (List.forall_mem_cons.mpr ⟨rfl, List.forall_mem_cons.mpr ⟨rfl, fun _ h => absurd h List.not_mem_nil⟩⟩) (Nat.le_of_ble_eq_true rfl) (Or.inl rfl) [.ref (E.B + k), .ref (E.B + k1), .null] ⟨rfl, ⟨rfl, trivial⟩⟩ (fun X s hE hok hI hZ hV => by subst hE; exact tX1_copyFrom hok (hV rfl) k k1 hk hk1 s)
theorem hyX1_keepersAreThere : yX1_keepersAreThere.cls ≠ "java/lang/invoke/MethodHandle" ∧ yX1_keepersAreThere.cls ≠ "java/lang/invoke/VarHandle" ∧ (parseMethodDescriptor yX1_keepersAreThere.desc).map (fun d => d.parameters.length) = some 0 := by decide +kernel
set_option maxRecDepth 20000 in
set_option maxHeartbeats 4000000 in
theorem tM_X1_keepersAreThere_L2 {X : Cx} (K : Ok X cX1_keepersAreThere RX1 2 2) (hR : RZ X cX1_keepersAreThere) (k : Nat) (hk : Frm k) (kk : St → Option (Int32 × St)) (hkk : ∀ (s : St), G X 31 [.null, .null] [] s (kk s)) : ∀ (fu : Nat) (x1 : Int32) (s : St), G X 2 [.ref (X.B + k), .int x1] [] s (M_X1_keepersAreThere_L2 k kk fu x1 s) := by
  intro fu
  induction fu with
  | zero => intro x1 s; exact g_none
  | succ fu ih =>
    intro x1 s
    rw [M_X1_keepersAreThere_L2]
    refine g_iload_n (pc := 2) K 1 dX1_keepersAreThere_2 rfl rfl ?_
    refine g_aload_n (pc := 3) K 0 dX1_keepersAreThere_3 rfl rfl ?_
    refine gg_1_0 (pc := 4) K hk.1 hk.2.1 kX1_27 dX1_keepersAreThere_4 ?_
    refine g_icmp_ge (pc := 7) K 31 dX1_keepersAreThere_7 (by decide) ?_ ?_
    · exact g_wk (hkk  s) trivial
    · refine g_aload_n (pc := 10) K 0 dX1_keepersAreThere_10 rfl rfl ?_
      refine g_aload_n (pc := 11) K 0 dX1_keepersAreThere_11 rfl rfl ?_
      refine gg_1_5 (pc := 12) K hk.1 hk.2.1 kX1_24 dX1_keepersAreThere_12 (k + 5) rfl ?_
      refine g_iload_n (pc := 15) K 1 dX1_keepersAreThere_15 rfl rfl ?_
      refine g_iaload (pc := 16) K hk.2.2.2.2.2.2.1 hk.2.2.2.2.2.2.2.1 hk.2.2.2.2.2.2.2.2 dX1_keepersAreThere_16 (fun v1 => ?_)
      refine g_callV (pc := 17) (S := []) K (qX1_has X.E k hk v1) hk.1 (ci := 1) rfl (fun _ => ⟨_, ce_1 hk.2.1⟩) (by decide) (by decide) wcX1_has wiX1 kX1_31 wmX1_has weX1_has hyX1_has rfl rfl (Nat.le_of_ble_eq_true rfl) dX1_keepersAreThere_17 (fun r2 s3 => ?_)
      change G X 20 [.ref (X.B + k), .int x1] [.int r2] s3 _
      refine g_if_ne (pc := 20) K 25 dX1_keepersAreThere_20 (by decide) ?_ ?_
      · refine g_iinc (pc := 25) K (1) dX1_keepersAreThere_25 rfl (by decide) (by decide) ?_
        change G X 28 [.ref (X.B + k), .int (x1 + (1))] [] s3 _
        refine g_goto (pc := 28) K 2 dX1_keepersAreThere_28 (by decide) ?_
        exact g_wk (ih (x1 + (1)) s3) ⟨rfl, ⟨rfl, trivial⟩⟩
      · refine g_iconst (pc := 23) K (0) dX1_keepersAreThere_23 (by decide) ?_
        exact g_zr0 (pc := 24) hR dX1_keepersAreThere_24
set_option maxRecDepth 20000 in
set_option maxHeartbeats 4000000 in
theorem tX1_keepersAreThere {X : Cx} (K : Ok X cX1_keepersAreThere RX1 2 2) (hR : RZ X cX1_keepersAreThere) (k : Nat) (hk : Frm k) (s : St) : G X 0 [.ref (X.B + k), .null] [] s (M_X1_keepersAreThere k s) := by
  unfold M_X1_keepersAreThere
  refine g_iconst (pc := 0) K (0) dX1_keepersAreThere_0 (by decide) ?_
  refine g_istore_n (pc := 1) K 1 dX1_keepersAreThere_1 rfl (by decide) ?_
  change G X 2 [.ref (X.B + k), .int (0)] [] s _
  refine g_weak (L' := [.ref (X.B + k), .int (0)]) ⟨rfl, ⟨rfl, trivial⟩⟩ ?_
  refine tM_X1_keepersAreThere_L2 K hR k hk _ (fun s4 => ?_) 400 (0) s
  refine g_iconst (pc := 31) K (1) dX1_keepersAreThere_31 (by decide) ?_
  exact g_zr1 (pc := 32) hR dX1_keepersAreThere_32
theorem qX1_keepersAreThere (E : Ce) (k : Nat) (hk : Frm k) : Con E yX1_keepersAreThere cX1_keepersAreThere 2 (some .boolean) 2 [.ref (E.B + k)] (M_X1_keepersAreThere k) :=
  Con.of (by decide) (List.forall_mem_cons.mpr ⟨rfl, fun _ h => absurd h List.not_mem_nil⟩) (Nat.le_of_ble_eq_true rfl) (Or.inr (Or.inr rfl)) [.ref (E.B + k), .null] ⟨rfl, trivial⟩ (fun X s hE hok hI hZ hV => by subst hE; exact tX1_keepersAreThere hok (hZ rfl) k hk s)
theorem hyJ6_bitCount_0f7a4 : yJ6_bitCount_0f7a4.cls ≠ "java/lang/invoke/MethodHandle" ∧ yJ6_bitCount_0f7a4.cls ≠ "java/lang/invoke/VarHandle" ∧ (parseMethodDescriptor yJ6_bitCount_0f7a4.desc).map (fun d => d.parameters.length) = some 1 := by decide +kernel
set_option maxRecDepth 20000 in
set_option maxHeartbeats 4000000 in
theorem tJ6_bitCount_0f7a4 {X : Cx} (K : Ok X cJ6_bitCount_0f7a4 RJ6 1 1) (hR : RI X cJ6_bitCount_0f7a4) (a0 : Int32) (s : St) : G X 0 [.int a0] [] s (M_J6_bitCount_0f7a4 a0 s) := by
  unfold M_J6_bitCount_0f7a4
  refine g_iload_n (pc := 0) K 0 dJ6_bitCount_0f7a4_0 rfl rfl ?_
  refine g_iload_n (pc := 1) K 0 dJ6_bitCount_0f7a4_1 rfl rfl ?_
  refine g_iconst (pc := 2) K (1) dJ6_bitCount_0f7a4_2 (by decide) ?_
  refine g_iushr (pc := 3) K dJ6_bitCount_0f7a4_3 ?_
  refine g_ldcw (pc := 4) K kJ6_265 dJ6_bitCount_0f7a4_4 ?_
  refine g_iand (pc := 7) K dJ6_bitCount_0f7a4_7 ?_
  refine g_isub (pc := 8) K dJ6_bitCount_0f7a4_8 ?_
  refine g_istore_n (pc := 9) K 0 dJ6_bitCount_0f7a4_9 rfl (by decide) ?_
  change G X 10 [.int (a0 - (((a0).toUInt32 >>> (((1) : Int32).toUInt32 &&& Int32.toUInt32 31)).toInt32 &&& (1431655765)))] [] s _
  refine g_iload_n (pc := 10) K 0 dJ6_bitCount_0f7a4_10 rfl rfl ?_
  refine g_ldcw (pc := 11) K kJ6_266 dJ6_bitCount_0f7a4_11 ?_
  refine g_iand (pc := 14) K dJ6_bitCount_0f7a4_14 ?_
  refine g_iload_n (pc := 15) K 0 dJ6_bitCount_0f7a4_15 rfl rfl ?_
  refine g_iconst (pc := 16) K (2) dJ6_bitCount_0f7a4_16 (by decide) ?_
  refine g_iushr (pc := 17) K dJ6_bitCount_0f7a4_17 ?_
  refine g_ldcw (pc := 18) K kJ6_266 dJ6_bitCount_0f7a4_18 ?_
  refine g_iand (pc := 21) K dJ6_bitCount_0f7a4_21 ?_
  refine g_iadd (pc := 22) K dJ6_bitCount_0f7a4_22 ?_
  refine g_istore_n (pc := 23) K 0 dJ6_bitCount_0f7a4_23 rfl (by decide) ?_
  change G X 24 [.int (((a0 - (((a0).toUInt32 >>> (((1) : Int32).toUInt32 &&& Int32.toUInt32 31)).toInt32 &&& (1431655765))) &&& (858993459)) + ((((a0 - (((a0).toUInt32 >>> (((1) : Int32).toUInt32 &&& Int32.toUInt32 31)).toInt32 &&& (1431655765)))).toUInt32 >>> (((2) : Int32).toUInt32 &&& Int32.toUInt32 31)).toInt32 &&& (858993459)))] [] s _
  refine g_iload_n (pc := 24) K 0 dJ6_bitCount_0f7a4_24 rfl rfl ?_
  refine g_iload_n (pc := 25) K 0 dJ6_bitCount_0f7a4_25 rfl rfl ?_
  refine g_iconst (pc := 26) K (4) dJ6_bitCount_0f7a4_26 (by decide) ?_
  refine g_iushr (pc := 27) K dJ6_bitCount_0f7a4_27 ?_
  refine g_iadd (pc := 28) K dJ6_bitCount_0f7a4_28 ?_
  refine g_ldcw (pc := 29) K kJ6_267 dJ6_bitCount_0f7a4_29 ?_
  refine g_iand (pc := 32) K dJ6_bitCount_0f7a4_32 ?_
  refine g_istore_n (pc := 33) K 0 dJ6_bitCount_0f7a4_33 rfl (by decide) ?_
  change G X 34 [.int (((((a0 - (((a0).toUInt32 >>> (((1) : Int32).toUInt32 &&& Int32.toUInt32 31)).toInt32 &&& (1431655765))) &&& (858993459)) + ((((a0 - (((a0).toUInt32 >>> (((1) : Int32).toUInt32 &&& Int32.toUInt32 31)).toInt32 &&& (1431655765)))).toUInt32 >>> (((2) : Int32).toUInt32 &&& Int32.toUInt32 31)).toInt32 &&& (858993459))) + (((((a0 - (((a0).toUInt32 >>> (((1) : Int32).toUInt32 &&& Int32.toUInt32 31)).toInt32 &&& (1431655765))) &&& (858993459)) + ((((a0 - (((a0).toUInt32 >>> (((1) : Int32).toUInt32 &&& Int32.toUInt32 31)).toInt32 &&& (1431655765)))).toUInt32 >>> (((2) : Int32).toUInt32 &&& Int32.toUInt32 31)).toInt32 &&& (858993459)))).toUInt32 >>> (((4) : Int32).toUInt32 &&& Int32.toUInt32 31)).toInt32) &&& (252645135))] [] s _
  refine g_iload_n (pc := 34) K 0 dJ6_bitCount_0f7a4_34 rfl rfl ?_
  refine g_iload_n (pc := 35) K 0 dJ6_bitCount_0f7a4_35 rfl rfl ?_
  refine g_bipush (pc := 36) K (8) dJ6_bitCount_0f7a4_36 (by decide) ?_
  refine g_iushr (pc := 38) K dJ6_bitCount_0f7a4_38 ?_
  refine g_iadd (pc := 39) K dJ6_bitCount_0f7a4_39 ?_
  refine g_istore_n (pc := 40) K 0 dJ6_bitCount_0f7a4_40 rfl (by decide) ?_
  change G X 41 [.int ((((((a0 - (((a0).toUInt32 >>> (((1) : Int32).toUInt32 &&& Int32.toUInt32 31)).toInt32 &&& (1431655765))) &&& (858993459)) + ((((a0 - (((a0).toUInt32 >>> (((1) : Int32).toUInt32 &&& Int32.toUInt32 31)).toInt32 &&& (1431655765)))).toUInt32 >>> (((2) : Int32).toUInt32 &&& Int32.toUInt32 31)).toInt32 &&& (858993459))) + (((((a0 - (((a0).toUInt32 >>> (((1) : Int32).toUInt32 &&& Int32.toUInt32 31)).toInt32 &&& (1431655765))) &&& (858993459)) + ((((a0 - (((a0).toUInt32 >>> (((1) : Int32).toUInt32 &&& Int32.toUInt32 31)).toInt32 &&& (1431655765)))).toUInt32 >>> (((2) : Int32).toUInt32 &&& Int32.toUInt32 31)).toInt32 &&& (858993459)))).toUInt32 >>> (((4) : Int32).toUInt32 &&& Int32.toUInt32 31)).toInt32) &&& (252645135)) + (((((((a0 - (((a0).toUInt32 >>> (((1) : Int32).toUInt32 &&& Int32.toUInt32 31)).toInt32 &&& (1431655765))) &&& (858993459)) + ((((a0 - (((a0).toUInt32 >>> (((1) : Int32).toUInt32 &&& Int32.toUInt32 31)).toInt32 &&& (1431655765)))).toUInt32 >>> (((2) : Int32).toUInt32 &&& Int32.toUInt32 31)).toInt32 &&& (858993459))) + (((((a0 - (((a0).toUInt32 >>> (((1) : Int32).toUInt32 &&& Int32.toUInt32 31)).toInt32 &&& (1431655765))) &&& (858993459)) + ((((a0 - (((a0).toUInt32 >>> (((1) : Int32).toUInt32 &&& Int32.toUInt32 31)).toInt32 &&& (1431655765)))).toUInt32 >>> (((2) : Int32).toUInt32 &&& Int32.toUInt32 31)).toInt32 &&& (858993459)))).toUInt32 >>> (((4) : Int32).toUInt32 &&& Int32.toUInt32 31)).toInt32) &&& (252645135))).toUInt32 >>> (((8) : Int32).toUInt32 &&& Int32.toUInt32 31)).toInt32)] [] s _
  refine g_iload_n (pc := 41) K 0 dJ6_bitCount_0f7a4_41 rfl rfl ?_
  refine g_iload_n (pc := 42) K 0 dJ6_bitCount_0f7a4_42 rfl rfl ?_
  refine g_bipush (pc := 43) K (16) dJ6_bitCount_0f7a4_43 (by decide) ?_
  refine g_iushr (pc := 45) K dJ6_bitCount_0f7a4_45 ?_
  refine g_iadd (pc := 46) K dJ6_bitCount_0f7a4_46 ?_
  refine g_istore_n (pc := 47) K 0 dJ6_bitCount_0f7a4_47 rfl (by decide) ?_
  change G X 48 [.int (((((((a0 - (((a0).toUInt32 >>> (((1) : Int32).toUInt32 &&& Int32.toUInt32 31)).toInt32 &&& (1431655765))) &&& (858993459)) + ((((a0 - (((a0).toUInt32 >>> (((1) : Int32).toUInt32 &&& Int32.toUInt32 31)).toInt32 &&& (1431655765)))).toUInt32 >>> (((2) : Int32).toUInt32 &&& Int32.toUInt32 31)).toInt32 &&& (858993459))) + (((((a0 - (((a0).toUInt32 >>> (((1) : Int32).toUInt32 &&& Int32.toUInt32 31)).toInt32 &&& (1431655765))) &&& (858993459)) + ((((a0 - (((a0).toUInt32 >>> (((1) : Int32).toUInt32 &&& Int32.toUInt32 31)).toInt32 &&& (1431655765)))).toUInt32 >>> (((2) : Int32).toUInt32 &&& Int32.toUInt32 31)).toInt32 &&& (858993459)))).toUInt32 >>> (((4) : Int32).toUInt32 &&& Int32.toUInt32 31)).toInt32) &&& (252645135)) + (((((((a0 - (((a0).toUInt32 >>> (((1) : Int32).toUInt32 &&& Int32.toUInt32 31)).toInt32 &&& (1431655765))) &&& (858993459)) + ((((a0 - (((a0).toUInt32 >>> (((1) : Int32).toUInt32 &&& Int32.toUInt32 31)).toInt32 &&& (1431655765)))).toUInt32 >>> (((2) : Int32).toUInt32 &&& Int32.toUInt32 31)).toInt32 &&& (858993459))) + (((((a0 - (((a0).toUInt32 >>> (((1) : Int32).toUInt32 &&& Int32.toUInt32 31)).toInt32 &&& (1431655765))) &&& (858993459)) + ((((a0 - (((a0).toUInt32 >>> (((1) : Int32).toUInt32 &&& Int32.toUInt32 31)).toInt32 &&& (1431655765)))).toUInt32 >>> (((2) : Int32).toUInt32 &&& Int32.toUInt32 31)).toInt32 &&& (858993459)))).toUInt32 >>> (((4) : Int32).toUInt32 &&& Int32.toUInt32 31)).toInt32) &&& (252645135))).toUInt32 >>> (((8) : Int32).toUInt32 &&& Int32.toUInt32 31)).toInt32) + ((((((((a0 - (((a0).toUInt32 >>> (((1) : Int32).toUInt32 &&& Int32.toUInt32 31)).toInt32 &&& (1431655765))) &&& (858993459)) + ((((a0 - (((a0).toUInt32 >>> (((1) : Int32).toUInt32 &&& Int32.toUInt32 31)).toInt32 &&& (1431655765)))).toUInt32 >>> (((2) : Int32).toUInt32 &&& Int32.toUInt32 31)).toInt32 &&& (858993459))) + (((((a0 - (((a0).toUInt32 >>> (((1) : Int32).toUInt32 &&& Int32.toUInt32 31)).toInt32 &&& (1431655765))) &&& (858993459)) + ((((a0 - (((a0).toUInt32 >>> (((1) : Int32).toUInt32 &&& Int32.toUInt32 31)).toInt32 &&& (1431655765)))).toUInt32 >>> (((2) : Int32).toUInt32 &&& Int32.toUInt32 31)).toInt32 &&& (858993459)))).toUInt32 >>> (((4) : Int32).toUInt32 &&& Int32.toUInt32 31)).toInt32) &&& (252645135)) + (((((((a0 - (((a0).toUInt32 >>> (((1) : Int32).toUInt32 &&& Int32.toUInt32 31)).toInt32 &&& (1431655765))) &&& (858993459)) + ((((a0 - (((a0).toUInt32 >>> (((1) : Int32).toUInt32 &&& Int32.toUInt32 31)).toInt32 &&& (1431655765)))).toUInt32 >>> (((2) : Int32).toUInt32 &&& Int32.toUInt32 31)).toInt32 &&& (858993459))) + (((((a0 - (((a0).toUInt32 >>> (((1) : Int32).toUInt32 &&& Int32.toUInt32 31)).toInt32 &&& (1431655765))) &&& (858993459)) + ((((a0 - (((a0).toUInt32 >>> (((1) : Int32).toUInt32 &&& Int32.toUInt32 31)).toInt32 &&& (1431655765)))).toUInt32 >>> (((2) : Int32).toUInt32 &&& Int32.toUInt32 31)).toInt32 &&& (858993459)))).toUInt32 >>> (((4) : Int32).toUInt32 &&& Int32.toUInt32 31)).toInt32) &&& (252645135))).toUInt32 >>> (((8) : Int32).toUInt32 &&& Int32.toUInt32 31)).toInt32)).toUInt32 >>> (((16) : Int32).toUInt32 &&& Int32.toUInt32 31)).toInt32)] [] s _
  refine g_iload_n (pc := 48) K 0 dJ6_bitCount_0f7a4_48 rfl rfl ?_
  refine g_bipush (pc := 49) K (63) dJ6_bitCount_0f7a4_49 (by decide) ?_
  refine g_iand (pc := 51) K dJ6_bitCount_0f7a4_51 ?_
  exact g_ir (pc := 52) hR dJ6_bitCount_0f7a4_52
theorem qJ6_bitCount_0f7a4 (E : Ce) (a0 : Int32) : Con E yJ6_bitCount_0f7a4 cJ6_bitCount_0f7a4 1 (some .int) 1 [.int a0] (M_J6_bitCount_0f7a4 a0) :=
  Con.ofF plain_bitCount (List.forall_mem_cons.mpr ⟨rfl, fun _ h => absurd h List.not_mem_nil⟩) (Nat.le_of_ble_eq_true rfl) rfl [.int a0] ⟨rfl, trivial⟩ (fun X s hE hok hI => by subst hE; exact tJ6_bitCount_0f7a4 hok (hI rfl) a0 s)
theorem hyX1_askedBehind : yX1_askedBehind.cls ≠ "java/lang/invoke/MethodHandle" ∧ yX1_askedBehind.cls ≠ "java/lang/invoke/VarHandle" ∧ (parseMethodDescriptor yX1_askedBehind.desc).map (fun d => d.parameters.length) = some 2 := by decide +kernel
set_option maxRecDepth 20000 in
set_option maxHeartbeats 4000000 in
theorem tM_X1_askedBehind_L11 {X : Cx} (K : Ok X cX1_askedBehind RX1 6 2) (hR : RI X cX1_askedBehind) (k : Nat) (hk : Frm k) (x2 : Int32) (x3 : Int32) (kk : Int32 → St → Option (Int32 × St)) (hkk : ∀ (x4 : Int32) (s : St), G X 57 [.null, .null, .null, .null, .int x4, .null] [] s (kk x4 s)) : ∀ (fu : Nat) (x4 x5 : Int32) (s : St), G X 11 [.ref (X.B + k), .null, .int x2, .int x3, .int x4, .int x5] [] s (M_X1_askedBehind_L11 k x2 x3 kk fu x4 x5 s) := by
  intro fu
  induction fu with
  | zero => intro x4 x5 s; exact g_none
  | succ fu ih =>
    intro x4 x5 s
    rw [M_X1_askedBehind_L11]
    refine g_iload (pc := 11) K dX1_askedBehind_11 rfl ?_
    refine g_aload_n (pc := 13) K 0 dX1_askedBehind_13 rfl rfl ?_
    refine gg_1_0 (pc := 14) K hk.1 hk.2.1 kX1_27 dX1_askedBehind_14 ?_
    refine g_icmp_ge (pc := 17) K 57 dX1_askedBehind_17 (by decide) ?_ ?_
    · exact g_wk (hkk x4 s) ⟨rfl, trivial⟩
    · refine g_aload_n (pc := 20) K 0 dX1_askedBehind_20 rfl rfl ?_
      refine gg_1_3 (pc := 21) K hk.1 hk.2.1 kX1_18 dX1_askedBehind_21 (k + 3) rfl ?_
      refine g_iload (pc := 24) K dX1_askedBehind_24 rfl ?_
      refine g_iaload (pc := 26) K hk.2.2.2.2.1.1 hk.2.2.2.2.1.2.1 hk.2.2.2.2.1.2.2 dX1_askedBehind_26 (fun v3 => ?_)
      refine g_iload_n (pc := 27) K 2 dX1_askedBehind_27 rfl rfl ?_
      refine g_jn (κ := Int32 → St → Option (Int32 × St)) (fun kj4 => ∀ (v5 : Int32) (s6 : St), G X 51 [.ref (X.B + k), .null, .int x2, .int x3, .int v5, .int x5] [] s6 (kj4 v5 s6)) (fun v5 s6 => ?_) (fun kj4 hkj4 => ?_)
      · refine g_iinc (pc := 51) K (1) dX1_askedBehind_51 rfl (by decide) (by decide) ?_
        change G X 54 [.ref (X.B + k), .null, .int x2, .int x3, .int v5, .int (x5 + (1))] [] s6 _
        refine g_goto (pc := 54) K 11 dX1_askedBehind_54 (by decide) ?_
        exact g_wk (ih v5 (x5 + (1)) s6) ⟨rfl, ⟨rfl, ⟨rfl, ⟨rfl, ⟨rfl, trivial⟩⟩⟩⟩⟩
      · refine g_jn (κ := St → Option (Int32 × St)) (fun kj7 => ∀ (s8 : St), G X 42 [.ref (X.B + k), .null, .int x2, .int x3, .int x4, .int x5] [] s8 (kj7 s8)) (fun s8 => ?_) (fun kj7 hkj7 => ?_)
        · refine g_iload (pc := 42) K dX1_askedBehind_42 rfl ?_
          refine g_iconst (pc := 44) K (1) dX1_askedBehind_44 (by decide) ?_
          refine g_iload (pc := 45) K dX1_askedBehind_45 rfl ?_
          refine g_ishl (pc := 47) K dX1_askedBehind_47 ?_
          refine g_ior (pc := 48) K dX1_askedBehind_48 ?_
          refine g_istore (pc := 49) K dX1_askedBehind_49 (by decide) ?_
          change G X 51 [.ref (X.B + k), .null, .int x2, .int x3, .int (x4 ||| ((1) <<< (x5 &&& 31))), .int x5] [] s8 _
          exact g_wk (hkj4 (x4 ||| ((1) <<< (x5 &&& 31))) s8) ⟨rfl, ⟨rfl, ⟨rfl, ⟨rfl, ⟨rfl, trivial⟩⟩⟩⟩⟩
        · refine g_icmp_le (pc := 28) K 42 dX1_askedBehind_28 (by decide) ?_ ?_
          · exact g_wk (hkj7  s) ⟨rfl, ⟨rfl, ⟨rfl, ⟨rfl, ⟨rfl, trivial⟩⟩⟩⟩⟩
          · refine g_aload_n (pc := 31) K 0 dX1_askedBehind_31 rfl rfl ?_
            refine gg_1_4 (pc := 32) K hk.1 hk.2.1 kX1_21 dX1_askedBehind_32 (k + 4) rfl ?_
            refine g_iload (pc := 35) K dX1_askedBehind_35 rfl ?_
            refine g_iaload (pc := 37) K hk.2.2.2.2.2.1.1 hk.2.2.2.2.2.1.2.1 hk.2.2.2.2.2.1.2.2 dX1_askedBehind_37 (fun v9 => ?_)
            refine g_iload_n (pc := 38) K 3 dX1_askedBehind_38 rfl rfl ?_
            refine g_icmp_gt (pc := 39) K 51 dX1_askedBehind_39 (by decide) ?_ ?_
            · exact g_wk (hkj4 x4 s) ⟨rfl, ⟨rfl, ⟨rfl, ⟨rfl, ⟨rfl, trivial⟩⟩⟩⟩⟩
            · exact g_wk (hkj7  s) ⟨rfl, ⟨rfl, ⟨rfl, ⟨rfl, ⟨rfl, trivial⟩⟩⟩⟩⟩
set_option maxRecDepth 20000 in
set_option maxHeartbeats 4000000 in
theorem tX1_askedBehind {X : Cx} (K : Ok X cX1_askedBehind RX1 6 2) (hR : RI X cX1_askedBehind) (k : Nat) (hk : Frm k) (a1 : Int32) (a2 : Int32) (s : St) : G X 0 [.ref (X.B + k), .int a1, .int a2, .null, .null, .null] [] s (M_X1_askedBehind k a1 a2 s) := by
  unfold M_X1_askedBehind
  refine g_iload_n (pc := 0) K 1 dX1_askedBehind_0 rfl rfl ?_
  refine g_callS (pc := 1) (S := []) K (qJ6_bitCount_0f7a4 X.E a1) (by decide) (by decide) wcJ6_bitCount_0f7a4 wiJ6 kX1_35 wtJ6_bitCount_0f7a4 hyJ6_bitCount_0f7a4 rfl rfl (Nat.le_of_ble_eq_true rfl) dX1_askedBehind_1 (fun r1 s2 => ?_)
  change G X 4 [.ref (X.B + k), .int a1, .int a2, .null, .null, .null] [.int r1] s2 _
  refine g_istore_n (pc := 4) K 3 dX1_askedBehind_4 rfl (by decide) ?_
  change G X 5 [.ref (X.B + k), .int a1, .int a2, .int r1, .null, .null] [] s2 _
  refine g_iload_n (pc := 5) K 1 dX1_askedBehind_5 rfl rfl ?_
  refine g_istore (pc := 6) K dX1_askedBehind_6 (by decide) ?_
  change G X 8 [.ref (X.B + k), .int a1, .int a2, .int r1, .int a1, .null] [] s2 _
  refine g_iconst (pc := 8) K (0) dX1_askedBehind_8 (by decide) ?_
  refine g_istore (pc := 9) K dX1_askedBehind_9 (by decide) ?_
  change G X 11 [.ref (X.B + k), .int a1, .int a2, .int r1, .int a1, .int (0)] [] s2 _
  refine g_weak (L' := [.ref (X.B + k), .null, .int a2, .int r1, .int a1, .int (0)]) ⟨rfl, ⟨rfl, ⟨rfl, ⟨rfl, ⟨rfl, trivial⟩⟩⟩⟩⟩ ?_
  refine tM_X1_askedBehind_L11 K hR k hk a2 r1 _ (fun v10 s11 => ?_) 400 a1 (0) s2
  refine g_iload (pc := 57) K dX1_askedBehind_57 rfl ?_
  exact g_ir (pc := 59) hR dX1_askedBehind_59
theorem qX1_askedBehind (E : Ce) (k : Nat) (hk : Frm k) (a1 : Int32) (a2 : Int32) : Con E yX1_askedBehind cX1_askedBehind 6 (some .int) 2 [.ref (E.B + k), .int a1, .int a2] (M_X1_askedBehind k a1 a2) :=
  Con.of (by decide) (List.forall_mem_cons.mpr ⟨rfl, List.forall_mem_cons.mpr ⟨rfl, List.forall_mem_cons.mpr ⟨rfl, fun _ h => absurd h List.not_mem_nil⟩⟩⟩) (Nat.le_of_ble_eq_true rfl) (Or.inr (Or.inl rfl)) [.ref (E.B + k), .int a1, .int a2, .null, .null, .null] ⟨rfl, ⟨rfl, ⟨rfl, trivial⟩⟩⟩ (fun X s hE hok hI hZ hV => by subst hE; exact tX1_askedBehind hok (hI rfl) k hk a1 a2 s)
theorem hyX3_copyFrom : yX3_copyFrom.cls ≠ "java/lang/invoke/MethodHandle" ∧ yX3_copyFrom.cls ≠ "java/lang/invoke/VarHandle" ∧ (parseMethodDescriptor yX3_copyFrom.desc).map (fun d => d.parameters.length) = some 1 := by decide +kernel
set_option maxRecDepth 20000 in
set_option maxHeartbeats 4000000 in
theorem tM_X3_copyFrom_L18 {X : Cx} (K : Ok X cX3_copyFrom RX3 3 1) (hR : RV X cX3_copyFrom) (k : Nat) (k1 : Nat) (hk : Scn k) (hk1 : Scn k1) (kk : St → Option (Int32 × St)) (hkk : ∀ (s : St), G X 54 [.null, .null, .null] [] s (kk s)) : ∀ (fu : Nat) (x2 : Int32) (s : St), G X 18 [.ref (X.B + k), .ref (X.B + k1), .int x2] [] s (M_X3_copyFrom_L18 k k1 kk fu x2 s) := by
  intro fu
  induction fu with
  | zero => intro x2 s; exact g_none
  | succ fu ih =>
    intro x2 s
    rw [M_X3_copyFrom_L18]
    refine g_iload_n (pc := 18) K 2 dX3_copyFrom_18 rfl rfl ?_
    refine g_bipush (pc := 19) K (6) dX3_copyFrom_19 (by decide) ?_
    refine g_icmp_ge (pc := 21) K 54 dX3_copyFrom_21 (by decide) ?_ ?_
    · exact g_wk (hkk  s) trivial
    · refine g_aload_n (pc := 24) K 0 dX3_copyFrom_24 rfl rfl ?_
      refine gg_3_3 (pc := 25) K hk.1 hk.2.1 kX3_9 dX3_copyFrom_25 (k + 1) rfl ?_
      refine g_iload_n (pc := 28) K 2 dX3_copyFrom_28 rfl rfl ?_
      refine g_aload_n (pc := 29) K 1 dX3_copyFrom_29 rfl rfl ?_
      refine gg_3_3 (pc := 30) K hk1.1 hk1.2.1 kX3_9 dX3_copyFrom_30 (k1 + 1) rfl ?_
      refine g_iload_n (pc := 33) K 2 dX3_copyFrom_33 rfl rfl ?_
      refine g_iaload (pc := 34) K hk1.2.2.1.1 hk1.2.2.1.2.1 hk1.2.2.1.2.2 dX3_copyFrom_34 (fun v3 => ?_)
      refine g_iastore (pc := 35) K hk.2.2.1.1 hk.2.2.1.2.1 hk.2.2.1.2.2 dX3_copyFrom_35 (fun s4 => ?_)
      refine g_aload_n (pc := 36) K 0 dX3_copyFrom_36 rfl rfl ?_
      refine gg_3_4 (pc := 37) K hk.1 hk.2.1 kX3_15 dX3_copyFrom_37 (k + 2) rfl ?_
      refine g_iload_n (pc := 40) K 2 dX3_copyFrom_40 rfl rfl ?_
      refine g_aload_n (pc := 41) K 1 dX3_copyFrom_41 rfl rfl ?_
      refine gg_3_4 (pc := 42) K hk1.1 hk1.2.1 kX3_15 dX3_copyFrom_42 (k1 + 2) rfl ?_
      refine g_iload_n (pc := 45) K 2 dX3_copyFrom_45 rfl rfl ?_
      refine g_iaload (pc := 46) K hk1.2.2.2.1 hk1.2.2.2.2.1 hk1.2.2.2.2.2 dX3_copyFrom_46 (fun v5 => ?_)
      refine g_iastore (pc := 47) K hk.2.2.2.1 hk.2.2.2.2.1 hk.2.2.2.2.2 dX3_copyFrom_47 (fun s6 => ?_)
      refine g_iinc (pc := 48) K (1) dX3_copyFrom_48 rfl (by decide) (by decide) ?_
      change G X 51 [.ref (X.B + k), .ref (X.B + k1), .int (x2 + (1))] [] s6 _
      refine g_goto (pc := 51) K 18 dX3_copyFrom_51 (by decide) ?_
      exact g_wk (ih (x2 + (1)) s6) ⟨rfl, ⟨rfl, ⟨rfl, trivial⟩⟩⟩
set_option maxRecDepth 20000 in
set_option maxHeartbeats 4000000 in
theorem tX3_copyFrom {X : Cx} (K : Ok X cX3_copyFrom RX3 3 1) (hR : RV X cX3_copyFrom) (k : Nat) (k1 : Nat) (hk : Scn k) (hk1 : Scn k1) (s : St) : G X 0 [.ref (X.B + k), .ref (X.B + k1), .null] [] s (M_X3_copyFrom k k1 s) := by
  unfold M_X3_copyFrom
  refine g_aload_n (pc := 0) K 0 dX3_copyFrom_0 rfl rfl ?_
  refine g_aload_n (pc := 1) K 1 dX3_copyFrom_1 rfl rfl ?_
  refine gg_3_1 (pc := 2) K hk1.1 hk1.2.1 kX3_22 dX3_copyFrom_2 ?_
  refine gp_3_1 (pc := 5) K hk.1 hk.2.1 kX3_22 dX3_copyFrom_5 (fun s1 => ?_)
  refine g_aload_n (pc := 8) K 0 dX3_copyFrom_8 rfl rfl ?_
  refine g_aload_n (pc := 9) K 1 dX3_copyFrom_9 rfl rfl ?_
  refine gg_3_2 (pc := 10) K hk1.1 hk1.2.1 kX3_26 dX3_copyFrom_10 ?_
  refine gp_3_2 (pc := 13) K hk.1 hk.2.1 kX3_26 dX3_copyFrom_13 (fun s2 => ?_)
  refine g_iconst (pc := 16) K (0) dX3_copyFrom_16 (by decide) ?_
  refine g_istore_n (pc := 17) K 2 dX3_copyFrom_17 rfl (by decide) ?_
  change G X 18 [.ref (X.B + k), .ref (X.B + k1), .int (0)] [] s2 _
  refine g_weak (L' := [.ref (X.B + k), .ref (X.B + k1), .int (0)]) ⟨rfl, ⟨rfl, ⟨rfl, trivial⟩⟩⟩ ?_
  refine tM_X3_copyFrom_L18 K hR k k1 hk hk1 _ (fun s7 => ?_) 400 (0) s2
  exact g_vr (pc := 54) hR dX3_copyFrom_54
theorem qX3_copyFrom (E : Ce) (k : Nat) (k1 : Nat) (hk : Scn k) (hk1 : Scn k1) : Con E yX3_copyFrom cX3_copyFrom 3 none 1 [.ref (E.B + k), .ref (E.B + k1)] (M_X3_copyFrom k k1) :=
  Con.of (by decide) (List.forall_mem_cons.mpr ⟨rfl, List.forall_mem_cons.mpr ⟨rfl, fun _ h => absurd h List.not_mem_nil⟩⟩) (Nat.le_of_ble_eq_true rfl) (Or.inl rfl) [.ref (E.B + k), .ref (E.B + k1), .null] ⟨rfl, ⟨rfl, trivial⟩⟩ (fun X s hE hok hI hZ hV => by subst hE; exact tX3_copyFrom hok (hV rfl) k k1 hk hk1 s)
theorem hyX2_push : yX2_push.cls ≠ "java/lang/invoke/MethodHandle" ∧ yX2_push.cls ≠ "java/lang/invoke/VarHandle" ∧ (parseMethodDescriptor yX2_push.desc).map (fun d => d.parameters.length) = some 1 := by decide +kernel
set_option maxRecDepth 20000 in
set_option maxHeartbeats 4000000 in
theorem tX2_push {X : Cx} (K : Ok X cX2_push RX2 2 2) (hR : RV X cX2_push) (k1 : Nat) (hk1 : Scn k1) (s : St) : G X 0 [.ref (X.B + 21), .ref (X.B + k1)] [] s (M_X2_push k1 s) := by
  unfold M_X2_push
  refine g_aload_n (pc := 0) K 0 dX2_push_0 rfl rfl ?_
  refine gg_2_0 (pc := 1) K (by decide) kd_21 kX2_11 dX2_push_1 ?_
  refine g_aload_n (pc := 4) K 0 dX2_push_4 rfl rfl ?_
  refine gg_2_1 (pc := 5) K (by decide) kd_21 kX2_20 dX2_push_5 ?_
  refine g_aald (pc := 8) K (by decide) kd_22 ln_22 Scn sc22 dX2_push_8 (fun j1 hj1 => ?_)
  refine g_aload_n (pc := 9) K 1 dX2_push_9 rfl rfl ?_
  refine g_callVN (pc := 10) (S := []) K (qX3_copyFrom X.E j1 k1 hj1 hk1) hj1.1 (ci := 3) rfl (fun _ => ⟨_, ce_3 hj1.2.1⟩) (by decide) (by decide) wcX3_copyFrom wiX3 kX2_24 wmX3_copyFrom weX3_copyFrom hyX3_copyFrom rfl rfl (Nat.le_of_ble_eq_true rfl) dX2_push_10 (fun r2 s3 => ?_)
  change G X 13 [.ref (X.B + 21), .ref (X.B + k1)] [] s3 _
  refine g_aload_n (pc := 13) K 0 dX2_push_13 rfl rfl ?_
  refine g_aload_n (pc := 14) K 0 dX2_push_14 rfl rfl ?_
  refine gg_2_1 (pc := 15) K (by decide) kd_21 kX2_20 dX2_push_15 ?_
  refine g_bipush (pc := 18) K (9) dX2_push_18 (by decide) ?_
  refine g_jn (κ := Int32 → St → Option (Int32 × St)) (fun kj4 => ∀ (v5 : Int32) (s6 : St), G X 33 [.ref (X.B + 21), .null] [.int v5, .ref (X.B + 21)] s6 (kj4 v5 s6)) (fun v5 s6 => ?_) (fun kj4 hkj4 => ?_)
  · refine gp_2_1 (pc := 33) K (by decide) kd_21 kX2_20 dX2_push_33 (fun s7 => ?_)
    refine g_aload_n (pc := 36) K 0 dX2_push_36 rfl rfl ?_
    refine g_aload_n (pc := 37) K 0 dX2_push_37 rfl rfl ?_
    refine gg_2_2 (pc := 38) K (by decide) kd_21 kX2_28 dX2_push_38 ?_
    refine g_iconst (pc := 41) K (1) dX2_push_41 (by decide) ?_
    refine g_iadd (pc := 42) K dX2_push_42 ?_
    refine g_bipush (pc := 43) K (10) dX2_push_43 (by decide) ?_
    refine g_mmin (pc := 45) K (by omega) kX2_31 (Nat.le_of_ble_eq_true rfl) dX2_push_45 ?_
    refine gp_2_2 (pc := 48) K (by decide) kd_21 kX2_28 dX2_push_48 (fun s8 => ?_)
    exact g_vr (pc := 51) hR dX2_push_51
  · refine g_icmp_ne (pc := 20) K 27 dX2_push_20 (by decide) ?_ ?_
    · refine g_aload_n (pc := 27) K 0 dX2_push_27 rfl rfl ?_
      refine gg_2_1 (pc := 28) K (by decide) kd_21 kX2_20 dX2_push_28 ?_
      refine g_iconst (pc := 31) K (1) dX2_push_31 (by decide) ?_
      refine g_iadd (pc := 32) K dX2_push_32 ?_
      exact g_wk (hkj4 ((s3.1 21 1) + (1)) s3) ⟨rfl, trivial⟩
    · refine g_iconst (pc := 23) K (0) dX2_push_23 (by decide) ?_
      refine g_goto (pc := 24) K 33 dX2_push_24 (by decide) ?_
      exact g_wk (hkj4 (0) s3) ⟨rfl, trivial⟩
theorem qX2_push (E : Ce) (k1 : Nat) (hk1 : Scn k1) : Con E yX2_push cX2_push 2 none 2 [.ref (E.B + 21), .ref (E.B + k1)] (M_X2_push k1) :=
  Con.of (by decide) (List.forall_mem_cons.mpr ⟨rfl, List.forall_mem_cons.mpr ⟨rfl, fun _ h => absurd h List.not_mem_nil⟩⟩) (Nat.le_of_ble_eq_true rfl) (Or.inl rfl) [.ref (E.B + 21), .ref (E.B + k1)] ⟨rfl, ⟨rfl, trivial⟩⟩ (fun X s hE hok hI hZ hV => by subst hE; exact tX2_push hok (hV rfl) k1 hk1 s)
theorem hyX2_pop : yX2_pop.cls ≠ "java/lang/invoke/MethodHandle" ∧ yX2_pop.cls ≠ "java/lang/invoke/VarHandle" ∧ (parseMethodDescriptor yX2_pop.desc).map (fun d => d.parameters.length) = some 1 := by decide +kernel
set_option maxRecDepth 20000 in
set_option maxHeartbeats 4000000 in
theorem tX2_pop {X : Cx} (K : Ok X cX2_pop RX2 2 2) (hR : RV X cX2_pop) (k1 : Nat) (hk1 : Scn k1) (s : St) : G X 0 [.ref (X.B + 21), .ref (X.B + k1)] [] s (M_X2_pop k1 s) := by
  unfold M_X2_pop
  refine g_aload_n (pc := 0) K 0 dX2_pop_0 rfl rfl ?_
  refine g_aload_n (pc := 1) K 0 dX2_pop_1 rfl rfl ?_
  refine gg_2_1 (pc := 2) K (by decide) kd_21 kX2_20 dX2_pop_2 ?_
  refine g_jn (κ := Int32 → St → Option (Int32 × St)) (fun kj1 => ∀ (v2 : Int32) (s3 : St), G X 19 [.ref (X.B + 21), .ref (X.B + k1)] [.int v2, .ref (X.B + 21)] s3 (kj1 v2 s3)) (fun v2 s3 => ?_) (fun kj1 hkj1 => ?_)
  · refine gp_2_1 (pc := 19) K (by decide) kd_21 kX2_20 dX2_pop_19 (fun s4 => ?_)
    refine g_aload_n (pc := 22) K 0 dX2_pop_22 rfl rfl ?_
    refine g_dup (pc := 23) K dX2_pop_23 rfl ?_
    refine gg_2_2 (pc := 24) K (by decide) kd_21 kX2_28 dX2_pop_24 ?_
    refine g_iconst (pc := 27) K (1) dX2_pop_27 (by decide) ?_
    refine g_isub (pc := 28) K dX2_pop_28 ?_
    refine gp_2_2 (pc := 29) K (by decide) kd_21 kX2_28 dX2_pop_29 (fun s5 => ?_)
    refine g_aload_n (pc := 32) K 1 dX2_pop_32 rfl rfl ?_
    refine g_aload_n (pc := 33) K 0 dX2_pop_33 rfl rfl ?_
    refine gg_2_0 (pc := 34) K (by decide) kd_21 kX2_11 dX2_pop_34 ?_
    refine g_aload_n (pc := 37) K 0 dX2_pop_37 rfl rfl ?_
    refine gg_2_1 (pc := 38) K (by decide) kd_21 kX2_20 dX2_pop_38 ?_
    refine g_aald (pc := 41) K (by decide) kd_22 ln_22 Scn sc22 dX2_pop_41 (fun j6 hj6 => ?_)
    refine g_callVN (pc := 42) (S := []) K (qX3_copyFrom X.E k1 j6 hk1 hj6) hk1.1 (ci := 3) rfl (fun _ => ⟨_, ce_3 hk1.2.1⟩) (by decide) (by decide) wcX3_copyFrom wiX3 kX2_24 wmX3_copyFrom weX3_copyFrom hyX3_copyFrom rfl rfl (Nat.le_of_ble_eq_true rfl) dX2_pop_42 (fun r7 s8 => ?_)
    change G X 45 [.ref (X.B + 21), .ref (X.B + k1)] [] s8 _
    exact g_vr (pc := 45) hR dX2_pop_45
  · refine g_if_ne (pc := 5) K 13 dX2_pop_5 (by decide) ?_ ?_
    · refine g_aload_n (pc := 13) K 0 dX2_pop_13 rfl rfl ?_
      refine gg_2_1 (pc := 14) K (by decide) kd_21 kX2_20 dX2_pop_14 ?_
      refine g_iconst (pc := 17) K (1) dX2_pop_17 (by decide) ?_
      refine g_isub (pc := 18) K dX2_pop_18 ?_
      exact g_wk (hkj1 ((s.1 21 1) - (1)) s) ⟨rfl, ⟨rfl, trivial⟩⟩
    · refine g_bipush (pc := 8) K (9) dX2_pop_8 (by decide) ?_
      refine g_goto (pc := 10) K 19 dX2_pop_10 (by decide) ?_
      exact g_wk (hkj1 (9) s) ⟨rfl, ⟨rfl, trivial⟩⟩
theorem qX2_pop (E : Ce) (k1 : Nat) (hk1 : Scn k1) : Con E yX2_pop cX2_pop 2 none 2 [.ref (E.B + 21), .ref (E.B + k1)] (M_X2_pop k1) :=
  Con.of (by decide) (List.forall_mem_cons.mpr ⟨rfl, List.forall_mem_cons.mpr ⟨rfl, fun _ h => absurd h List.not_mem_nil⟩⟩) (Nat.le_of_ble_eq_true rfl) (Or.inl rfl) [.ref (E.B + 21), .ref (E.B + k1)] ⟨rfl, ⟨rfl, trivial⟩⟩ (fun X s hE hok hI hZ hV => by subst hE; exact tX2_pop hok (hV rfl) k1 hk1 s)
theorem hyX3_begin : yX3_begin.cls ≠ "java/lang/invoke/MethodHandle" ∧ yX3_begin.cls ≠ "java/lang/invoke/VarHandle" ∧ (parseMethodDescriptor yX3_begin.desc).map (fun d => d.parameters.length) = some 0 := by decide +kernel
set_option maxRecDepth 20000 in
set_option maxHeartbeats 4000000 in
theorem tM_X3_begin_L12 {X : Cx} (K : Ok X cX3_begin RX3 2 1) (hR : RV X cX3_begin) (k : Nat) (hk : Scn k) (kk : St → Option (Int32 × St)) (hkk : ∀ (s : St), G X 54 [.null, .null] [] s (kk s)) : ∀ (fu : Nat) (x1 : Int32) (s : St), G X 12 [.ref (X.B + k), .int x1] [] s (M_X3_begin_L12 k kk fu x1 s) := by
  intro fu
  induction fu with
  | zero => intro x1 s; exact g_none
  | succ fu ih =>
    intro x1 s
    rw [M_X3_begin_L12]
    refine g_iload_n (pc := 12) K 1 dX3_begin_12 rfl rfl ?_
    refine g_bipush (pc := 13) K (6) dX3_begin_13 (by decide) ?_
    refine g_icmp_ge (pc := 15) K 54 dX3_begin_15 (by decide) ?_ ?_
    · exact g_wk (hkk  s) trivial
    · refine g_aload_n (pc := 18) K 0 dX3_begin_18 rfl rfl ?_
      refine gg_3_3 (pc := 19) K hk.1 hk.2.1 kX3_9 dX3_begin_19 (k + 1) rfl ?_
      refine g_iload_n (pc := 22) K 1 dX3_begin_22 rfl rfl ?_
      refine g_aload_n (pc := 23) K 0 dX3_begin_23 rfl rfl ?_
      refine gg_3_0 (pc := 24) K hk.1 hk.2.1 kX3_18 dX3_begin_24 ?_
      refine gg_1_2 (pc := 27) K (by decide) kd_9 kX3_29 dX3_begin_27 11 rfl ?_
      refine g_iload_n (pc := 30) K 1 dX3_begin_30 rfl rfl ?_
      refine g_iaload (pc := 31) K (by decide) kd_11 ln_11 dX3_begin_31 (fun v3 => ?_)
      refine g_iastore (pc := 32) K hk.2.2.1.1 hk.2.2.1.2.1 hk.2.2.1.2.2 dX3_begin_32 (fun s4 => ?_)
      refine g_aload_n (pc := 33) K 0 dX3_begin_33 rfl rfl ?_
      refine gg_3_4 (pc := 34) K hk.1 hk.2.1 kX3_15 dX3_begin_34 (k + 2) rfl ?_
      refine g_iload_n (pc := 37) K 1 dX3_begin_37 rfl rfl ?_
      refine g_aload_n (pc := 38) K 0 dX3_begin_38 rfl rfl ?_
      refine gg_3_0 (pc := 39) K hk.1 hk.2.1 kX3_18 dX3_begin_39 ?_
      refine gg_1_5 (pc := 42) K (by decide) kd_9 kX3_34 dX3_begin_42 14 rfl ?_
      refine g_iload_n (pc := 45) K 1 dX3_begin_45 rfl rfl ?_
      refine g_iaload (pc := 46) K (by decide) kd_14 ln_14 dX3_begin_46 (fun v5 => ?_)
      refine g_iastore (pc := 47) K hk.2.2.2.1 hk.2.2.2.2.1 hk.2.2.2.2.2 dX3_begin_47 (fun s6 => ?_)
      refine g_iinc (pc := 48) K (1) dX3_begin_48 rfl (by decide) (by decide) ?_
      change G X 51 [.ref (X.B + k), .int (x1 + (1))] [] s6 _
      refine g_goto (pc := 51) K 12 dX3_begin_51 (by decide) ?_
      exact g_wk (ih (x1 + (1)) s6) ⟨rfl, ⟨rfl, trivial⟩⟩
set_option maxRecDepth 20000 in
set_option maxHeartbeats 4000000 in
theorem tX3_begin {X : Cx} (K : Ok X cX3_begin RX3 2 1) (hR : RV X cX3_begin) (k : Nat) (hk : Scn k) (s : St) : G X 0 [.ref (X.B + k), .null] [] s (M_X3_begin k s) := by
  unfold M_X3_begin
  refine g_aload_n (pc := 0) K 0 dX3_begin_0 rfl rfl ?_
  refine g_iconst (pc := 1) K (0) dX3_begin_1 (by decide) ?_
  refine gp_3_1 (pc := 2) K hk.1 hk.2.1 kX3_22 dX3_begin_2 (fun s1 => ?_)
  refine g_aload_n (pc := 5) K 0 dX3_begin_5 rfl rfl ?_
  refine g_iconst (pc := 6) K (0) dX3_begin_6 (by decide) ?_
  refine gp_3_2 (pc := 7) K hk.1 hk.2.1 kX3_26 dX3_begin_7 (fun s2 => ?_)
  refine g_iconst (pc := 10) K (0) dX3_begin_10 (by decide) ?_
  refine g_istore_n (pc := 11) K 1 dX3_begin_11 rfl (by decide) ?_
  change G X 12 [.ref (X.B + k), .int (0)] [] s2 _
  refine g_weak (L' := [.ref (X.B + k), .int (0)]) ⟨rfl, ⟨rfl, trivial⟩⟩ ?_
  refine tM_X3_begin_L12 K hR k hk _ (fun s7 => ?_) 400 (0) s2
  exact g_vr (pc := 54) hR dX3_begin_54
theorem qX3_begin (E : Ce) (k : Nat) (hk : Scn k) : Con E yX3_begin cX3_begin 2 none 1 [.ref (E.B + k)] (M_X3_begin k) :=
  Con.of (by decide) (List.forall_mem_cons.mpr ⟨rfl, fun _ h => absurd h List.not_mem_nil⟩) (Nat.le_of_ble_eq_true rfl) (Or.inl rfl) [.ref (E.B + k), .null] ⟨rfl, trivial⟩ (fun X s hE hok hI hZ hV => by subst hE; exact tX3_begin hok (hV rfl) k hk s)
theorem hyX3_hasAsked : yX3_hasAsked.cls ≠ "java/lang/invoke/MethodHandle" ∧ yX3_hasAsked.cls ≠ "java/lang/invoke/VarHandle" ∧ (parseMethodDescriptor yX3_hasAsked.desc).map (fun d => d.parameters.length) = some 1 := by decide +kernel
set_option maxRecDepth 20000 in
set_option maxHeartbeats 4000000 in
theorem tX3_hasAsked {X : Cx} (K : Ok X cX3_hasAsked RX3 2 1) (hR : RZ X cX3_hasAsked) (k : Nat) (hk : Scn k) (a1 : Int32) (s : St) : G X 0 [.ref (X.B + k), .int a1] [] s (M_X3_hasAsked k a1 s) := by
  unfold M_X3_hasAsked
  refine g_aload_n (pc := 0) K 0 dX3_hasAsked_0 rfl rfl ?_
  refine gg_3_2 (pc := 1) K hk.1 hk.2.1 kX3_26 dX3_hasAsked_1 ?_
  refine g_iload_n (pc := 4) K 1 dX3_hasAsked_4 rfl rfl ?_
  refine g_ishr (pc := 5) K dX3_hasAsked_5 ?_
  refine g_iconst (pc := 6) K (1) dX3_hasAsked_6 (by decide) ?_
  refine g_iand (pc := 7) K dX3_hasAsked_7 ?_
  refine g_iconst (pc := 8) K (1) dX3_hasAsked_8 (by decide) ?_
  refine g_icmp_ne (pc := 9) K 16 dX3_hasAsked_9 (by decide) ?_ ?_
  · refine g_iconst (pc := 16) K (0) dX3_hasAsked_16 (by decide) ?_
    exact g_zr0 (pc := 17) hR dX3_hasAsked_17
  · refine g_iconst (pc := 12) K (1) dX3_hasAsked_12 (by decide) ?_
    refine g_goto (pc := 13) K 17 dX3_hasAsked_13 (by decide) ?_
    exact g_zr1 (pc := 17) hR dX3_hasAsked_17
theorem qX3_hasAsked (E : Ce) (k : Nat) (hk : Scn k) (a1 : Int32) : Con E yX3_hasAsked cX3_hasAsked 2 (some .boolean) 1 [.ref (E.B + k), .int a1] (M_X3_hasAsked k a1) :=
  Con.of (by decide) (List.forall_mem_cons.mpr ⟨rfl, List.forall_mem_cons.mpr ⟨rfl, fun _ h => absurd h List.not_mem_nil⟩⟩) (Nat.le_of_ble_eq_true rfl) (Or.inr (Or.inr rfl)) [.ref (E.B + k), .int a1] ⟨rfl, ⟨rfl, trivial⟩⟩ (fun X s hE hok hI hZ hV => by subst hE; exact tX3_hasAsked hok (hZ rfl) k hk a1 s)
theorem hyX3_hungWith : yX3_hungWith.cls ≠ "java/lang/invoke/MethodHandle" ∧ yX3_hungWith.cls ≠ "java/lang/invoke/VarHandle" ∧ (parseMethodDescriptor yX3_hungWith.desc).map (fun d => d.parameters.length) = some 1 := by decide +kernel
set_option maxRecDepth 20000 in
set_option maxHeartbeats 4000000 in
theorem tM_X3_hungWith_L4 {X : Cx} (K : Ok X cX3_hungWith RX3 4 1) (hR : RI X cX3_hungWith) (k : Nat) (hk : Scn k) (x1 : Int32) (kk : Int32 → St → Option (Int32 × St)) (hkk : ∀ (x2 : Int32) (s : St), G X 37 [.null, .null, .int x2, .null] [] s (kk x2 s)) : ∀ (fu : Nat) (x2 x3 : Int32) (s : St), G X 4 [.ref (X.B + k), .int x1, .int x2, .int x3] [] s (M_X3_hungWith_L4 k x1 kk fu x2 x3 s) := by
  intro fu
  induction fu with
  | zero => intro x2 x3 s; exact g_none
  | succ fu ih =>
    intro x2 x3 s
    rw [M_X3_hungWith_L4]
    refine g_iload_n (pc := 4) K 3 dX3_hungWith_4 rfl rfl ?_
    refine g_aload_n (pc := 5) K 0 dX3_hungWith_5 rfl rfl ?_
    refine gg_3_0 (pc := 6) K hk.1 hk.2.1 kX3_18 dX3_hungWith_6 ?_
    refine gg_1_0 (pc := 9) K (by decide) kd_9 kX3_35 dX3_hungWith_9 ?_
    refine g_icmp_ge (pc := 12) K 37 dX3_hungWith_12 (by decide) ?_ ?_
    · exact g_wk (hkk x2 s) ⟨rfl, trivial⟩
    · refine g_aload_n (pc := 15) K 0 dX3_hungWith_15 rfl rfl ?_
      refine gg_3_4 (pc := 16) K hk.1 hk.2.1 kX3_15 dX3_hungWith_16 (k + 2) rfl ?_
      refine g_iload_n (pc := 19) K 3 dX3_hungWith_19 rfl rfl ?_
      refine g_iaload (pc := 20) K hk.2.2.2.1 hk.2.2.2.2.1 hk.2.2.2.2.2 dX3_hungWith_20 (fun v1 => ?_)
      refine g_iload_n (pc := 21) K 1 dX3_hungWith_21 rfl rfl ?_
      refine g_jn (κ := Int32 → St → Option (Int32 × St)) (fun kj2 => ∀ (v3 : Int32) (s4 : St), G X 31 [.ref (X.B + k), .int x1, .int v3, .int x3] [] s4 (kj2 v3 s4)) (fun v3 s4 => ?_) (fun kj2 hkj2 => ?_)
      · refine g_iinc (pc := 31) K (1) dX3_hungWith_31 rfl (by decide) (by decide) ?_
        change G X 34 [.ref (X.B + k), .int x1, .int v3, .int (x3 + (1))] [] s4 _
        refine g_goto (pc := 34) K 4 dX3_hungWith_34 (by decide) ?_
        exact g_wk (ih v3 (x3 + (1)) s4) ⟨rfl, ⟨rfl, ⟨rfl, ⟨rfl, trivial⟩⟩⟩⟩
      · refine g_icmp_ne (pc := 22) K 31 dX3_hungWith_22 (by decide) ?_ ?_
        · exact g_wk (hkj2 x2 s) ⟨rfl, ⟨rfl, ⟨rfl, ⟨rfl, trivial⟩⟩⟩⟩
        · refine g_iload_n (pc := 25) K 2 dX3_hungWith_25 rfl rfl ?_
          refine g_iconst (pc := 26) K (1) dX3_hungWith_26 (by decide) ?_
          refine g_iload_n (pc := 27) K 3 dX3_hungWith_27 rfl rfl ?_
          refine g_ishl (pc := 28) K dX3_hungWith_28 ?_
          refine g_ior (pc := 29) K dX3_hungWith_29 ?_
          refine g_istore_n (pc := 30) K 2 dX3_hungWith_30 rfl (by decide) ?_
          change G X 31 [.ref (X.B + k), .int x1, .int (x2 ||| ((1) <<< (x3 &&& 31))), .int x3] [] s _
          exact g_wk (hkj2 (x2 ||| ((1) <<< (x3 &&& 31))) s) ⟨rfl, ⟨rfl, ⟨rfl, ⟨rfl, trivial⟩⟩⟩⟩
set_option maxRecDepth 20000 in
set_option maxHeartbeats 4000000 in
theorem tX3_hungWith {X : Cx} (K : Ok X cX3_hungWith RX3 4 1) (hR : RI X cX3_hungWith) (k : Nat) (hk : Scn k) (a1 : Int32) (s : St) : G X 0 [.ref (X.B + k), .int a1, .null, .null] [] s (M_X3_hungWith k a1 s) := by
  unfold M_X3_hungWith
  refine g_iconst (pc := 0) K (0) dX3_hungWith_0 (by decide) ?_
  refine g_istore_n (pc := 1) K 2 dX3_hungWith_1 rfl (by decide) ?_
  change G X 2 [.ref (X.B + k), .int a1, .int (0), .null] [] s _
  refine g_iconst (pc := 2) K (0) dX3_hungWith_2 (by decide) ?_
  refine g_istore_n (pc := 3) K 3 dX3_hungWith_3 rfl (by decide) ?_
  change G X 4 [.ref (X.B + k), .int a1, .int (0), .int (0)] [] s _
  refine g_weak (L' := [.ref (X.B + k), .int a1, .int (0), .int (0)]) ⟨rfl, ⟨rfl, ⟨rfl, ⟨rfl, trivial⟩⟩⟩⟩ ?_
  refine tM_X3_hungWith_L4 K hR k hk a1 _ (fun v5 s6 => ?_) 400 (0) (0) s
  refine g_iload_n (pc := 37) K 2 dX3_hungWith_37 rfl rfl ?_
  exact g_ir (pc := 38) hR dX3_hungWith_38
theorem qX3_hungWith (E : Ce) (k : Nat) (hk : Scn k) (a1 : Int32) : Con E yX3_hungWith cX3_hungWith 4 (some .int) 1 [.ref (E.B + k), .int a1] (M_X3_hungWith k a1) :=
  Con.of (by decide) (List.forall_mem_cons.mpr ⟨rfl, List.forall_mem_cons.mpr ⟨rfl, fun _ h => absurd h List.not_mem_nil⟩⟩) (Nat.le_of_ble_eq_true rfl) (Or.inr (Or.inl rfl)) [.ref (E.B + k), .int a1, .null, .null] ⟨rfl, ⟨rfl, trivial⟩⟩ (fun X s hE hok hI hZ hV => by subst hE; exact tX3_hungWith hok (hI rfl) k hk a1 s)
theorem hyX3_ringOf : yX3_ringOf.cls ≠ "java/lang/invoke/MethodHandle" ∧ yX3_ringOf.cls ≠ "java/lang/invoke/VarHandle" ∧ (parseMethodDescriptor yX3_ringOf.desc).map (fun d => d.parameters.length) = some 1 := by decide +kernel
set_option maxRecDepth 20000 in
set_option maxHeartbeats 4000000 in
theorem tM_X3_ringOf_L9 {X : Cx} (K : Ok X cX3_ringOf RX3 4 2) (hR : RI X cX3_ringOf) (k : Nat) (hk : Scn k) (x1 : Int32) (kk : St → Option (Int32 × St)) (hkk : ∀ (s : St), G X 51 [.null, .null, .null, .null] [] s (kk s)) : ∀ (fu : Nat) (x2 x3 : Int32) (s : St), G X 9 [.ref (X.B + k), .int x1, .int x2, .int x3] [] s (M_X3_ringOf_L9 k x1 kk fu x2 x3 s) := by
  intro fu
  induction fu with
  | zero => intro x2 x3 s; exact g_none
  | succ fu ih =>
    intro x2 x3 s
    rw [M_X3_ringOf_L9]
    refine g_iload_n (pc := 9) K 3 dX3_ringOf_9 rfl rfl ?_
    refine g_aload_n (pc := 10) K 0 dX3_ringOf_10 rfl rfl ?_
    refine gg_3_0 (pc := 11) K hk.1 hk.2.1 kX3_18 dX3_ringOf_11 ?_
    refine gg_1_0 (pc := 14) K (by decide) kd_9 kX3_35 dX3_ringOf_14 ?_
    refine g_icmp_gt (pc := 17) K 51 dX3_ringOf_17 (by decide) ?_ ?_
    · exact g_wk (hkk  s) trivial
    · refine g_aload_n (pc := 20) K 0 dX3_ringOf_20 rfl rfl ?_
      refine gg_3_0 (pc := 21) K hk.1 hk.2.1 kX3_18 dX3_ringOf_21 ?_
      refine g_iload_n (pc := 24) K 2 dX3_ringOf_24 rfl rfl ?_
      refine g_callVN (pc := 25) (S := []) K (qX1_has X.E 9 frm_9 x2) (by decide) (ci := 1) rfl (fun _ => ⟨_, ce_1 kd_9⟩) (by decide) (by decide) wcX1_has wiX1 kX3_38 wmX1_has weX1_has hyX1_has rfl rfl (Nat.le_of_ble_eq_true rfl) dX3_ringOf_25 (fun r2 s3 => ?_)
      change G X 28 [.ref (X.B + k), .int x1, .int x2, .int x3] [.int r2] s3 _
      refine g_if_eq (pc := 28) K 51 dX3_ringOf_28 (by decide) ?_ ?_
      · exact g_wk (hkk  s3) trivial
      · refine g_iload_n (pc := 31) K 2 dX3_ringOf_31 rfl rfl ?_
        refine g_iload_n (pc := 32) K 1 dX3_ringOf_32 rfl rfl ?_
        refine g_icmp_ne (pc := 33) K 38 dX3_ringOf_33 (by decide) ?_ ?_
        · refine g_aload_n (pc := 38) K 0 dX3_ringOf_38 rfl rfl ?_
          refine gg_3_4 (pc := 39) K hk.1 hk.2.1 kX3_15 dX3_ringOf_39 (k + 2) rfl ?_
          refine g_iload_n (pc := 42) K 2 dX3_ringOf_42 rfl rfl ?_
          refine g_iaload (pc := 43) K hk.2.2.2.1 hk.2.2.2.2.1 hk.2.2.2.2.2 dX3_ringOf_43 (fun v4 => ?_)
          refine g_istore_n (pc := 44) K 2 dX3_ringOf_44 rfl (by decide) ?_
          change G X 45 [.ref (X.B + k), .int x1, .int v4, .int x3] [] s3 _
          refine g_iinc (pc := 45) K (1) dX3_ringOf_45 rfl (by decide) (by decide) ?_
          change G X 48 [.ref (X.B + k), .int x1, .int v4, .int (x3 + (1))] [] s3 _
          refine g_goto (pc := 48) K 9 dX3_ringOf_48 (by decide) ?_
          exact g_wk (ih v4 (x3 + (1)) s3) ⟨rfl, ⟨rfl, ⟨rfl, ⟨rfl, trivial⟩⟩⟩⟩
        · refine g_iload_n (pc := 36) K 3 dX3_ringOf_36 rfl rfl ?_
          exact g_ir (pc := 37) hR dX3_ringOf_37
set_option maxRecDepth 20000 in
set_option maxHeartbeats 4000000 in
theorem tX3_ringOf {X : Cx} (K : Ok X cX3_ringOf RX3 4 2) (hR : RI X cX3_ringOf) (k : Nat) (hk : Scn k) (a1 : Int32) (s : St) : G X 0 [.ref (X.B + k), .int a1, .null, .null] [] s (M_X3_ringOf k a1 s) := by
  unfold M_X3_ringOf
  refine g_aload_n (pc := 0) K 0 dX3_ringOf_0 rfl rfl ?_
  refine gg_3_4 (pc := 1) K hk.1 hk.2.1 kX3_15 dX3_ringOf_1 (k + 2) rfl ?_
  refine g_iload_n (pc := 4) K 1 dX3_ringOf_4 rfl rfl ?_
  refine g_iaload (pc := 5) K hk.2.2.2.1 hk.2.2.2.2.1 hk.2.2.2.2.2 dX3_ringOf_5 (fun v1 => ?_)
  refine g_istore_n (pc := 6) K 2 dX3_ringOf_6 rfl (by decide) ?_
  change G X 7 [.ref (X.B + k), .int a1, .int v1, .null] [] s _
  refine g_iconst (pc := 7) K (1) dX3_ringOf_7 (by decide) ?_
  refine g_istore_n (pc := 8) K 3 dX3_ringOf_8 rfl (by decide) ?_
  change G X 9 [.ref (X.B + k), .int a1, .int v1, .int (1)] [] s _
  refine g_weak (L' := [.ref (X.B + k), .int a1, .int v1, .int (1)]) ⟨rfl, ⟨rfl, ⟨rfl, ⟨rfl, trivial⟩⟩⟩⟩ ?_
  refine tM_X3_ringOf_L9 K hR k hk a1 _ (fun s5 => ?_) 400 v1 (1) s
  refine g_iconst (pc := 51) K (0) dX3_ringOf_51 (by decide) ?_
  exact g_ir (pc := 52) hR dX3_ringOf_52
theorem qX3_ringOf (E : Ce) (k : Nat) (hk : Scn k) (a1 : Int32) : Con E yX3_ringOf cX3_ringOf 4 (some .int) 2 [.ref (E.B + k), .int a1] (M_X3_ringOf k a1) :=
  Con.of (by decide) (List.forall_mem_cons.mpr ⟨rfl, List.forall_mem_cons.mpr ⟨rfl, fun _ h => absurd h List.not_mem_nil⟩⟩) (Nat.le_of_ble_eq_true rfl) (Or.inr (Or.inl rfl)) [.ref (E.B + k), .int a1, .null, .null] ⟨rfl, ⟨rfl, trivial⟩⟩ (fun X s hE hok hI hZ hV => by subst hE; exact tX3_ringOf hok (hI rfl) k hk a1 s)
theorem hyX3_leftTogether : yX3_leftTogether.cls ≠ "java/lang/invoke/MethodHandle" ∧ yX3_leftTogether.cls ≠ "java/lang/invoke/VarHandle" ∧ (parseMethodDescriptor yX3_leftTogether.desc).map (fun d => d.parameters.length) = some 0 := by decide +kernel
set_option maxRecDepth 20000 in
set_option maxHeartbeats 4000000 in
theorem tM_X3_leftTogether_L4 {X : Cx} (K : Ok X cX3_leftTogether RX3 3 1) (hR : RI X cX3_leftTogether) (k : Nat) (hk : Scn k) (kk : Int32 → St → Option (Int32 × St)) (hkk : ∀ (x1 : Int32) (s : St), G X 30 [.null, .int x1, .null] [] s (kk x1 s)) : ∀ (fu : Nat) (x1 x2 : Int32) (s : St), G X 4 [.ref (X.B + k), .int x1, .int x2] [] s (M_X3_leftTogether_L4 k kk fu x1 x2 s) := by
  intro fu
  induction fu with
  | zero => intro x1 x2 s; exact g_none
  | succ fu ih =>
    intro x1 x2 s
    rw [M_X3_leftTogether_L4]
    refine g_iload_n (pc := 4) K 2 dX3_leftTogether_4 rfl rfl ?_
    refine g_aload_n (pc := 5) K 0 dX3_leftTogether_5 rfl rfl ?_
    refine gg_3_0 (pc := 6) K hk.1 hk.2.1 kX3_18 dX3_leftTogether_6 ?_
    refine gg_1_0 (pc := 9) K (by decide) kd_9 kX3_35 dX3_leftTogether_9 ?_
    refine g_icmp_ge (pc := 12) K 30 dX3_leftTogether_12 (by decide) ?_ ?_
    · exact g_wk (hkk x1 s) ⟨rfl, trivial⟩
    · refine g_iload_n (pc := 15) K 1 dX3_leftTogether_15 rfl rfl ?_
      refine g_aload_n (pc := 16) K 0 dX3_leftTogether_16 rfl rfl ?_
      refine gg_3_3 (pc := 17) K hk.1 hk.2.1 kX3_9 dX3_leftTogether_17 (k + 1) rfl ?_
      refine g_iload_n (pc := 20) K 2 dX3_leftTogether_20 rfl rfl ?_
      refine g_iaload (pc := 21) K hk.2.2.1.1 hk.2.2.1.2.1 hk.2.2.1.2.2 dX3_leftTogether_21 (fun v1 => ?_)
      refine g_iadd (pc := 22) K dX3_leftTogether_22 ?_
      refine g_istore_n (pc := 23) K 1 dX3_leftTogether_23 rfl (by decide) ?_
      change G X 24 [.ref (X.B + k), .int (x1 + v1), .int x2] [] s _
      refine g_iinc (pc := 24) K (1) dX3_leftTogether_24 rfl (by decide) (by decide) ?_
      change G X 27 [.ref (X.B + k), .int (x1 + v1), .int (x2 + (1))] [] s _
      refine g_goto (pc := 27) K 4 dX3_leftTogether_27 (by decide) ?_
      exact g_wk (ih (x1 + v1) (x2 + (1)) s) ⟨rfl, ⟨rfl, ⟨rfl, trivial⟩⟩⟩
set_option maxRecDepth 20000 in
set_option maxHeartbeats 4000000 in
theorem tX3_leftTogether {X : Cx} (K : Ok X cX3_leftTogether RX3 3 1) (hR : RI X cX3_leftTogether) (k : Nat) (hk : Scn k) (s : St) : G X 0 [.ref (X.B + k), .null, .null] [] s (M_X3_leftTogether k s) := by
  unfold M_X3_leftTogether
  refine g_iconst (pc := 0) K (0) dX3_leftTogether_0 (by decide) ?_
  refine g_istore_n (pc := 1) K 1 dX3_leftTogether_1 rfl (by decide) ?_
  change G X 2 [.ref (X.B + k), .int (0), .null] [] s _
  refine g_iconst (pc := 2) K (0) dX3_leftTogether_2 (by decide) ?_
  refine g_istore_n (pc := 3) K 2 dX3_leftTogether_3 rfl (by decide) ?_
  change G X 4 [.ref (X.B + k), .int (0), .int (0)] [] s _
  refine g_weak (L' := [.ref (X.B + k), .int (0), .int (0)]) ⟨rfl, ⟨rfl, ⟨rfl, trivial⟩⟩⟩ ?_
  refine tM_X3_leftTogether_L4 K hR k hk _ (fun v2 s3 => ?_) 400 (0) (0) s
  refine g_iload_n (pc := 30) K 1 dX3_leftTogether_30 rfl rfl ?_
  exact g_ir (pc := 31) hR dX3_leftTogether_31
theorem qX3_leftTogether (E : Ce) (k : Nat) (hk : Scn k) : Con E yX3_leftTogether cX3_leftTogether 3 (some .int) 1 [.ref (E.B + k)] (M_X3_leftTogether k) :=
  Con.of (by decide) (List.forall_mem_cons.mpr ⟨rfl, fun _ h => absurd h List.not_mem_nil⟩) (Nat.le_of_ble_eq_true rfl) (Or.inr (Or.inl rfl)) [.ref (E.B + k), .null, .null] ⟨rfl, trivial⟩ (fun X s hE hok hI hZ hV => by subst hE; exact tX3_leftTogether hok (hI rfl) k hk s)
theorem hyX3_allMown : yX3_allMown.cls ≠ "java/lang/invoke/MethodHandle" ∧ yX3_allMown.cls ≠ "java/lang/invoke/VarHandle" ∧ (parseMethodDescriptor yX3_allMown.desc).map (fun d => d.parameters.length) = some 1 := by decide +kernel
set_option maxRecDepth 20000 in
set_option maxHeartbeats 4000000 in
theorem tM_X3_allMown_L2 {X : Cx} (K : Ok X cX3_allMown RX3 3 1) (hR : RZ X cX3_allMown) (k : Nat) (hk : Scn k) (x1 : Int32) (kk : St → Option (Int32 × St)) (hkk : ∀ (s : St), G X 39 [.null, .null, .null] [] s (kk s)) : ∀ (fu : Nat) (x2 : Int32) (s : St), G X 2 [.ref (X.B + k), .int x1, .int x2] [] s (M_X3_allMown_L2 k x1 kk fu x2 s) := by
  intro fu
  induction fu with
  | zero => intro x2 s; exact g_none
  | succ fu ih =>
    intro x2 s
    rw [M_X3_allMown_L2]
    refine g_iload_n (pc := 2) K 2 dX3_allMown_2 rfl rfl ?_
    refine g_aload_n (pc := 3) K 0 dX3_allMown_3 rfl rfl ?_
    refine gg_3_0 (pc := 4) K hk.1 hk.2.1 kX3_18 dX3_allMown_4 ?_
    refine gg_1_0 (pc := 7) K (by decide) kd_9 kX3_35 dX3_allMown_7 ?_
    refine g_icmp_ge (pc := 10) K 39 dX3_allMown_10 (by decide) ?_ ?_
    · exact g_wk (hkk  s) trivial
    · refine g_iload_n (pc := 13) K 1 dX3_allMown_13 rfl rfl ?_
      refine g_iload_n (pc := 14) K 2 dX3_allMown_14 rfl rfl ?_
      refine g_ishr (pc := 15) K dX3_allMown_15 ?_
      refine g_iconst (pc := 16) K (1) dX3_allMown_16 (by decide) ?_
      refine g_iand (pc := 17) K dX3_allMown_17 ?_
      refine g_iconst (pc := 18) K (1) dX3_allMown_18 (by decide) ?_
      refine g_jn (κ := St → Option (Int32 × St)) (fun kj1 => ∀ (s2 : St), G X 33 [.ref (X.B + k), .int x1, .int x2] [] s2 (kj1 s2)) (fun s2 => ?_) (fun kj1 hkj1 => ?_)
      · refine g_iinc (pc := 33) K (1) dX3_allMown_33 rfl (by decide) (by decide) ?_
        change G X 36 [.ref (X.B + k), .int x1, .int (x2 + (1))] [] s2 _
        refine g_goto (pc := 36) K 2 dX3_allMown_36 (by decide) ?_
        exact g_wk (ih (x2 + (1)) s2) ⟨rfl, ⟨rfl, ⟨rfl, trivial⟩⟩⟩
      · refine g_icmp_ne (pc := 19) K 33 dX3_allMown_19 (by decide) ?_ ?_
        · exact g_wk (hkj1  s) ⟨rfl, ⟨rfl, ⟨rfl, trivial⟩⟩⟩
        · refine g_aload_n (pc := 22) K 0 dX3_allMown_22 rfl rfl ?_
          refine gg_3_3 (pc := 23) K hk.1 hk.2.1 kX3_9 dX3_allMown_23 (k + 1) rfl ?_
          refine g_iload_n (pc := 26) K 2 dX3_allMown_26 rfl rfl ?_
          refine g_iaload (pc := 27) K hk.2.2.1.1 hk.2.2.1.2.1 hk.2.2.1.2.2 dX3_allMown_27 (fun v3 => ?_)
          refine g_if_le (pc := 28) K 33 dX3_allMown_28 (by decide) ?_ ?_
          · exact g_wk (hkj1  s) ⟨rfl, ⟨rfl, ⟨rfl, trivial⟩⟩⟩
          · refine g_iconst (pc := 31) K (0) dX3_allMown_31 (by decide) ?_
            exact g_zr0 (pc := 32) hR dX3_allMown_32
set_option maxRecDepth 20000 in
set_option maxHeartbeats 4000000 in
theorem tX3_allMown {X : Cx} (K : Ok X cX3_allMown RX3 3 1) (hR : RZ X cX3_allMown) (k : Nat) (hk : Scn k) (a1 : Int32) (s : St) : G X 0 [.ref (X.B + k), .int a1, .null] [] s (M_X3_allMown k a1 s) := by
  unfold M_X3_allMown
  refine g_iconst (pc := 0) K (0) dX3_allMown_0 (by decide) ?_
  refine g_istore_n (pc := 1) K 2 dX3_allMown_1 rfl (by decide) ?_
  change G X 2 [.ref (X.B + k), .int a1, .int (0)] [] s _
  refine g_weak (L' := [.ref (X.B + k), .int a1, .int (0)]) ⟨rfl, ⟨rfl, ⟨rfl, trivial⟩⟩⟩ ?_
  refine tM_X3_allMown_L2 K hR k hk a1 _ (fun s4 => ?_) 400 (0) s
  refine g_iconst (pc := 39) K (1) dX3_allMown_39 (by decide) ?_
  exact g_zr1 (pc := 40) hR dX3_allMown_40
theorem qX3_allMown (E : Ce) (k : Nat) (hk : Scn k) (a1 : Int32) : Con E yX3_allMown cX3_allMown 3 (some .boolean) 1 [.ref (E.B + k), .int a1] (M_X3_allMown k a1) :=
  Con.of (by decide) (List.forall_mem_cons.mpr ⟨rfl, List.forall_mem_cons.mpr ⟨rfl, fun _ h => absurd h List.not_mem_nil⟩⟩) (Nat.le_of_ble_eq_true rfl) (Or.inr (Or.inr rfl)) [.ref (E.B + k), .int a1, .null] ⟨rfl, ⟨rfl, trivial⟩⟩ (fun X s hE hok hI hZ hV => by subst hE; exact tX3_allMown hok (hZ rfl) k hk a1 s)
theorem hyX3_mowsForAnother : yX3_mowsForAnother.cls ≠ "java/lang/invoke/MethodHandle" ∧ yX3_mowsForAnother.cls ≠ "java/lang/invoke/VarHandle" ∧ (parseMethodDescriptor yX3_mowsForAnother.desc).map (fun d => d.parameters.length) = some 1 := by decide +kernel
set_option maxRecDepth 20000 in
set_option maxHeartbeats 4000000 in
theorem tM_X3_mowsForAnother_L2 {X : Cx} (K : Ok X cX3_mowsForAnother RX3 3 2) (hR : RZ X cX3_mowsForAnother) (k : Nat) (hk : Scn k) (x1 : Int32) (kk : St → Option (Int32 × St)) (hkk : ∀ (s : St), G X 58 [.null, .null, .null] [] s (kk s)) : ∀ (fu : Nat) (x2 : Int32) (s : St), G X 2 [.ref (X.B + k), .int x1, .int x2] [] s (M_X3_mowsForAnother_L2 k x1 kk fu x2 s) := by
  intro fu
  induction fu with
  | zero => intro x2 s; exact g_none
  | succ fu ih =>
    intro x2 s
    rw [M_X3_mowsForAnother_L2]
    refine g_iload_n (pc := 2) K 2 dX3_mowsForAnother_2 rfl rfl ?_
    refine g_aload_n (pc := 3) K 0 dX3_mowsForAnother_3 rfl rfl ?_
    refine gg_3_0 (pc := 4) K hk.1 hk.2.1 kX3_18 dX3_mowsForAnother_4 ?_
    refine gg_1_0 (pc := 7) K (by decide) kd_9 kX3_35 dX3_mowsForAnother_7 ?_
    refine g_icmp_ge (pc := 10) K 58 dX3_mowsForAnother_10 (by decide) ?_ ?_
    · exact g_wk (hkk  s) trivial
    · refine g_aload_n (pc := 13) K 0 dX3_mowsForAnother_13 rfl rfl ?_
      refine gg_3_4 (pc := 14) K hk.1 hk.2.1 kX3_15 dX3_mowsForAnother_14 (k + 2) rfl ?_
      refine g_iload_n (pc := 17) K 2 dX3_mowsForAnother_17 rfl rfl ?_
      refine g_iaload (pc := 18) K hk.2.2.2.1 hk.2.2.2.2.1 hk.2.2.2.2.2 dX3_mowsForAnother_18 (fun v1 => ?_)
      refine g_iload_n (pc := 19) K 1 dX3_mowsForAnother_19 rfl rfl ?_
      refine g_jn (κ := St → Option (Int32 × St)) (fun kj2 => ∀ (s3 : St), G X 52 [.ref (X.B + k), .int x1, .int x2] [] s3 (kj2 s3)) (fun s3 => ?_) (fun kj2 hkj2 => ?_)
      · refine g_iinc (pc := 52) K (1) dX3_mowsForAnother_52 rfl (by decide) (by decide) ?_
        change G X 55 [.ref (X.B + k), .int x1, .int (x2 + (1))] [] s3 _
        refine g_goto (pc := 55) K 2 dX3_mowsForAnother_55 (by decide) ?_
        exact g_wk (ih (x2 + (1)) s3) ⟨rfl, ⟨rfl, ⟨rfl, trivial⟩⟩⟩
      · refine g_icmp_ne (pc := 20) K 52 dX3_mowsForAnother_20 (by decide) ?_ ?_
        · exact g_wk (hkj2  s) ⟨rfl, ⟨rfl, ⟨rfl, trivial⟩⟩⟩
        · refine g_aload_n (pc := 23) K 0 dX3_mowsForAnother_23 rfl rfl ?_
          refine g_iload_n (pc := 24) K 2 dX3_mowsForAnother_24 rfl rfl ?_
          refine g_callV (pc := 25) (S := []) K (qX3_hasAsked X.E k hk x2) hk.1 (ci := 3) rfl (fun _ => ⟨_, ce_3 hk.2.1⟩) (by decide) (by decide) wcX3_hasAsked wiX3 kX3_50 wmX3_hasAsked weX3_hasAsked hyX3_hasAsked rfl rfl (Nat.le_of_ble_eq_true rfl) dX3_mowsForAnother_25 (fun r4 s5 => ?_)
          change G X 28 [.ref (X.B + k), .int x1, .int x2] [.int r4] s5 _
          refine g_if_eq (pc := 28) K 52 dX3_mowsForAnother_28 (by decide) ?_ ?_
          · exact g_wk (hkj2  s5) ⟨rfl, ⟨rfl, ⟨rfl, trivial⟩⟩⟩
          · refine g_aload_n (pc := 31) K 0 dX3_mowsForAnother_31 rfl rfl ?_
            refine gg_3_3 (pc := 32) K hk.1 hk.2.1 kX3_9 dX3_mowsForAnother_32 (k + 1) rfl ?_
            refine g_iload_n (pc := 35) K 2 dX3_mowsForAnother_35 rfl rfl ?_
            refine g_iaload (pc := 36) K hk.2.2.1.1 hk.2.2.1.2.1 hk.2.2.1.2.2 dX3_mowsForAnother_36 (fun v6 => ?_)
            refine g_if_le (pc := 37) K 52 dX3_mowsForAnother_37 (by decide) ?_ ?_
            · exact g_wk (hkj2  s5) ⟨rfl, ⟨rfl, ⟨rfl, trivial⟩⟩⟩
            · refine g_aload_n (pc := 40) K 0 dX3_mowsForAnother_40 rfl rfl ?_
              refine gg_3_3 (pc := 41) K hk.1 hk.2.1 kX3_9 dX3_mowsForAnother_41 (k + 1) rfl ?_
              refine g_iload_n (pc := 44) K 2 dX3_mowsForAnother_44 rfl rfl ?_
              refine g_dup2 (pc := 45) K dX3_mowsForAnother_45 rfl rfl ?_
              refine g_iaload (pc := 46) K hk.2.2.1.1 hk.2.2.1.2.1 hk.2.2.1.2.2 dX3_mowsForAnother_46 (fun v7 => ?_)
              refine g_iconst (pc := 47) K (1) dX3_mowsForAnother_47 (by decide) ?_
              refine g_isub (pc := 48) K dX3_mowsForAnother_48 ?_
              refine g_iastore (pc := 49) K hk.2.2.1.1 hk.2.2.1.2.1 hk.2.2.1.2.2 dX3_mowsForAnother_49 (fun s8 => ?_)
              refine g_iconst (pc := 50) K (1) dX3_mowsForAnother_50 (by decide) ?_
              exact g_zr1 (pc := 51) hR dX3_mowsForAnother_51
set_option maxRecDepth 20000 in
set_option maxHeartbeats 4000000 in
theorem tX3_mowsForAnother {X : Cx} (K : Ok X cX3_mowsForAnother RX3 3 2) (hR : RZ X cX3_mowsForAnother) (k : Nat) (hk : Scn k) (a1 : Int32) (s : St) : G X 0 [.ref (X.B + k), .int a1, .null] [] s (M_X3_mowsForAnother k a1 s) := by
  unfold M_X3_mowsForAnother
  refine g_iconst (pc := 0) K (0) dX3_mowsForAnother_0 (by decide) ?_
  refine g_istore_n (pc := 1) K 2 dX3_mowsForAnother_1 rfl (by decide) ?_
  change G X 2 [.ref (X.B + k), .int a1, .int (0)] [] s _
  refine g_weak (L' := [.ref (X.B + k), .int a1, .int (0)]) ⟨rfl, ⟨rfl, ⟨rfl, trivial⟩⟩⟩ ?_
  refine tM_X3_mowsForAnother_L2 K hR k hk a1 _ (fun s9 => ?_) 400 (0) s
  refine g_iconst (pc := 58) K (0) dX3_mowsForAnother_58 (by decide) ?_
  exact g_zr0 (pc := 59) hR dX3_mowsForAnother_59
theorem qX3_mowsForAnother (E : Ce) (k : Nat) (hk : Scn k) (a1 : Int32) : Con E yX3_mowsForAnother cX3_mowsForAnother 3 (some .boolean) 2 [.ref (E.B + k), .int a1] (M_X3_mowsForAnother k a1) :=
  Con.of (by decide) (List.forall_mem_cons.mpr ⟨rfl, List.forall_mem_cons.mpr ⟨rfl, fun _ h => absurd h List.not_mem_nil⟩⟩) (Nat.le_of_ble_eq_true rfl) (Or.inr (Or.inr rfl)) [.ref (E.B + k), .int a1, .null] ⟨rfl, ⟨rfl, trivial⟩⟩ (fun X s hE hok hI hZ hV => by subst hE; exact tX3_mowsForAnother hok (hZ rfl) k hk a1 s)
theorem hyX3_mowAll : yX3_mowAll.cls ≠ "java/lang/invoke/MethodHandle" ∧ yX3_mowAll.cls ≠ "java/lang/invoke/VarHandle" ∧ (parseMethodDescriptor yX3_mowAll.desc).map (fun d => d.parameters.length) = some 0 := by decide +kernel
set_option maxRecDepth 20000 in
set_option maxHeartbeats 4000000 in
theorem tM_X3_mowAll_L6 {X : Cx} (K : Ok X cX3_mowAll RX3 4 3) (hR : RI X cX3_mowAll) (k : Nat) (hk : Scn k) (kk : Int32 → Int32 → St → Option (Int32 × St)) (hkk : ∀ (x1 x2 : Int32) (s : St), G X 62 [.ref (X.B + k), .int x1, .int x2, .null] [] s (kk x1 x2 s)) : ∀ (fu : Nat) (x1 x2 x3 : Int32) (s : St), G X 6 [.ref (X.B + k), .int x1, .int x2, .int x3] [] s (M_X3_mowAll_L6 k kk fu x1 x2 x3 s) := by
  intro fu
  induction fu with
  | zero => intro x1 x2 x3 s; exact g_none
  | succ fu ih =>
    intro x1 x2 x3 s
    rw [M_X3_mowAll_L6]
    refine g_iload_n (pc := 6) K 3 dX3_mowAll_6 rfl rfl ?_
    refine g_aload_n (pc := 7) K 0 dX3_mowAll_7 rfl rfl ?_
    refine gg_3_0 (pc := 8) K hk.1 hk.2.1 kX3_18 dX3_mowAll_8 ?_
    refine gg_1_0 (pc := 11) K (by decide) kd_9 kX3_35 dX3_mowAll_11 ?_
    refine g_icmp_ge (pc := 14) K 62 dX3_mowAll_14 (by decide) ?_ ?_
    · exact g_wk (hkk x1 x2 s) ⟨rfl, ⟨rfl, ⟨rfl, trivial⟩⟩⟩
    · refine g_aload_n (pc := 17) K 0 dX3_mowAll_17 rfl rfl ?_
      refine g_iload_n (pc := 18) K 3 dX3_mowAll_18 rfl rfl ?_
      refine g_callV (pc := 19) (S := []) K (qX3_hasAsked X.E k hk x3) hk.1 (ci := 3) rfl (fun _ => ⟨_, ce_3 hk.2.1⟩) (by decide) (by decide) wcX3_hasAsked wiX3 kX3_50 wmX3_hasAsked weX3_hasAsked hyX3_hasAsked rfl rfl (Nat.le_of_ble_eq_true rfl) dX3_mowAll_19 (fun r1 s2 => ?_)
      change G X 22 [.ref (X.B + k), .int x1, .int x2, .int x3] [.int r1] s2 _
      refine g_jn (κ := Int32 → Int32 → St → Option (Int32 × St)) (fun kj3 => ∀ (v4 v5 : Int32) (s6 : St), G X 56 [.ref (X.B + k), .int v4, .int v5, .int x3] [] s6 (kj3 v4 v5 s6)) (fun v4 v5 s6 => ?_) (fun kj3 hkj3 => ?_)
      · refine g_iinc (pc := 56) K (1) dX3_mowAll_56 rfl (by decide) (by decide) ?_
        change G X 59 [.ref (X.B + k), .int v4, .int v5, .int (x3 + (1))] [] s6 _
        refine g_goto (pc := 59) K 6 dX3_mowAll_59 (by decide) ?_
        exact g_wk (ih v4 v5 (x3 + (1)) s6) ⟨rfl, ⟨rfl, ⟨rfl, ⟨rfl, trivial⟩⟩⟩⟩
      · refine g_if_eq (pc := 22) K 56 dX3_mowAll_22 (by decide) ?_ ?_
        · exact g_wk (hkj3 x1 x2 s2) ⟨rfl, ⟨rfl, ⟨rfl, ⟨rfl, trivial⟩⟩⟩⟩
        · refine g_aload_n (pc := 25) K 0 dX3_mowAll_25 rfl rfl ?_
          refine gg_3_3 (pc := 26) K hk.1 hk.2.1 kX3_9 dX3_mowAll_26 (k + 1) rfl ?_
          refine g_iload_n (pc := 29) K 3 dX3_mowAll_29 rfl rfl ?_
          refine g_iaload (pc := 30) K hk.2.2.1.1 hk.2.2.1.2.1 hk.2.2.1.2.2 dX3_mowAll_30 (fun v7 => ?_)
          refine g_if_le (pc := 31) K 50 dX3_mowAll_31 (by decide) ?_ ?_
          · refine g_iload_n (pc := 50) K 1 dX3_mowAll_50 rfl rfl ?_
            refine g_iconst (pc := 51) K (1) dX3_mowAll_51 (by decide) ?_
            refine g_iload_n (pc := 52) K 3 dX3_mowAll_52 rfl rfl ?_
            refine g_ishl (pc := 53) K dX3_mowAll_53 ?_
            refine g_ior (pc := 54) K dX3_mowAll_54 ?_
            refine g_istore_n (pc := 55) K 1 dX3_mowAll_55 rfl (by decide) ?_
            change G X 56 [.ref (X.B + k), .int (x1 ||| ((1) <<< (x3 &&& 31))), .int x2, .int x3] [] s2 _
            exact g_wk (hkj3 (x1 ||| ((1) <<< (x3 &&& 31))) x2 s2) ⟨rfl, ⟨rfl, ⟨rfl, ⟨rfl, trivial⟩⟩⟩⟩
          · refine g_aload_n (pc := 34) K 0 dX3_mowAll_34 rfl rfl ?_
            refine gg_3_3 (pc := 35) K hk.1 hk.2.1 kX3_9 dX3_mowAll_35 (k + 1) rfl ?_
            refine g_iload_n (pc := 38) K 3 dX3_mowAll_38 rfl rfl ?_
            refine g_dup2 (pc := 39) K dX3_mowAll_39 rfl rfl ?_
            refine g_iaload (pc := 40) K hk.2.2.1.1 hk.2.2.1.2.1 hk.2.2.1.2.2 dX3_mowAll_40 (fun v8 => ?_)
            refine g_iconst (pc := 41) K (1) dX3_mowAll_41 (by decide) ?_
            refine g_isub (pc := 42) K dX3_mowAll_42 ?_
            refine g_iastore (pc := 43) K hk.2.2.1.1 hk.2.2.1.2.1 hk.2.2.1.2.2 dX3_mowAll_43 (fun s9 => ?_)
            refine g_iinc (pc := 44) K (1) dX3_mowAll_44 rfl (by decide) (by decide) ?_
            change G X 47 [.ref (X.B + k), .int x1, .int (x2 + (1)), .int x3] [] s9 _
            refine g_goto (pc := 47) K 56 dX3_mowAll_47 (by decide) ?_
            exact g_wk (hkj3 x1 (x2 + (1)) s9) ⟨rfl, ⟨rfl, ⟨rfl, ⟨rfl, trivial⟩⟩⟩⟩
set_option maxRecDepth 20000 in
set_option maxHeartbeats 4000000 in
theorem tM_X3_mowAll_L64 {X : Cx} (K : Ok X cX3_mowAll RX3 4 3) (hR : RI X cX3_mowAll) (k : Nat) (hk : Scn k) (x1 : Int32) (kk : Int32 → St → Option (Int32 × St)) (hkk : ∀ (x2 : Int32) (s : St), G X 101 [.null, .null, .int x2, .null] [] s (kk x2 s)) : ∀ (fu : Nat) (x2 x3 : Int32) (s : St), G X 64 [.ref (X.B + k), .int x1, .int x2, .int x3] [] s (M_X3_mowAll_L64 k x1 kk fu x2 x3 s) := by
  intro fu
  induction fu with
  | zero => intro x2 x3 s; exact g_none
  | succ fu ih =>
    intro x2 x3 s
    rw [M_X3_mowAll_L64]
    refine g_iload_n (pc := 64) K 3 dX3_mowAll_64 rfl rfl ?_
    refine g_aload_n (pc := 65) K 0 dX3_mowAll_65 rfl rfl ?_
    refine gg_3_0 (pc := 66) K hk.1 hk.2.1 kX3_18 dX3_mowAll_66 ?_
    refine gg_1_0 (pc := 69) K (by decide) kd_9 kX3_35 dX3_mowAll_69 ?_
    refine g_icmp_ge (pc := 72) K 101 dX3_mowAll_72 (by decide) ?_ ?_
    · exact g_wk (hkk x2 s) ⟨rfl, trivial⟩
    · refine g_iload_n (pc := 75) K 1 dX3_mowAll_75 rfl rfl ?_
      refine g_iload_n (pc := 76) K 3 dX3_mowAll_76 rfl rfl ?_
      refine g_ishr (pc := 77) K dX3_mowAll_77 ?_
      refine g_iconst (pc := 78) K (1) dX3_mowAll_78 (by decide) ?_
      refine g_iand (pc := 79) K dX3_mowAll_79 ?_
      refine g_iconst (pc := 80) K (1) dX3_mowAll_80 (by decide) ?_
      refine g_jn (κ := Int32 → St → Option (Int32 × St)) (fun kj13 => ∀ (v14 : Int32) (s15 : St), G X 95 [.ref (X.B + k), .int x1, .int v14, .int x3] [] s15 (kj13 v14 s15)) (fun v14 s15 => ?_) (fun kj13 hkj13 => ?_)
      · refine g_iinc (pc := 95) K (1) dX3_mowAll_95 rfl (by decide) (by decide) ?_
        change G X 98 [.ref (X.B + k), .int x1, .int v14, .int (x3 + (1))] [] s15 _
        refine g_goto (pc := 98) K 64 dX3_mowAll_98 (by decide) ?_
        exact g_wk (ih v14 (x3 + (1)) s15) ⟨rfl, ⟨rfl, ⟨rfl, ⟨rfl, trivial⟩⟩⟩⟩
      · refine g_icmp_ne (pc := 81) K 95 dX3_mowAll_81 (by decide) ?_ ?_
        · exact g_wk (hkj13 x2 s) ⟨rfl, ⟨rfl, ⟨rfl, ⟨rfl, trivial⟩⟩⟩⟩
        · refine g_aload_n (pc := 84) K 0 dX3_mowAll_84 rfl rfl ?_
          refine g_iload_n (pc := 85) K 3 dX3_mowAll_85 rfl rfl ?_
          refine g_callV (pc := 86) (S := []) K (qX3_mowsForAnother X.E k hk x3) hk.1 (ci := 3) rfl (fun _ => ⟨_, ce_3 hk.2.1⟩) (by decide) (by decide) wcX3_mowsForAnother wiX3 kX3_53 wmX3_mowsForAnother weX3_mowsForAnother hyX3_mowsForAnother rfl rfl (Nat.le_of_ble_eq_true rfl) dX3_mowAll_86 (fun r16 s17 => ?_)
          change G X 89 [.ref (X.B + k), .int x1, .int x2, .int x3] [.int r16] s17 _
          refine g_if_eq (pc := 89) K 95 dX3_mowAll_89 (by decide) ?_ ?_
          · exact g_wk (hkj13 x2 s17) ⟨rfl, ⟨rfl, ⟨rfl, ⟨rfl, trivial⟩⟩⟩⟩
          · refine g_iinc (pc := 92) K (1) dX3_mowAll_92 rfl (by decide) (by decide) ?_
            change G X 95 [.ref (X.B + k), .int x1, .int (x2 + (1)), .int x3] [] s17 _
            exact g_wk (hkj13 (x2 + (1)) s17) ⟨rfl, ⟨rfl, ⟨rfl, ⟨rfl, trivial⟩⟩⟩⟩
set_option maxRecDepth 20000 in
set_option maxHeartbeats 4000000 in
theorem tX3_mowAll {X : Cx} (K : Ok X cX3_mowAll RX3 4 3) (hR : RI X cX3_mowAll) (k : Nat) (hk : Scn k) (s : St) : G X 0 [.ref (X.B + k), .null, .null, .null] [] s (M_X3_mowAll k s) := by
  unfold M_X3_mowAll
  refine g_iconst (pc := 0) K (0) dX3_mowAll_0 (by decide) ?_
  refine g_istore_n (pc := 1) K 1 dX3_mowAll_1 rfl (by decide) ?_
  change G X 2 [.ref (X.B + k), .int (0), .null, .null] [] s _
  refine g_iconst (pc := 2) K (0) dX3_mowAll_2 (by decide) ?_
  refine g_istore_n (pc := 3) K 2 dX3_mowAll_3 rfl (by decide) ?_
  change G X 4 [.ref (X.B + k), .int (0), .int (0), .null] [] s _
  refine g_iconst (pc := 4) K (0) dX3_mowAll_4 (by decide) ?_
  refine g_istore_n (pc := 5) K 3 dX3_mowAll_5 rfl (by decide) ?_
  change G X 6 [.ref (X.B + k), .int (0), .int (0), .int (0)] [] s _
  refine g_weak (L' := [.ref (X.B + k), .int (0), .int (0), .int (0)]) ⟨rfl, ⟨rfl, ⟨rfl, ⟨rfl, trivial⟩⟩⟩⟩ ?_
  refine tM_X3_mowAll_L6 K hR k hk _ (fun v10 v11 s12 => ?_) 400 (0) (0) (0) s
  refine g_iconst (pc := 62) K (0) dX3_mowAll_62 (by decide) ?_
  refine g_istore_n (pc := 63) K 3 dX3_mowAll_63 rfl (by decide) ?_
  change G X 64 [.ref (X.B + k), .int v10, .int v11, .int (0)] [] s12 _
  refine g_weak (L' := [.ref (X.B + k), .int v10, .int v11, .int (0)]) ⟨rfl, ⟨rfl, ⟨rfl, ⟨rfl, trivial⟩⟩⟩⟩ ?_
  refine tM_X3_mowAll_L64 K hR k hk v10 _ (fun v18 s19 => ?_) 400 v11 (0) s12
  refine g_iload_n (pc := 101) K 2 dX3_mowAll_101 rfl rfl ?_
  exact g_ir (pc := 102) hR dX3_mowAll_102
theorem qX3_mowAll (E : Ce) (k : Nat) (hk : Scn k) : Con E yX3_mowAll cX3_mowAll 4 (some .int) 3 [.ref (E.B + k)] (M_X3_mowAll k) :=
  Con.of (by decide) (List.forall_mem_cons.mpr ⟨rfl, fun _ h => absurd h List.not_mem_nil⟩) (Nat.le_of_ble_eq_true rfl) (Or.inr (Or.inl rfl)) [.ref (E.B + k), .null, .null, .null] ⟨rfl, trivial⟩ (fun X s hE hok hI hZ hV => by subst hE; exact tX3_mowAll hok (hI rfl) k hk s)
theorem hyX3_pass : yX3_pass.cls ≠ "java/lang/invoke/MethodHandle" ∧ yX3_pass.cls ≠ "java/lang/invoke/VarHandle" ∧ (parseMethodDescriptor yX3_pass.desc).map (fun d => d.parameters.length) = some 1 := by decide +kernel
set_option maxRecDepth 20000 in
set_option maxHeartbeats 4000000 in
theorem tX3_pass {X : Cx} (K : Ok X cX3_pass RX3 2 4) (hR : RI X cX3_pass) (k : Nat) (hk : Scn k) (a1 : Int32) (s : St) : G X 0 [.ref (X.B + k), .int a1] [] s (M_X3_pass k a1 s) := by
  unfold M_X3_pass
  refine g_aload_n (pc := 0) K 0 dX3_pass_0 rfl rfl ?_
  refine g_aload_n (pc := 1) K 0 dX3_pass_1 rfl rfl ?_
  refine gg_3_0 (pc := 2) K hk.1 hk.2.1 kX3_18 dX3_pass_2 ?_
  refine g_aload_n (pc := 5) K 0 dX3_pass_5 rfl rfl ?_
  refine gg_3_2 (pc := 6) K hk.1 hk.2.1 kX3_26 dX3_pass_6 ?_
  refine g_aload_n (pc := 9) K 0 dX3_pass_9 rfl rfl ?_
  refine gg_3_1 (pc := 10) K hk.1 hk.2.1 kX3_22 dX3_pass_10 ?_
  refine g_callVN (pc := 13) (S := [.ref (X.B + k)]) K (qX1_askedBehind X.E 9 frm_9 (s.1 k 2) (s.1 k 1)) (by decide) (ci := 1) rfl (fun _ => ⟨_, ce_1 kd_9⟩) (by decide) (by decide) wcX1_askedBehind wiX1 kX3_42 wmX1_askedBehind weX1_askedBehind hyX1_askedBehind rfl rfl (Nat.le_of_ble_eq_true rfl) dX3_pass_13 (fun r1 s2 => ?_)
  change G X 16 [.ref (X.B + k), .int a1] [.int r1, .ref (X.B + k)] s2 _
  refine gp_3_2 (pc := 16) K hk.1 hk.2.1 kX3_26 dX3_pass_16 (fun s3 => ?_)
  refine g_aload_n (pc := 19) K 0 dX3_pass_19 rfl rfl ?_
  refine g_dup (pc := 20) K dX3_pass_20 rfl ?_
  refine gg_3_1 (pc := 21) K hk.1 hk.2.1 kX3_22 dX3_pass_21 ?_
  refine g_iconst (pc := 24) K (1) dX3_pass_24 (by decide) ?_
  refine g_iadd (pc := 25) K dX3_pass_25 ?_
  refine gp_3_1 (pc := 26) K hk.1 hk.2.1 kX3_22 dX3_pass_26 (fun s4 => ?_)
  refine g_iload_n (pc := 29) K 1 dX3_pass_29 rfl rfl ?_
  refine g_if_eq (pc := 30) K 40 dX3_pass_30 (by decide) ?_ ?_
  · refine g_iconst (pc := 40) K (0) dX3_pass_40 (by decide) ?_
    exact g_ir (pc := 41) hR dX3_pass_41
  · refine g_aload_n (pc := 33) K 0 dX3_pass_33 rfl rfl ?_
    refine g_callV (pc := 34) (S := []) K (qX3_mowAll X.E k hk) hk.1 (ci := 3) rfl (fun _ => ⟨_, ce_3 hk.2.1⟩) (by decide) (by decide) wcX3_mowAll wiX3 kX3_46 wmX3_mowAll weX3_mowAll hyX3_mowAll rfl rfl (Nat.le_of_ble_eq_true rfl) dX3_pass_34 (fun r5 s6 => ?_)
    change G X 37 [.ref (X.B + k), .int a1] [.int r5] s6 _
    refine g_goto (pc := 37) K 41 dX3_pass_37 (by decide) ?_
    exact g_ir (pc := 41) hR dX3_pass_41
theorem qX3_pass (E : Ce) (k : Nat) (hk : Scn k) (a1 : Int32) : Con E yX3_pass cX3_pass 2 (some .int) 4 [.ref (E.B + k), .int a1] (M_X3_pass k a1) :=
  Con.of (by decide) (List.forall_mem_cons.mpr ⟨rfl, List.forall_mem_cons.mpr ⟨rfl, fun _ h => absurd h List.not_mem_nil⟩⟩) (Nat.le_of_ble_eq_true rfl) (Or.inr (Or.inl rfl)) [.ref (E.B + k), .int a1] ⟨rfl, ⟨rfl, trivial⟩⟩ (fun X s hE hok hI hZ hV => by subst hE; exact tX3_pass hok (hI rfl) k hk a1 s)
theorem hyX4_begin : yX4_begin.cls ≠ "java/lang/invoke/MethodHandle" ∧ yX4_begin.cls ≠ "java/lang/invoke/VarHandle" ∧ (parseMethodDescriptor yX4_begin.desc).map (fun d => d.parameters.length) = some 0 := by decide +kernel
set_option maxRecDepth 20000 in
set_option maxHeartbeats 4000000 in
theorem tM_X4_begin_L7 {X : Cx} (K : Ok X cX4_begin RX4 2 1) (hR : RV X cX4_begin) (kk : St → Option (Int32 × St)) (hkk : ∀ (s : St), G X 29 [.null, .null] [] s (kk s)) : ∀ (fu : Nat) (x1 : Int32) (s : St), G X 7 [.ref (X.B + 64), .int x1] [] s (M_X4_begin_L7 kk fu x1 s) := by
  intro fu
  induction fu with
  | zero => intro x1 s; exact g_none
  | succ fu ih =>
    intro x1 s
    rw [M_X4_begin_L7]
    refine g_iload_n (pc := 7) K 1 dX4_begin_7 rfl rfl ?_
    refine g_aload_n (pc := 8) K 0 dX4_begin_8 rfl rfl ?_
    refine gg_4_1 (pc := 9) K (by decide) kd_64 kX4_11 dX4_begin_9 ?_
    refine g_alenZ (pc := 12) K (147) (by decide) kd_65 ln_65 (by decide) dX4_begin_12 ?_
    refine g_icmp_ge (pc := 13) K 29 dX4_begin_13 (by decide) ?_ ?_
    · exact g_wk (hkk  s) trivial
    · refine g_aload_n (pc := 16) K 0 dX4_begin_16 rfl rfl ?_
      refine gg_4_1 (pc := 17) K (by decide) kd_64 kX4_11 dX4_begin_17 ?_
      refine g_iload_n (pc := 20) K 1 dX4_begin_20 rfl rfl ?_
      refine g_iconst (pc := 21) K (0) dX4_begin_21 (by decide) ?_
      refine g_bastore (pc := 22) K (by decide) kd_65 ln_65 dX4_begin_22 (fun s2 => ?_)
      refine g_iinc (pc := 23) K (1) dX4_begin_23 rfl (by decide) (by decide) ?_
      change G X 26 [.ref (X.B + 64), .int (x1 + (1))] [] s2 _
      refine g_goto (pc := 26) K 7 dX4_begin_26 (by decide) ?_
      exact g_wk (ih (x1 + (1)) s2) ⟨rfl, ⟨rfl, trivial⟩⟩
set_option maxRecDepth 20000 in
set_option maxHeartbeats 4000000 in
theorem tX4_begin {X : Cx} (K : Ok X cX4_begin RX4 2 1) (hR : RV X cX4_begin) (s : St) : G X 0 [.ref (X.B + 64), .null] [] s (M_X4_begin s) := by
  unfold M_X4_begin
  refine g_aload_n (pc := 0) K 0 dX4_begin_0 rfl rfl ?_
  refine g_iconst (pc := 1) K (0) dX4_begin_1 (by decide) ?_
  refine gp_4_0 (pc := 2) K (by decide) kd_64 kX4_15 dX4_begin_2 (fun s1 => ?_)
  refine g_iconst (pc := 5) K (0) dX4_begin_5 (by decide) ?_
  refine g_istore_n (pc := 6) K 1 dX4_begin_6 rfl (by decide) ?_
  change G X 7 [.ref (X.B + 64), .int (0)] [] s1 _
  refine g_weak (L' := [.ref (X.B + 64), .int (0)]) ⟨rfl, ⟨rfl, trivial⟩⟩ ?_
  refine tM_X4_begin_L7 K hR  _ (fun s3 => ?_) 400 (0) s1
  exact g_vr (pc := 29) hR dX4_begin_29
theorem qX4_begin (E : Ce) : Con E yX4_begin cX4_begin 2 none 1 [.ref (E.B + 64)] (M_X4_begin) :=
  Con.of (by decide) (List.forall_mem_cons.mpr ⟨rfl, fun _ h => absurd h List.not_mem_nil⟩) (Nat.le_of_ble_eq_true rfl) (Or.inl rfl) [.ref (E.B + 64), .null] ⟨rfl, trivial⟩ (fun X s hE hok hI hZ hV => by subst hE; exact tX4_begin hok (hV rfl) s)
theorem hyX4_learn : yX4_learn.cls ≠ "java/lang/invoke/MethodHandle" ∧ yX4_learn.cls ≠ "java/lang/invoke/VarHandle" ∧ (parseMethodDescriptor yX4_learn.desc).map (fun d => d.parameters.length) = some 3 := by decide +kernel
set_option maxRecDepth 20000 in
set_option maxHeartbeats 4000000 in
theorem tM_X4_learn_L23 {X : Cx} (K : Ok X cX4_learn RX4 7 1) (hR : RV X cX4_learn) (x1 : Int32) (x2 : Int32) (x3 : Int32) (x4 : Int32) (kk : St → Option (Int32 × St)) (hkk : ∀ (s : St), G X 75 [.ref (X.B + 64), .int x1, .int x2, .int x3, .int x4, .null, .null] [] s (kk s)) : ∀ (fu : Nat) (x5 : Int32) (s : St), G X 23 [.ref (X.B + 64), .int x1, .int x2, .int x3, .int x4, .int x5, .null] [] s (M_X4_learn_L23 x1 x2 x3 x4 kk fu x5 s) := by
  intro fu
  induction fu with
  | zero => intro x5 s; exact g_none
  | succ fu ih =>
    intro x5 s
    rw [M_X4_learn_L23]
    refine g_iload (pc := 23) K dX4_learn_23 rfl ?_
    refine g_bipush (pc := 25) K (6) dX4_learn_25 (by decide) ?_
    refine g_icmp_gt (pc := 27) K 75 dX4_learn_27 (by decide) ?_ ?_
    · exact g_wk (hkk  s) ⟨rfl, ⟨rfl, ⟨rfl, ⟨rfl, ⟨rfl, trivial⟩⟩⟩⟩⟩
    · refine g_iload (pc := 30) K dX4_learn_30 rfl ?_
      refine g_iload_n (pc := 32) K 1 dX4_learn_32 rfl rfl ?_
      refine g_jn (κ := Int32 → St → Option (Int32 × St)) (fun kj2 => ∀ (v3 : Int32) (s4 : St), G X 47 [.ref (X.B + 64), .int x1, .int x2, .int x3, .int x4, .int x5, .null] [.int v3] s4 (kj2 v3 s4)) (fun v3 s4 => ?_) (fun kj2 hkj2 => ?_)
      · refine g_istore (pc := 47) K dX4_learn_47 (by decide) ?_
        change G X 49 [.ref (X.B + 64), .int x1, .int x2, .int x3, .int x4, .int x5, .int v3] [] s4 _
        refine g_iload (pc := 49) K dX4_learn_49 rfl ?_
        refine g_iload_n (pc := 51) K 3 dX4_learn_51 rfl rfl ?_
        refine g_jn (κ := St → Option (Int32 × St)) (fun kj5 => ∀ (s6 : St), G X 69 [.ref (X.B + 64), .int x1, .int x2, .int x3, .int x4, .int x5, .null] [] s6 (kj5 s6)) (fun s6 => ?_) (fun kj5 hkj5 => ?_)
        · refine g_iinc (pc := 69) K (1) dX4_learn_69 rfl (by decide) (by decide) ?_
          change G X 72 [.ref (X.B + 64), .int x1, .int x2, .int x3, .int x4, .int (x5 + (1)), .null] [] s6 _
          refine g_goto (pc := 72) K 23 dX4_learn_72 (by decide) ?_
          exact g_wk (ih (x5 + (1)) s6) ⟨rfl, ⟨rfl, ⟨rfl, ⟨rfl, ⟨rfl, ⟨rfl, trivial⟩⟩⟩⟩⟩⟩
        · refine g_icmp_eq (pc := 52) K 69 dX4_learn_52 (by decide) ?_ ?_
          · exact g_wk (hkj5  s4) ⟨rfl, ⟨rfl, ⟨rfl, ⟨rfl, ⟨rfl, ⟨rfl, trivial⟩⟩⟩⟩⟩⟩
          · refine g_aload_n (pc := 55) K 0 dX4_learn_55 rfl rfl ?_
            refine gg_4_1 (pc := 56) K (by decide) kd_64 kX4_11 dX4_learn_56 ?_
            refine g_iload (pc := 59) K dX4_learn_59 rfl ?_
            refine g_bipush (pc := 61) K (7) dX4_learn_61 (by decide) ?_
            refine g_imul (pc := 63) K dX4_learn_63 ?_
            refine g_iload (pc := 64) K dX4_learn_64 rfl ?_
            refine g_iadd (pc := 66) K dX4_learn_66 ?_
            refine g_iconst (pc := 67) K (1) dX4_learn_67 (by decide) ?_
            refine g_bastore (pc := 68) K (by decide) kd_65 ln_65 dX4_learn_68 (fun s7 => ?_)
            exact g_wk (hkj5  s7) ⟨rfl, ⟨rfl, ⟨rfl, ⟨rfl, ⟨rfl, ⟨rfl, trivial⟩⟩⟩⟩⟩⟩
      · refine g_icmp_le (pc := 33) K 42 dX4_learn_33 (by decide) ?_ ?_
        · refine g_iconst (pc := 42) K (1) dX4_learn_42 (by decide) ?_
          refine g_goto (pc := 43) K 47 dX4_learn_43 (by decide) ?_
          exact g_wk (hkj2 (1) s) ⟨rfl, ⟨rfl, ⟨rfl, ⟨rfl, ⟨rfl, ⟨rfl, trivial⟩⟩⟩⟩⟩⟩
        · refine g_iload (pc := 36) K dX4_learn_36 rfl ?_
          refine g_iload_n (pc := 38) K 2 dX4_learn_38 rfl rfl ?_
          refine g_icmp_gt (pc := 39) K 46 dX4_learn_39 (by decide) ?_ ?_
          · refine g_iconst (pc := 46) K (0) dX4_learn_46 (by decide) ?_
            exact g_wk (hkj2 (0) s) ⟨rfl, ⟨rfl, ⟨rfl, ⟨rfl, ⟨rfl, ⟨rfl, trivial⟩⟩⟩⟩⟩⟩
          · refine g_iconst (pc := 42) K (1) dX4_learn_42 (by decide) ?_
            refine g_goto (pc := 43) K 47 dX4_learn_43 (by decide) ?_
            exact g_wk (hkj2 (1) s) ⟨rfl, ⟨rfl, ⟨rfl, ⟨rfl, ⟨rfl, ⟨rfl, trivial⟩⟩⟩⟩⟩⟩
set_option maxRecDepth 20000 in
set_option maxHeartbeats 4000000 in
theorem tM_X4_learn_L13 {X : Cx} (K : Ok X cX4_learn RX4 7 1) (hR : RV X cX4_learn) (x1 : Int32) (x2 : Int32) (x3 : Int32) (kk : St → Option (Int32 × St)) (hkk : ∀ (s : St), G X 81 [.null, .null, .null, .null, .null, .null, .null] [] s (kk s)) : ∀ (fu : Nat) (x4 : Int32) (s : St), G X 13 [.ref (X.B + 64), .int x1, .int x2, .int x3, .int x4, .null, .null] [] s (M_X4_learn_L13 x1 x2 x3 kk fu x4 s) := by
  intro fu
  induction fu with
  | zero => intro x4 s; exact g_none
  | succ fu ih =>
    intro x4 s
    rw [M_X4_learn_L13]
    refine g_iload (pc := 13) K dX4_learn_13 rfl ?_
    refine g_bipush (pc := 15) K (20) dX4_learn_15 (by decide) ?_
    refine g_icmp_gt (pc := 17) K 81 dX4_learn_17 (by decide) ?_ ?_
    · exact g_wk (hkk  s) trivial
    · refine g_iconst (pc := 20) K (0) dX4_learn_20 (by decide) ?_
      refine g_istore (pc := 21) K dX4_learn_21 (by decide) ?_
      change G X 23 [.ref (X.B + 64), .int x1, .int x2, .int x3, .int x4, .int (0), .null] [] s _
      refine g_weak (L' := [.ref (X.B + 64), .int x1, .int x2, .int x3, .int x4, .int (0), .null]) ⟨rfl, ⟨rfl, ⟨rfl, ⟨rfl, ⟨rfl, ⟨rfl, trivial⟩⟩⟩⟩⟩⟩ ?_
      refine tM_X4_learn_L23 K hR x1 x2 x3 x4 _ (fun s8 => ?_) 400 (0) s
      refine g_iinc (pc := 75) K (1) dX4_learn_75 rfl (by decide) (by decide) ?_
      change G X 78 [.ref (X.B + 64), .int x1, .int x2, .int x3, .int (x4 + (1)), .null, .null] [] s8 _
      refine g_goto (pc := 78) K 13 dX4_learn_78 (by decide) ?_
      exact g_wk (ih (x4 + (1)) s8) ⟨rfl, ⟨rfl, ⟨rfl, ⟨rfl, ⟨rfl, trivial⟩⟩⟩⟩⟩
set_option maxRecDepth 20000 in
set_option maxHeartbeats 4000000 in
theorem tX4_learn {X : Cx} (K : Ok X cX4_learn RX4 7 1) (hR : RV X cX4_learn) (a1 : Int32) (a2 : Int32) (a3 : Int32) (s : St) : G X 0 [.ref (X.B + 64), .int a1, .int a2, .int a3, .null, .null, .null] [] s (M_X4_learn a1 a2 a3 s) := by
  unfold M_X4_learn
  refine g_aload_n (pc := 0) K 0 dX4_learn_0 rfl rfl ?_
  refine g_dup (pc := 1) K dX4_learn_1 rfl ?_
  refine gg_4_0 (pc := 2) K (by decide) kd_64 kX4_15 dX4_learn_2 ?_
  refine g_iconst (pc := 5) K (1) dX4_learn_5 (by decide) ?_
  refine g_iadd (pc := 6) K dX4_learn_6 ?_
  refine gp_4_0 (pc := 7) K (by decide) kd_64 kX4_15 dX4_learn_7 (fun s1 => ?_)
  refine g_iconst (pc := 10) K (0) dX4_learn_10 (by decide) ?_
  refine g_istore (pc := 11) K dX4_learn_11 (by decide) ?_
  change G X 13 [.ref (X.B + 64), .int a1, .int a2, .int a3, .int (0), .null, .null] [] s1 _
  refine g_weak (L' := [.ref (X.B + 64), .int a1, .int a2, .int a3, .int (0), .null, .null]) ⟨rfl, ⟨rfl, ⟨rfl, ⟨rfl, ⟨rfl, trivial⟩⟩⟩⟩⟩ ?_
  refine tM_X4_learn_L13 K hR a1 a2 a3 _ (fun s9 => ?_) 400 (0) s1
  exact g_vr (pc := 81) hR dX4_learn_81
theorem qX4_learn (E : Ce) (a1 : Int32) (a2 : Int32) (a3 : Int32) : Con E yX4_learn cX4_learn 7 none 1 [.ref (E.B + 64), .int a1, .int a2, .int a3] (M_X4_learn a1 a2 a3) :=
  Con.of (by decide) (List.forall_mem_cons.mpr ⟨rfl, List.forall_mem_cons.mpr ⟨rfl, List.forall_mem_cons.mpr ⟨rfl, List.forall_mem_cons.mpr ⟨rfl, fun _ h => absurd h List.not_mem_nil⟩⟩⟩⟩) (Nat.le_of_ble_eq_true rfl) (Or.inl rfl) [.ref (E.B + 64), .int a1, .int a2, .int a3, .null, .null, .null] ⟨rfl, ⟨rfl, ⟨rfl, ⟨rfl, trivial⟩⟩⟩⟩ (fun X s hE hok hI hZ hV => by subst hE; exact tX4_learn hok (hV rfl) a1 a2 a3 s)
theorem hyX4_numberOfNerve : yX4_numberOfNerve.cls ≠ "java/lang/invoke/MethodHandle" ∧ yX4_numberOfNerve.cls ≠ "java/lang/invoke/VarHandle" ∧ (parseMethodDescriptor yX4_numberOfNerve.desc).map (fun d => d.parameters.length) = some 3 := by decide +kernel
set_option maxRecDepth 20000 in
set_option maxHeartbeats 4000000 in
theorem tM_X4_numberOfNerve_L6 {X : Cx} (K : Ok X cX4_numberOfNerve RX4 6 1) (hR : RI X cX4_numberOfNerve) (x1 : Int32) (x3 : Int32) (kk : Int32 → St → Option (Int32 × St)) (hkk : ∀ (x4 : Int32) (s : St), G X 36 [.null, .null, .null, .null, .int x4, .null] [] s (kk x4 s)) : ∀ (fu : Nat) (x4 x5 : Int32) (s : St), G X 6 [.ref (X.B + 64), .int x1, .null, .int x3, .int x4, .int x5] [] s (M_X4_numberOfNerve_L6 x1 x3 kk fu x4 x5 s) := by
  intro fu
  induction fu with
  | zero => intro x4 x5 s; exact g_none
  | succ fu ih =>
    intro x4 x5 s
    rw [M_X4_numberOfNerve_L6]
    refine g_iload (pc := 6) K dX4_numberOfNerve_6 rfl ?_
    refine g_iload_n (pc := 8) K 3 dX4_numberOfNerve_8 rfl rfl ?_
    refine g_icmp_gt (pc := 9) K 36 dX4_numberOfNerve_9 (by decide) ?_ ?_
    · exact g_wk (hkk x4 s) ⟨rfl, trivial⟩
    · refine g_aload_n (pc := 12) K 0 dX4_numberOfNerve_12 rfl rfl ?_
      refine gg_4_1 (pc := 13) K (by decide) kd_64 kX4_11 dX4_numberOfNerve_13 ?_
      refine g_iload (pc := 16) K dX4_numberOfNerve_16 rfl ?_
      refine g_bipush (pc := 18) K (7) dX4_numberOfNerve_18 (by decide) ?_
      refine g_imul (pc := 20) K dX4_numberOfNerve_20 ?_
      refine g_iload_n (pc := 21) K 1 dX4_numberOfNerve_21 rfl rfl ?_
      refine g_iadd (pc := 22) K dX4_numberOfNerve_22 ?_
      refine g_baload (pc := 23) K (by decide) kd_65 ln_65 dX4_numberOfNerve_23 (fun v1 => ?_)
      refine g_jn (κ := Int32 → St → Option (Int32 × St)) (fun kj2 => ∀ (v3 : Int32) (s4 : St), G X 30 [.ref (X.B + 64), .int x1, .null, .int x3, .int v3, .int x5] [] s4 (kj2 v3 s4)) (fun v3 s4 => ?_) (fun kj2 hkj2 => ?_)
      · refine g_iinc (pc := 30) K (1) dX4_numberOfNerve_30 rfl (by decide) (by decide) ?_
        change G X 33 [.ref (X.B + 64), .int x1, .null, .int x3, .int v3, .int (x5 + (1))] [] s4 _
        refine g_goto (pc := 33) K 6 dX4_numberOfNerve_33 (by decide) ?_
        exact g_wk (ih v3 (x5 + (1)) s4) ⟨rfl, ⟨rfl, ⟨rfl, ⟨rfl, ⟨rfl, trivial⟩⟩⟩⟩⟩
      · refine g_if_ne (pc := 24) K 30 dX4_numberOfNerve_24 (by decide) ?_ ?_
        · exact g_wk (hkj2 x4 s) ⟨rfl, ⟨rfl, ⟨rfl, ⟨rfl, ⟨rfl, trivial⟩⟩⟩⟩⟩
        · refine g_iinc (pc := 27) K (1) dX4_numberOfNerve_27 rfl (by decide) (by decide) ?_
          change G X 30 [.ref (X.B + 64), .int x1, .null, .int x3, .int (x4 + (1)), .int x5] [] s _
          exact g_wk (hkj2 (x4 + (1)) s) ⟨rfl, ⟨rfl, ⟨rfl, ⟨rfl, ⟨rfl, trivial⟩⟩⟩⟩⟩
set_option maxRecDepth 20000 in
set_option maxHeartbeats 4000000 in
theorem tX4_numberOfNerve {X : Cx} (K : Ok X cX4_numberOfNerve RX4 6 1) (hR : RI X cX4_numberOfNerve) (a1 : Int32) (a2 : Int32) (a3 : Int32) (s : St) : G X 0 [.ref (X.B + 64), .int a1, .int a2, .int a3, .null, .null] [] s (M_X4_numberOfNerve a1 a2 a3 s) := by
  unfold M_X4_numberOfNerve
  refine g_iconst (pc := 0) K (0) dX4_numberOfNerve_0 (by decide) ?_
  refine g_istore (pc := 1) K dX4_numberOfNerve_1 (by decide) ?_
  change G X 3 [.ref (X.B + 64), .int a1, .int a2, .int a3, .int (0), .null] [] s _
  refine g_iload_n (pc := 3) K 2 dX4_numberOfNerve_3 rfl rfl ?_
  refine g_istore (pc := 4) K dX4_numberOfNerve_4 (by decide) ?_
  change G X 6 [.ref (X.B + 64), .int a1, .int a2, .int a3, .int (0), .int a2] [] s _
  refine g_weak (L' := [.ref (X.B + 64), .int a1, .null, .int a3, .int (0), .int a2]) ⟨rfl, ⟨rfl, ⟨rfl, ⟨rfl, ⟨rfl, trivial⟩⟩⟩⟩⟩ ?_
  refine tM_X4_numberOfNerve_L6 K hR a1 a3 _ (fun v5 s6 => ?_) 400 (0) a2 s
  refine g_iload (pc := 36) K dX4_numberOfNerve_36 rfl ?_
  exact g_ir (pc := 38) hR dX4_numberOfNerve_38
theorem qX4_numberOfNerve (E : Ce) (a1 : Int32) (a2 : Int32) (a3 : Int32) : Con E yX4_numberOfNerve cX4_numberOfNerve 6 (some .int) 1 [.ref (E.B + 64), .int a1, .int a2, .int a3] (M_X4_numberOfNerve a1 a2 a3) :=
  Con.of (by decide) (List.forall_mem_cons.mpr ⟨rfl, List.forall_mem_cons.mpr ⟨rfl, List.forall_mem_cons.mpr ⟨rfl, List.forall_mem_cons.mpr ⟨rfl, fun _ h => absurd h List.not_mem_nil⟩⟩⟩⟩) (Nat.le_of_ble_eq_true rfl) (Or.inr (Or.inl rfl)) [.ref (E.B + 64), .int a1, .int a2, .int a3, .null, .null] ⟨rfl, ⟨rfl, ⟨rfl, ⟨rfl, trivial⟩⟩⟩⟩ (fun X s hE hok hI hZ hV => by subst hE; exact tX4_numberOfNerve hok (hI rfl) a1 a2 a3 s)
theorem hyX4_number : yX4_number.cls ≠ "java/lang/invoke/MethodHandle" ∧ yX4_number.cls ≠ "java/lang/invoke/VarHandle" ∧ (parseMethodDescriptor yX4_number.desc).map (fun d => d.parameters.length) = some 2 := by decide +kernel
set_option maxRecDepth 20000 in
set_option maxHeartbeats 4000000 in
theorem tM_X4_number_L5 {X : Cx} (K : Ok X cX4_number RX4 5 2) (hR : RI X cX4_number) (x1 : Int32) (x2 : Int32) (kk : Int32 → St → Option (Int32 × St)) (hkk : ∀ (x3 : Int32) (s : St), G X 29 [.null, .null, .null, .int x3, .null] [] s (kk x3 s)) : ∀ (fu : Nat) (x3 x4 : Int32) (s : St), G X 5 [.ref (X.B + 64), .int x1, .int x2, .int x3, .int x4] [] s (M_X4_number_L5 x1 x2 kk fu x3 x4 s) := by
  intro fu
  induction fu with
  | zero => intro x3 x4 s; exact g_none
  | succ fu ih =>
    intro x3 x4 s
    rw [M_X4_number_L5]
    refine g_iload (pc := 5) K dX4_number_5 rfl ?_
    refine g_bipush (pc := 7) K (6) dX4_number_7 (by decide) ?_
    refine g_icmp_gt (pc := 9) K 29 dX4_number_9 (by decide) ?_ ?_
    · exact g_wk (hkk x3 s) ⟨rfl, trivial⟩
    · refine g_iload_n (pc := 12) K 3 dX4_number_12 rfl rfl ?_
      refine g_aload_n (pc := 13) K 0 dX4_number_13 rfl rfl ?_
      refine g_iload (pc := 14) K dX4_number_14 rfl ?_
      refine g_iload_n (pc := 16) K 1 dX4_number_16 rfl rfl ?_
      refine g_iload_n (pc := 17) K 2 dX4_number_17 rfl rfl ?_
      refine g_callV (pc := 18) (S := [.int x3]) K (qX4_numberOfNerve X.E x4 x1 x2) (by decide) (ci := 4) rfl (fun _ => ⟨_, ce_4 kd_64⟩) (by decide) (by decide) wcX4_numberOfNerve wiX4 kX4_19 wmX4_numberOfNerve weX4_numberOfNerve hyX4_numberOfNerve rfl rfl (Nat.le_of_ble_eq_true rfl) dX4_number_18 (fun r1 s2 => ?_)
      change G X 21 [.ref (X.B + 64), .int x1, .int x2, .int x3, .int x4] [.int r1, .int x3] s2 _
      refine g_iadd (pc := 21) K dX4_number_21 ?_
      refine g_istore_n (pc := 22) K 3 dX4_number_22 rfl (by decide) ?_
      change G X 23 [.ref (X.B + 64), .int x1, .int x2, .int (x3 + r1), .int x4] [] s2 _
      refine g_iinc (pc := 23) K (1) dX4_number_23 rfl (by decide) (by decide) ?_
      change G X 26 [.ref (X.B + 64), .int x1, .int x2, .int (x3 + r1), .int (x4 + (1))] [] s2 _
      refine g_goto (pc := 26) K 5 dX4_number_26 (by decide) ?_
      exact g_wk (ih (x3 + r1) (x4 + (1)) s2) ⟨rfl, ⟨rfl, ⟨rfl, ⟨rfl, ⟨rfl, trivial⟩⟩⟩⟩⟩
set_option maxRecDepth 20000 in
set_option maxHeartbeats 4000000 in
theorem tX4_number {X : Cx} (K : Ok X cX4_number RX4 5 2) (hR : RI X cX4_number) (a1 : Int32) (a2 : Int32) (s : St) : G X 0 [.ref (X.B + 64), .int a1, .int a2, .null, .null] [] s (M_X4_number a1 a2 s) := by
  unfold M_X4_number
  refine g_iconst (pc := 0) K (0) dX4_number_0 (by decide) ?_
  refine g_istore_n (pc := 1) K 3 dX4_number_1 rfl (by decide) ?_
  change G X 2 [.ref (X.B + 64), .int a1, .int a2, .int (0), .null] [] s _
  refine g_iconst (pc := 2) K (0) dX4_number_2 (by decide) ?_
  refine g_istore (pc := 3) K dX4_number_3 (by decide) ?_
  change G X 5 [.ref (X.B + 64), .int a1, .int a2, .int (0), .int (0)] [] s _
  refine g_weak (L' := [.ref (X.B + 64), .int a1, .int a2, .int (0), .int (0)]) ⟨rfl, ⟨rfl, ⟨rfl, ⟨rfl, ⟨rfl, trivial⟩⟩⟩⟩⟩ ?_
  refine tM_X4_number_L5 K hR a1 a2 _ (fun v3 s4 => ?_) 400 (0) (0) s
  refine g_iload_n (pc := 29) K 3 dX4_number_29 rfl rfl ?_
  exact g_ir (pc := 30) hR dX4_number_30
theorem qX4_number (E : Ce) (a1 : Int32) (a2 : Int32) : Con E yX4_number cX4_number 5 (some .int) 2 [.ref (E.B + 64), .int a1, .int a2] (M_X4_number a1 a2) :=
  Con.of (by decide) (List.forall_mem_cons.mpr ⟨rfl, List.forall_mem_cons.mpr ⟨rfl, List.forall_mem_cons.mpr ⟨rfl, fun _ h => absurd h List.not_mem_nil⟩⟩⟩) (Nat.le_of_ble_eq_true rfl) (Or.inr (Or.inl rfl)) [.ref (E.B + 64), .int a1, .int a2, .null, .null] ⟨rfl, ⟨rfl, ⟨rfl, trivial⟩⟩⟩ (fun X s hE hok hI hZ hV => by subst hE; exact tX4_number hok (hI rfl) a1 a2 s)
theorem hyX4_leastShame : yX4_leastShame.cls ≠ "java/lang/invoke/MethodHandle" ∧ yX4_leastShame.cls ≠ "java/lang/invoke/VarHandle" ∧ (parseMethodDescriptor yX4_leastShame.desc).map (fun d => d.parameters.length) = some 0 := by decide +kernel
set_option maxRecDepth 20000 in
set_option maxHeartbeats 4000000 in
theorem tM_X4_leastShame_L2 {X : Cx} (K : Ok X cX4_leastShame RX4 2 3) (hR : RI X cX4_leastShame) (kk : St → Option (Int32 × St)) (hkk : ∀ (s : St), G X 25 [.null, .null] [] s (kk s)) : ∀ (fu : Nat) (x1 : Int32) (s : St), G X 2 [.ref (X.B + 64), .int x1] [] s (M_X4_leastShame_L2 kk fu x1 s) := by
  intro fu
  induction fu with
  | zero => intro x1 s; exact g_none
  | succ fu ih =>
    intro x1 s
    rw [M_X4_leastShame_L2]
    refine g_iload_n (pc := 2) K 1 dX4_leastShame_2 rfl rfl ?_
    refine g_bipush (pc := 3) K (20) dX4_leastShame_3 (by decide) ?_
    refine g_icmp_gt (pc := 5) K 25 dX4_leastShame_5 (by decide) ?_ ?_
    · exact g_wk (hkk  s) trivial
    · refine g_aload_n (pc := 8) K 0 dX4_leastShame_8 rfl rfl ?_
      refine g_iload_n (pc := 9) K 1 dX4_leastShame_9 rfl rfl ?_
      refine g_iload_n (pc := 10) K 1 dX4_leastShame_10 rfl rfl ?_
      refine g_callV (pc := 11) (S := []) K (qX4_number X.E x1 x1) (by decide) (ci := 4) rfl (fun _ => ⟨_, ce_4 kd_64⟩) (by decide) (by decide) wcX4_number wiX4 kX4_23 wmX4_number weX4_number hyX4_number rfl rfl (Nat.le_of_ble_eq_true rfl) dX4_leastShame_11 (fun r1 s2 => ?_)
      change G X 14 [.ref (X.B + 64), .int x1] [.int r1] s2 _
      refine g_if_le (pc := 14) K 19 dX4_leastShame_14 (by decide) ?_ ?_
      · refine g_iinc (pc := 19) K (1) dX4_leastShame_19 rfl (by decide) (by decide) ?_
        change G X 22 [.ref (X.B + 64), .int (x1 + (1))] [] s2 _
        refine g_goto (pc := 22) K 2 dX4_leastShame_22 (by decide) ?_
        exact g_wk (ih (x1 + (1)) s2) ⟨rfl, ⟨rfl, trivial⟩⟩
      · refine g_iload_n (pc := 17) K 1 dX4_leastShame_17 rfl rfl ?_
        exact g_ir (pc := 18) hR dX4_leastShame_18
set_option maxRecDepth 20000 in
set_option maxHeartbeats 4000000 in
theorem tX4_leastShame {X : Cx} (K : Ok X cX4_leastShame RX4 2 3) (hR : RI X cX4_leastShame) (s : St) : G X 0 [.ref (X.B + 64), .null] [] s (M_X4_leastShame s) := by
  unfold M_X4_leastShame
  refine g_iconst (pc := 0) K (0) dX4_leastShame_0 (by decide) ?_
  refine g_istore_n (pc := 1) K 1 dX4_leastShame_1 rfl (by decide) ?_
  change G X 2 [.ref (X.B + 64), .int (0)] [] s _
  refine g_weak (L' := [.ref (X.B + 64), .int (0)]) ⟨rfl, ⟨rfl, trivial⟩⟩ ?_
  refine tM_X4_leastShame_L2 K hR  _ (fun s3 => ?_) 400 (0) s
  refine g_bipush (pc := 25) K (-9) dX4_leastShame_25 (by decide) ?_
  exact g_ir (pc := 27) hR dX4_leastShame_27
theorem qX4_leastShame (E : Ce) : Con E yX4_leastShame cX4_leastShame 2 (some .int) 3 [.ref (E.B + 64)] (M_X4_leastShame) :=
  Con.of (by decide) (List.forall_mem_cons.mpr ⟨rfl, fun _ h => absurd h List.not_mem_nil⟩) (Nat.le_of_ble_eq_true rfl) (Or.inr (Or.inl rfl)) [.ref (E.B + 64), .null] ⟨rfl, trivial⟩ (fun X s hE hok hI hZ hV => by subst hE; exact tX4_leastShame hok (hI rfl) s)
theorem hyX4_greatestShame : yX4_greatestShame.cls ≠ "java/lang/invoke/MethodHandle" ∧ yX4_greatestShame.cls ≠ "java/lang/invoke/VarHandle" ∧ (parseMethodDescriptor yX4_greatestShame.desc).map (fun d => d.parameters.length) = some 0 := by decide +kernel
set_option maxRecDepth 20000 in
set_option maxHeartbeats 4000000 in
theorem tM_X4_greatestShame_L3 {X : Cx} (K : Ok X cX4_greatestShame RX4 2 3) (hR : RI X cX4_greatestShame) (kk : St → Option (Int32 × St)) (hkk : ∀ (s : St), G X 24 [.null, .null] [] s (kk s)) : ∀ (fu : Nat) (x1 : Int32) (s : St), G X 3 [.ref (X.B + 64), .int x1] [] s (M_X4_greatestShame_L3 kk fu x1 s) := by
  intro fu
  induction fu with
  | zero => intro x1 s; exact g_none
  | succ fu ih =>
    intro x1 s
    rw [M_X4_greatestShame_L3]
    refine g_iload_n (pc := 3) K 1 dX4_greatestShame_3 rfl rfl ?_
    refine g_if_lt (pc := 4) K 24 dX4_greatestShame_4 (by decide) ?_ ?_
    · exact g_wk (hkk  s) trivial
    · refine g_aload_n (pc := 7) K 0 dX4_greatestShame_7 rfl rfl ?_
      refine g_iload_n (pc := 8) K 1 dX4_greatestShame_8 rfl rfl ?_
      refine g_iload_n (pc := 9) K 1 dX4_greatestShame_9 rfl rfl ?_
      refine g_callV (pc := 10) (S := []) K (qX4_number X.E x1 x1) (by decide) (ci := 4) rfl (fun _ => ⟨_, ce_4 kd_64⟩) (by decide) (by decide) wcX4_number wiX4 kX4_23 wmX4_number weX4_number hyX4_number rfl rfl (Nat.le_of_ble_eq_true rfl) dX4_greatestShame_10 (fun r1 s2 => ?_)
      change G X 13 [.ref (X.B + 64), .int x1] [.int r1] s2 _
      refine g_if_le (pc := 13) K 18 dX4_greatestShame_13 (by decide) ?_ ?_
      · refine g_iinc (pc := 18) K (-1) dX4_greatestShame_18 rfl (by decide) (by decide) ?_
        change G X 21 [.ref (X.B + 64), .int (x1 + (-1))] [] s2 _
        refine g_goto (pc := 21) K 3 dX4_greatestShame_21 (by decide) ?_
        exact g_wk (ih (x1 + (-1)) s2) ⟨rfl, ⟨rfl, trivial⟩⟩
      · refine g_iload_n (pc := 16) K 1 dX4_greatestShame_16 rfl rfl ?_
        exact g_ir (pc := 17) hR dX4_greatestShame_17
set_option maxRecDepth 20000 in
set_option maxHeartbeats 4000000 in
theorem tX4_greatestShame {X : Cx} (K : Ok X cX4_greatestShame RX4 2 3) (hR : RI X cX4_greatestShame) (s : St) : G X 0 [.ref (X.B + 64), .null] [] s (M_X4_greatestShame s) := by
  unfold M_X4_greatestShame
  refine g_bipush (pc := 0) K (20) dX4_greatestShame_0 (by decide) ?_
  refine g_istore_n (pc := 2) K 1 dX4_greatestShame_2 rfl (by decide) ?_
  change G X 3 [.ref (X.B + 64), .int (20)] [] s _
  refine g_weak (L' := [.ref (X.B + 64), .int (20)]) ⟨rfl, ⟨rfl, trivial⟩⟩ ?_
  refine tM_X4_greatestShame_L3 K hR  _ (fun s3 => ?_) 400 (20) s
  refine g_bipush (pc := 24) K (-9) dX4_greatestShame_24 (by decide) ?_
  exact g_ir (pc := 26) hR dX4_greatestShame_26
theorem qX4_greatestShame (E : Ce) : Con E yX4_greatestShame cX4_greatestShame 2 (some .int) 3 [.ref (E.B + 64)] (M_X4_greatestShame) :=
  Con.of (by decide) (List.forall_mem_cons.mpr ⟨rfl, fun _ h => absurd h List.not_mem_nil⟩) (Nat.le_of_ble_eq_true rfl) (Or.inr (Or.inl rfl)) [.ref (E.B + 64), .null] ⟨rfl, trivial⟩ (fun X s hE hok hI hZ hV => by subst hE; exact tX4_greatestShame hok (hI rfl) s)
theorem hyX4_bestOthers : yX4_bestOthers.cls ≠ "java/lang/invoke/MethodHandle" ∧ yX4_bestOthers.cls ≠ "java/lang/invoke/VarHandle" ∧ (parseMethodDescriptor yX4_bestOthers.desc).map (fun d => d.parameters.length) = some 1 := by decide +kernel
set_option maxRecDepth 20000 in
set_option maxHeartbeats 4000000 in
theorem tM_X4_bestOthers_L34 {X : Cx} (K : Ok X cX4_bestOthers RX4 8 3) (hR : RI X cX4_bestOthers) (x1 : Int32) (x2 : Int32) (kk : Int32 → St → Option (Int32 × St)) (hkk : ∀ (x3 : Int32) (s : St), G X 88 [.null, .null, .null, .int x3, .null, .null, .null, .null] [] s (kk x3 s)) : ∀ (fu : Nat) (x3 x4 x5 x6 : Int32) (s : St), G X 34 [.ref (X.B + 64), .int x1, .int x2, .int x3, .int x4, .int x5, .int x6, .null] [] s (M_X4_bestOthers_L34 x1 x2 kk fu x3 x4 x5 x6 s) := by
  intro fu
  induction fu with
  | zero => intro x3 x4 x5 x6 s; exact g_none
  | succ fu ih =>
    intro x3 x4 x5 x6 s
    rw [M_X4_bestOthers_L34]
    refine g_iload (pc := 34) K dX4_bestOthers_34 rfl ?_
    refine g_bipush (pc := 36) K (6) dX4_bestOthers_36 (by decide) ?_
    refine g_icmp_gt (pc := 38) K 88 dX4_bestOthers_38 (by decide) ?_ ?_
    · exact g_wk (hkk x3 s) ⟨rfl, trivial⟩
    · refine g_iload (pc := 41) K dX4_bestOthers_41 rfl ?_
      refine g_aload_n (pc := 43) K 0 dX4_bestOthers_43 rfl rfl ?_
      refine g_iload (pc := 44) K dX4_bestOthers_44 rfl ?_
      refine g_iload_n (pc := 46) K 1 dX4_bestOthers_46 rfl rfl ?_
      refine g_iconst (pc := 47) K (1) dX4_bestOthers_47 (by decide) ?_
      refine g_iadd (pc := 48) K dX4_bestOthers_48 ?_
      refine g_bipush (pc := 49) K (20) dX4_bestOthers_49 (by decide) ?_
      refine g_callV (pc := 51) (S := [.int x5]) K (qX4_numberOfNerve X.E x6 (x1 + (1)) (20)) (by decide) (ci := 4) rfl (fun _ => ⟨_, ce_4 kd_64⟩) (by decide) (by decide) wcX4_numberOfNerve wiX4 kX4_19 wmX4_numberOfNerve weX4_numberOfNerve hyX4_numberOfNerve rfl rfl (Nat.le_of_ble_eq_true rfl) dX4_bestOthers_51 (fun r5 s6 => ?_)
      change G X 54 [.ref (X.B + 64), .int x1, .int x2, .int x3, .int x4, .int x5, .int x6, .null] [.int r5, .int x5] s6 _
      refine g_iadd (pc := 54) K dX4_bestOthers_54 ?_
      refine g_istore (pc := 55) K dX4_bestOthers_55 (by decide) ?_
      change G X 57 [.ref (X.B + 64), .int x1, .int x2, .int x3, .int x4, .int (x5 + r5), .int x6, .null] [] s6 _
      refine g_iload (pc := 57) K dX4_bestOthers_57 rfl ?_
      refine g_iload_n (pc := 59) K 2 dX4_bestOthers_59 rfl rfl ?_
      refine g_iload (pc := 60) K dX4_bestOthers_60 rfl ?_
      refine g_isub (pc := 62) K dX4_bestOthers_62 ?_
      refine g_mmax (pc := 63) K (by omega) kX4_27 (Nat.le_of_ble_eq_true rfl) dX4_bestOthers_63 ?_
      refine g_istore (pc := 66) K dX4_bestOthers_66 (by decide) ?_
      change G X 68 [.ref (X.B + 64), .int x1, .int x2, .int x3, .int x4, .int (x5 + r5), .int x6, .int (if (x5 + r5) < (x2 - (x5 + r5)) then (x2 - (x5 + r5)) else (x5 + r5))] [] s6 _
      refine g_iload (pc := 68) K dX4_bestOthers_68 rfl ?_
      refine g_iload (pc := 70) K dX4_bestOthers_70 rfl ?_
      refine g_jn (κ := Int32 → Int32 → St → Option (Int32 × St)) (fun kj7 => ∀ (v8 v9 : Int32) (s10 : St), G X 82 [.ref (X.B + 64), .int x1, .int x2, .int v8, .int v9, .int (x5 + r5), .int x6, .null] [] s10 (kj7 v8 v9 s10)) (fun v8 v9 s10 => ?_) (fun kj7 hkj7 => ?_)
      · refine g_iinc (pc := 82) K (1) dX4_bestOthers_82 rfl (by decide) (by decide) ?_
        change G X 85 [.ref (X.B + 64), .int x1, .int x2, .int v8, .int v9, .int (x5 + r5), .int (x6 + (1)), .null] [] s10 _
        refine g_goto (pc := 85) K 34 dX4_bestOthers_85 (by decide) ?_
        exact g_wk (ih v8 v9 (x5 + r5) (x6 + (1)) s10) ⟨rfl, ⟨rfl, ⟨rfl, ⟨rfl, ⟨rfl, ⟨rfl, ⟨rfl, trivial⟩⟩⟩⟩⟩⟩⟩
      · refine g_icmp_ge (pc := 72) K 82 dX4_bestOthers_72 (by decide) ?_ ?_
        · exact g_wk (hkj7 x3 x4 s6) ⟨rfl, ⟨rfl, ⟨rfl, ⟨rfl, ⟨rfl, ⟨rfl, ⟨rfl, trivial⟩⟩⟩⟩⟩⟩⟩
        · refine g_iload (pc := 75) K dX4_bestOthers_75 rfl ?_
          refine g_istore (pc := 77) K dX4_bestOthers_77 (by decide) ?_
          change G X 79 [.ref (X.B + 64), .int x1, .int x2, .int x3, .int (if (x5 + r5) < (x2 - (x5 + r5)) then (x2 - (x5 + r5)) else (x5 + r5)), .int (x5 + r5), .int x6, .int (if (x5 + r5) < (x2 - (x5 + r5)) then (x2 - (x5 + r5)) else (x5 + r5))] [] s6 _
          refine g_iload (pc := 79) K dX4_bestOthers_79 rfl ?_
          refine g_istore_n (pc := 81) K 3 dX4_bestOthers_81 rfl (by decide) ?_
          change G X 82 [.ref (X.B + 64), .int x1, .int x2, .int x6, .int (if (x5 + r5) < (x2 - (x5 + r5)) then (x2 - (x5 + r5)) else (x5 + r5)), .int (x5 + r5), .int x6, .int (if (x5 + r5) < (x2 - (x5 + r5)) then (x2 - (x5 + r5)) else (x5 + r5))] [] s6 _
          exact g_wk (hkj7 x6 (if (x5 + r5) < (x2 - (x5 + r5)) then (x2 - (x5 + r5)) else (x5 + r5)) s6) ⟨rfl, ⟨rfl, ⟨rfl, ⟨rfl, ⟨rfl, ⟨rfl, ⟨rfl, trivial⟩⟩⟩⟩⟩⟩⟩
set_option maxRecDepth 20000 in
set_option maxHeartbeats 4000000 in
theorem tX4_bestOthers {X : Cx} (K : Ok X cX4_bestOthers RX4 8 3) (hR : RI X cX4_bestOthers) (a1 : Int32) (s : St) : G X 0 [.ref (X.B + 64), .int a1, .null, .null, .null, .null, .null, .null] [] s (M_X4_bestOthers a1 s) := by
  unfold M_X4_bestOthers
  refine g_aload_n (pc := 0) K 0 dX4_bestOthers_0 rfl rfl ?_
  refine g_iconst (pc := 1) K (0) dX4_bestOthers_1 (by decide) ?_
  refine g_bipush (pc := 2) K (20) dX4_bestOthers_2 (by decide) ?_
  refine g_callV (pc := 4) (S := []) K (qX4_number X.E (0) (20)) (by decide) (ci := 4) rfl (fun _ => ⟨_, ce_4 kd_64⟩) (by decide) (by decide) wcX4_number wiX4 kX4_23 wmX4_number weX4_number hyX4_number rfl rfl (Nat.le_of_ble_eq_true rfl) dX4_bestOthers_4 (fun r1 s2 => ?_)
  change G X 7 [.ref (X.B + 64), .int a1, .null, .null, .null, .null, .null, .null] [.int r1] s2 _
  refine g_istore_n (pc := 7) K 2 dX4_bestOthers_7 rfl (by decide) ?_
  change G X 8 [.ref (X.B + 64), .int a1, .int r1, .null, .null, .null, .null, .null] [] s2 _
  refine g_iload_n (pc := 8) K 2 dX4_bestOthers_8 rfl rfl ?_
  refine g_iconst (pc := 9) K (1) dX4_bestOthers_9 (by decide) ?_
  refine g_icmp_gt (pc := 10) K 16 dX4_bestOthers_10 (by decide) ?_ ?_
  · refine g_iconst (pc := 16) K (0) dX4_bestOthers_16 (by decide) ?_
    refine g_istore_n (pc := 17) K 3 dX4_bestOthers_17 rfl (by decide) ?_
    change G X 18 [.ref (X.B + 64), .int a1, .int r1, .int (0), .null, .null, .null, .null] [] s2 _
    refine g_iload_n (pc := 18) K 2 dX4_bestOthers_18 rfl rfl ?_
    refine g_iconst (pc := 19) K (1) dX4_bestOthers_19 (by decide) ?_
    refine g_iadd (pc := 20) K dX4_bestOthers_20 ?_
    refine g_istore (pc := 21) K dX4_bestOthers_21 (by decide) ?_
    change G X 23 [.ref (X.B + 64), .int a1, .int r1, .int (0), .int (r1 + (1)), .null, .null, .null] [] s2 _
    refine g_aload_n (pc := 23) K 0 dX4_bestOthers_23 rfl rfl ?_
    refine g_iconst (pc := 24) K (0) dX4_bestOthers_24 (by decide) ?_
    refine g_iload_n (pc := 25) K 1 dX4_bestOthers_25 rfl rfl ?_
    refine g_callV (pc := 26) (S := []) K (qX4_number X.E (0) a1) (by decide) (ci := 4) rfl (fun _ => ⟨_, ce_4 kd_64⟩) (by decide) (by decide) wcX4_number wiX4 kX4_23 wmX4_number weX4_number hyX4_number rfl rfl (Nat.le_of_ble_eq_true rfl) dX4_bestOthers_26 (fun r3 s4 => ?_)
    change G X 29 [.ref (X.B + 64), .int a1, .int r1, .int (0), .int (r1 + (1)), .null, .null, .null] [.int r3] s4 _
    refine g_istore (pc := 29) K dX4_bestOthers_29 (by decide) ?_
    change G X 31 [.ref (X.B + 64), .int a1, .int r1, .int (0), .int (r1 + (1)), .int r3, .null, .null] [] s4 _
    refine g_iconst (pc := 31) K (0) dX4_bestOthers_31 (by decide) ?_
    refine g_istore (pc := 32) K dX4_bestOthers_32 (by decide) ?_
    change G X 34 [.ref (X.B + 64), .int a1, .int r1, .int (0), .int (r1 + (1)), .int r3, .int (0), .null] [] s4 _
    refine g_weak (L' := [.ref (X.B + 64), .int a1, .int r1, .int (0), .int (r1 + (1)), .int r3, .int (0), .null]) ⟨rfl, ⟨rfl, ⟨rfl, ⟨rfl, ⟨rfl, ⟨rfl, ⟨rfl, trivial⟩⟩⟩⟩⟩⟩⟩ ?_
    refine tM_X4_bestOthers_L34 K hR a1 r1 _ (fun v11 s12 => ?_) 400 (0) (r1 + (1)) r3 (0) s4
    refine g_iload_n (pc := 88) K 3 dX4_bestOthers_88 rfl rfl ?_
    exact g_ir (pc := 89) hR dX4_bestOthers_89
  · refine g_bipush (pc := 13) K (-9) dX4_bestOthers_13 (by decide) ?_
    exact g_ir (pc := 15) hR dX4_bestOthers_15
theorem qX4_bestOthers (E : Ce) (a1 : Int32) : Con E yX4_bestOthers cX4_bestOthers 8 (some .int) 3 [.ref (E.B + 64), .int a1] (M_X4_bestOthers a1) :=
  Con.of (by decide) (List.forall_mem_cons.mpr ⟨rfl, List.forall_mem_cons.mpr ⟨rfl, fun _ h => absurd h List.not_mem_nil⟩⟩) (Nat.le_of_ble_eq_true rfl) (Or.inr (Or.inl rfl)) [.ref (E.B + 64), .int a1, .null, .null, .null, .null, .null, .null] ⟨rfl, ⟨rfl, trivial⟩⟩ (fun X s hE hok hI hZ hV => by subst hE; exact tX4_bestOthers hok (hI rfl) a1 s)
