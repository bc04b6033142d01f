theorem hyX5_add : yX5_add.cls ≠ "java/lang/invoke/MethodHandle" ∧ yX5_add.cls ≠ "java/lang/invoke/VarHandle" ∧ (parseMethodDescriptor yX5_add.desc).map (fun d => d.parameters.length) = some 1 := by decide +kernel
set_option maxRecDepth 20000 in
set_option maxHeartbeats 4000000 in
theorem tX5_add {X : Cx} (K : Ok X cX5_add RX5 2 1) (hR : RZ X cX5_add) (a1 : Int32) (s : St) : G X 0 [.ref (X.B + 1), .int a1] [] s (M_X5_add a1 s) := by
  unfold M_X5_add
  refine g_aload_n (pc := 0) K 0 dX5_add_0 rfl rfl ?_
  refine gg_5_1 (pc := 1) K (by decide) kd_1 kX5_15 dX5_add_1 ?_
  refine g_sipush (pc := 4) K (140) dX5_add_4 (by decide) ?_
  refine g_icmp_lt (pc := 7) K 12 dX5_add_7 (by decide) ?_ ?_
  · refine g_aload_n (pc := 12) K 0 dX5_add_12 rfl rfl ?_
    refine gg_5_0 (pc := 13) K (by decide) kd_1 kX5_9 dX5_add_13 ?_
    refine g_aload_n (pc := 16) K 0 dX5_add_16 rfl rfl ?_
    refine gg_5_1 (pc := 17) K (by decide) kd_1 kX5_15 dX5_add_17 ?_
    refine g_iload_n (pc := 20) K 1 dX5_add_20 rfl rfl ?_
    refine g_i2c (pc := 21) K dX5_add_21 ?_
    refine g_castore (pc := 22) K (by decide) kd_2 ln_2 dX5_add_22 (fun s1 => ?_)
    refine g_aload_n (pc := 23) K 0 dX5_add_23 rfl rfl ?_
    refine g_dup (pc := 24) K dX5_add_24 rfl ?_
    refine gg_5_1 (pc := 25) K (by decide) kd_1 kX5_15 dX5_add_25 ?_
    refine g_iconst (pc := 28) K (1) dX5_add_28 (by decide) ?_
    refine g_iadd (pc := 29) K dX5_add_29 ?_
    refine gp_5_1 (pc := 30) K (by decide) kd_1 kX5_15 dX5_add_30 (fun s2 => ?_)
    refine g_iconst (pc := 33) K (1) dX5_add_33 (by decide) ?_
    exact g_zr1 (pc := 34) hR dX5_add_34
  · refine g_iconst (pc := 10) K (0) dX5_add_10 (by decide) ?_
    exact g_zr0 (pc := 11) hR dX5_add_11
theorem qX5_add (E : Ce) (a1 : Int32) : Con E yX5_add cX5_add 2 (some .boolean) 1 [.ref (E.B + 1), .int a1] (M_X5_add a1) :=
  Con.of (by decide) (List.forall_mem_cons.mpr ⟨rfl, List.forall_mem_cons.mpr ⟨rfl, fun _ h => absurd h List.not_mem_nil⟩⟩) (Nat.le_of_ble_eq_true rfl) (Or.inr (Or.inr rfl)) [.ref (E.B + 1), .int a1] ⟨rfl, ⟨rfl, trivial⟩⟩ (fun X s hE hok hI hZ hV => by subst hE; exact tX5_add hok (hZ rfl) a1 s)
theorem hyX5_isDigit : yX5_isDigit.cls ≠ "java/lang/invoke/MethodHandle" ∧ yX5_isDigit.cls ≠ "java/lang/invoke/VarHandle" ∧ (parseMethodDescriptor yX5_isDigit.desc).map (fun d => d.parameters.length) = some 1 := by decide +kernel
set_option maxRecDepth 20000 in
set_option maxHeartbeats 4000000 in
theorem tX5_isDigit {X : Cx} (K : Ok X cX5_isDigit RX5 1 1) (hR : RZ X cX5_isDigit) (a0 : Int32) (s : St) : G X 0 [.int a0] [] s (M_X5_isDigit a0 s) := by
  unfold M_X5_isDigit
  refine g_iload_n (pc := 0) K 0 dX5_isDigit_0 rfl rfl ?_
  refine g_bipush (pc := 1) K (48) dX5_isDigit_1 (by decide) ?_
  refine g_icmp_lt (pc := 3) K 16 dX5_isDigit_3 (by decide) ?_ ?_
  · refine g_iconst (pc := 16) K (0) dX5_isDigit_16 (by decide) ?_
    exact g_zr0 (pc := 17) hR dX5_isDigit_17
  · refine g_iload_n (pc := 6) K 0 dX5_isDigit_6 rfl rfl ?_
    refine g_bipush (pc := 7) K (57) dX5_isDigit_7 (by decide) ?_
    refine g_icmp_gt (pc := 9) K 16 dX5_isDigit_9 (by decide) ?_ ?_
    · refine g_iconst (pc := 16) K (0) dX5_isDigit_16 (by decide) ?_
      exact g_zr0 (pc := 17) hR dX5_isDigit_17
    · refine g_iconst (pc := 12) K (1) dX5_isDigit_12 (by decide) ?_
      refine g_goto (pc := 13) K 17 dX5_isDigit_13 (by decide) ?_
      exact g_zr1 (pc := 17) hR dX5_isDigit_17
theorem qX5_isDigit (E : Ce) (a0 : Int32) : Con E yX5_isDigit cX5_isDigit 1 (some .boolean) 1 [.int a0] (M_X5_isDigit a0) :=
  Con.of (by decide) (List.forall_mem_cons.mpr ⟨rfl, fun _ h => absurd h List.not_mem_nil⟩) (Nat.le_of_ble_eq_true rfl) (Or.inr (Or.inr rfl)) [.int a0] ⟨rfl, trivial⟩ (fun X s hE hok hI hZ hV => by subst hE; exact tX5_isDigit hok (hZ rfl) a0 s)
theorem hyX5_stepOverNumber : yX5_stepOverNumber.cls ≠ "java/lang/invoke/MethodHandle" ∧ yX5_stepOverNumber.cls ≠ "java/lang/invoke/VarHandle" ∧ (parseMethodDescriptor yX5_stepOverNumber.desc).map (fun d => d.parameters.length) = some 0 := by decide +kernel
set_option maxRecDepth 20000 in
set_option maxHeartbeats 4000000 in
theorem tM_X5_stepOverNumber_L5 {X : Cx} (K : Ok X cX5_stepOverNumber RX5 2 2) (hR : RV X cX5_stepOverNumber) (kk : St → Option (Int32 × St)) (hkk : ∀ (s : St), G X 73 [.ref (X.B + 1), .null] [] s (kk s)) : ∀ (fu : Nat) (s : St), G X 5 [.ref (X.B + 1), .null] [] s (M_X5_stepOverNumber_L5 kk fu s) := by
  intro fu
  induction fu with
  | zero => intro  s; exact g_none
  | succ fu ih =>
    intro  s
    rw [M_X5_stepOverNumber_L5]
    refine g_aload_n (pc := 5) K 0 dX5_stepOverNumber_5 rfl rfl ?_
    refine gg_5_2 (pc := 6) K (by decide) kd_1 kX5_19 dX5_stepOverNumber_6 ?_
    refine g_aload_n (pc := 9) K 0 dX5_stepOverNumber_9 rfl rfl ?_
    refine gg_5_1 (pc := 10) K (by decide) kd_1 kX5_15 dX5_stepOverNumber_10 ?_
    refine g_icmp_ge (pc := 13) K 73 dX5_stepOverNumber_13 (by decide) ?_ ?_
    · exact g_wk (hkk  s) ⟨rfl, trivial⟩
    · refine g_aload_n (pc := 16) K 0 dX5_stepOverNumber_16 rfl rfl ?_
      refine gg_5_0 (pc := 17) K (by decide) kd_1 kX5_9 dX5_stepOverNumber_17 ?_
      refine g_aload_n (pc := 20) K 0 dX5_stepOverNumber_20 rfl rfl ?_
      refine gg_5_2 (pc := 21) K (by decide) kd_1 kX5_19 dX5_stepOverNumber_21 ?_
      refine g_caload (pc := 24) K (by decide) kd_2 ln_2 dX5_stepOverNumber_24 (fun v2 => ?_)
      refine g_callS (pc := 25) (S := []) K (qX5_isDigit X.E v2) (by decide) (by decide) wcX5_isDigit wiX5 kX5_67 wtX5_isDigit hyX5_isDigit rfl rfl (Nat.le_of_ble_eq_true rfl) dX5_stepOverNumber_25 (fun r3 s4 => ?_)
      change G X 28 [.ref (X.B + 1), .null] [.int r3] s4 _
      refine g_if_eq (pc := 28) K 73 dX5_stepOverNumber_28 (by decide) ?_ ?_
      · exact g_wk (hkk  s4) ⟨rfl, trivial⟩
      · refine g_aload_n (pc := 31) K 0 dX5_stepOverNumber_31 rfl rfl ?_
        refine g_aload_n (pc := 32) K 0 dX5_stepOverNumber_32 rfl rfl ?_
        refine gg_5_5 (pc := 33) K (by decide) kd_1 kX5_61 dX5_stepOverNumber_33 ?_
        refine g_bipush (pc := 36) K (10) dX5_stepOverNumber_36 (by decide) ?_
        refine g_imul (pc := 38) K dX5_stepOverNumber_38 ?_
        refine g_aload_n (pc := 39) K 0 dX5_stepOverNumber_39 rfl rfl ?_
        refine gg_5_0 (pc := 40) K (by decide) kd_1 kX5_9 dX5_stepOverNumber_40 ?_
        refine g_aload_n (pc := 43) K 0 dX5_stepOverNumber_43 rfl rfl ?_
        refine gg_5_2 (pc := 44) K (by decide) kd_1 kX5_19 dX5_stepOverNumber_44 ?_
        refine g_caload (pc := 47) K (by decide) kd_2 ln_2 dX5_stepOverNumber_47 (fun v5 => ?_)
        refine g_bipush (pc := 48) K (48) dX5_stepOverNumber_48 (by decide) ?_
        refine g_isub (pc := 50) K dX5_stepOverNumber_50 ?_
        refine g_iadd (pc := 51) K dX5_stepOverNumber_51 ?_
        refine g_bipush (pc := 52) K (100) dX5_stepOverNumber_52 (by decide) ?_
        refine g_mmin (pc := 54) K (by omega) kX5_74 (Nat.le_of_ble_eq_true rfl) dX5_stepOverNumber_54 ?_
        refine gp_5_5 (pc := 57) K (by decide) kd_1 kX5_61 dX5_stepOverNumber_57 (fun s6 => ?_)
        refine g_aload_n (pc := 60) K 0 dX5_stepOverNumber_60 rfl rfl ?_
        refine g_dup (pc := 61) K dX5_stepOverNumber_61 rfl ?_
        refine gg_5_2 (pc := 62) K (by decide) kd_1 kX5_19 dX5_stepOverNumber_62 ?_
        refine g_iconst (pc := 65) K (1) dX5_stepOverNumber_65 (by decide) ?_
        refine g_iadd (pc := 66) K dX5_stepOverNumber_66 ?_
        refine gp_5_2 (pc := 67) K (by decide) kd_1 kX5_19 dX5_stepOverNumber_67 (fun s7 => ?_)
        refine g_goto (pc := 70) K 5 dX5_stepOverNumber_70 (by decide) ?_
        exact g_wk (ih  s7) ⟨rfl, trivial⟩
set_option maxRecDepth 20000 in
set_option maxHeartbeats 4000000 in
theorem tX5_stepOverNumber {X : Cx} (K : Ok X cX5_stepOverNumber RX5 2 2) (hR : RV X cX5_stepOverNumber) (s : St) : G X 0 [.ref (X.B + 1), .null] [] s (M_X5_stepOverNumber s) := by
  unfold M_X5_stepOverNumber
  refine g_aload_n (pc := 0) K 0 dX5_stepOverNumber_0 rfl rfl ?_
  refine g_iconst (pc := 1) K (0) dX5_stepOverNumber_1 (by decide) ?_
  refine gp_5_5 (pc := 2) K (by decide) kd_1 kX5_61 dX5_stepOverNumber_2 (fun s1 => ?_)
  refine g_weak (L' := [.ref (X.B + 1), .null]) ⟨rfl, trivial⟩ ?_
  refine tM_X5_stepOverNumber_L5 K hR  _ (fun s8 => ?_) 400  s1
  refine g_aload_n (pc := 73) K 0 dX5_stepOverNumber_73 rfl rfl ?_
  refine gg_5_0 (pc := 74) K (by decide) kd_1 kX5_9 dX5_stepOverNumber_74 ?_
  refine g_aload_n (pc := 77) K 0 dX5_stepOverNumber_77 rfl rfl ?_
  refine gg_5_3 (pc := 78) K (by decide) kd_1 kX5_64 dX5_stepOverNumber_78 ?_
  refine g_caload (pc := 81) K (by decide) kd_2 ln_2 dX5_stepOverNumber_81 (fun v9 => ?_)
  refine g_bipush (pc := 82) K (48) dX5_stepOverNumber_82 (by decide) ?_
  refine g_jn (κ := Int32 → St → Option (Int32 × St)) (fun kj10 => ∀ (v11 : Int32) (s12 : St), G X 105 [.ref (X.B + 1), .null] [.int v11] s12 (kj10 v11 s12)) (fun v11 s12 => ?_) (fun kj10 hkj10 => ?_)
  · refine g_istore_n (pc := 105) K 1 dX5_stepOverNumber_105 rfl (by decide) ?_
    change G X 106 [.ref (X.B + 1), .int v11] [] s12 _
    refine g_aload_n (pc := 106) K 0 dX5_stepOverNumber_106 rfl rfl ?_
    refine g_iload_n (pc := 107) K 1 dX5_stepOverNumber_107 rfl rfl ?_
    refine g_jn (κ := Int32 → St → Option (Int32 × St)) (fun kj13 => ∀ (v14 : Int32) (s15 : St), G X 125 [.null, .null] [.int v14, .ref (X.B + 1)] s15 (kj13 v14 s15)) (fun v14 s15 => ?_) (fun kj13 hkj13 => ?_)
    · refine gp_5_4 (pc := 125) K (by decide) kd_1 kX5_30 dX5_stepOverNumber_125 (fun s16 => ?_)
      exact g_vr (pc := 128) hR dX5_stepOverNumber_128
    · refine g_if_ne (pc := 108) K 120 dX5_stepOverNumber_108 (by decide) ?_ ?_
      · refine g_iconst (pc := 120) K (4) dX5_stepOverNumber_120 (by decide) ?_
        refine g_goto (pc := 121) K 125 dX5_stepOverNumber_121 (by decide) ?_
        exact g_wk (hkj13 (4) s12) trivial
      · refine g_aload_n (pc := 111) K 0 dX5_stepOverNumber_111 rfl rfl ?_
        refine gg_5_5 (pc := 112) K (by decide) kd_1 kX5_61 dX5_stepOverNumber_112 ?_
        refine g_bipush (pc := 115) K (99) dX5_stepOverNumber_115 (by decide) ?_
        refine g_icmp_le (pc := 117) K 124 dX5_stepOverNumber_117 (by decide) ?_ ?_
        · refine g_iconst (pc := 124) K (2) dX5_stepOverNumber_124 (by decide) ?_
          exact g_wk (hkj13 (2) s12) trivial
        · refine g_iconst (pc := 120) K (4) dX5_stepOverNumber_120 (by decide) ?_
          refine g_goto (pc := 121) K 125 dX5_stepOverNumber_121 (by decide) ?_
          exact g_wk (hkj13 (4) s12) trivial
  · refine g_icmp_ne (pc := 84) K 104 dX5_stepOverNumber_84 (by decide) ?_ ?_
    · refine g_iconst (pc := 104) K (0) dX5_stepOverNumber_104 (by decide) ?_
      exact g_wk (hkj10 (0) s8) ⟨rfl, trivial⟩
    · refine g_aload_n (pc := 87) K 0 dX5_stepOverNumber_87 rfl rfl ?_
      refine gg_5_2 (pc := 88) K (by decide) kd_1 kX5_19 dX5_stepOverNumber_88 ?_
      refine g_aload_n (pc := 91) K 0 dX5_stepOverNumber_91 rfl rfl ?_
      refine gg_5_3 (pc := 92) K (by decide) kd_1 kX5_64 dX5_stepOverNumber_92 ?_
      refine g_isub (pc := 95) K dX5_stepOverNumber_95 ?_
      refine g_iconst (pc := 96) K (1) dX5_stepOverNumber_96 (by decide) ?_
      refine g_icmp_le (pc := 97) K 104 dX5_stepOverNumber_97 (by decide) ?_ ?_
      · refine g_iconst (pc := 104) K (0) dX5_stepOverNumber_104 (by decide) ?_
        exact g_wk (hkj10 (0) s8) ⟨rfl, trivial⟩
      · refine g_iconst (pc := 100) K (1) dX5_stepOverNumber_100 (by decide) ?_
        refine g_goto (pc := 101) K 105 dX5_stepOverNumber_101 (by decide) ?_
        exact g_wk (hkj10 (1) s8) ⟨rfl, trivial⟩
theorem qX5_stepOverNumber (E : Ce) : Con E yX5_stepOverNumber cX5_stepOverNumber 2 none 2 [.ref (E.B + 1)] (M_X5_stepOverNumber) :=
  Con.of (by decide) (List.forall_mem_cons.mpr ⟨rfl, fun _ h => absurd h List.not_mem_nil⟩) (Nat.le_of_ble_eq_true rfl) (Or.inl rfl) [.ref (E.B + 1), .null] ⟨rfl, trivial⟩ (fun X s hE hok hI hZ hV => by subst hE; exact tX5_stepOverNumber hok (hV rfl) s)
theorem hyX5_step : yX5_step.cls ≠ "java/lang/invoke/MethodHandle" ∧ yX5_step.cls ≠ "java/lang/invoke/VarHandle" ∧ (parseMethodDescriptor yX5_step.desc).map (fun d => d.parameters.length) = some 0 := by decide +kernel
set_option maxRecDepth 20000 in
set_option maxHeartbeats 4000000 in
theorem tM_X5_step_L0 {X : Cx} (K : Ok X cX5_step RX5 1 3) (hR : RV X cX5_step) (kk : St → Option (Int32 × St)) (hkk : ∀ (s : St), G X 38 [.ref (X.B + 1)] [] s (kk s)) : ∀ (fu : Nat) (s : St), G X 0 [.ref (X.B + 1)] [] s (M_X5_step_L0 kk fu s) := by
  intro fu
  induction fu with
  | zero => intro  s; exact g_none
  | succ fu ih =>
    intro  s
    rw [M_X5_step_L0]
    refine g_aload_n (pc := 0) K 0 dX5_step_0 rfl rfl ?_
    refine gg_5_2 (pc := 1) K (by decide) kd_1 kX5_19 dX5_step_1 ?_
    refine g_aload_n (pc := 4) K 0 dX5_step_4 rfl rfl ?_
    refine gg_5_1 (pc := 5) K (by decide) kd_1 kX5_15 dX5_step_5 ?_
    refine g_icmp_ge (pc := 8) K 38 dX5_step_8 (by decide) ?_ ?_
    · exact g_wk (hkk  s) ⟨rfl, trivial⟩
    · refine g_aload_n (pc := 11) K 0 dX5_step_11 rfl rfl ?_
      refine gg_5_0 (pc := 12) K (by decide) kd_1 kX5_9 dX5_step_12 ?_
      refine g_aload_n (pc := 15) K 0 dX5_step_15 rfl rfl ?_
      refine gg_5_2 (pc := 16) K (by decide) kd_1 kX5_19 dX5_step_16 ?_
      refine g_caload (pc := 19) K (by decide) kd_2 ln_2 dX5_step_19 (fun v1 => ?_)
      refine g_bipush (pc := 20) K (32) dX5_step_20 (by decide) ?_
      refine g_icmp_ne (pc := 22) K 38 dX5_step_22 (by decide) ?_ ?_
      · exact g_wk (hkk  s) ⟨rfl, trivial⟩
      · refine g_aload_n (pc := 25) K 0 dX5_step_25 rfl rfl ?_
        refine g_dup (pc := 26) K dX5_step_26 rfl ?_
        refine gg_5_2 (pc := 27) K (by decide) kd_1 kX5_19 dX5_step_27 ?_
        refine g_iconst (pc := 30) K (1) dX5_step_30 (by decide) ?_
        refine g_iadd (pc := 31) K dX5_step_31 ?_
        refine gp_5_2 (pc := 32) K (by decide) kd_1 kX5_19 dX5_step_32 (fun s2 => ?_)
        refine g_goto (pc := 35) K 0 dX5_step_35 (by decide) ?_
        exact g_wk (ih  s2) ⟨rfl, trivial⟩
set_option maxRecDepth 20000 in
set_option maxHeartbeats 4000000 in
theorem tX5_step {X : Cx} (K : Ok X cX5_step RX5 1 3) (hR : RV X cX5_step) (s : St) : G X 0 [.ref (X.B + 1)] [] s (M_X5_step s) := by
  unfold M_X5_step
  refine g_weak (L' := [.ref (X.B + 1)]) ⟨rfl, trivial⟩ ?_
  refine tM_X5_step_L0 K hR  _ (fun s3 => ?_) 400  s
  refine g_aload_n (pc := 38) K 0 dX5_step_38 rfl rfl ?_
  refine g_aload_n (pc := 39) K 0 dX5_step_39 rfl rfl ?_
  refine gg_5_2 (pc := 40) K (by decide) kd_1 kX5_19 dX5_step_40 ?_
  refine gp_5_3 (pc := 43) K (by decide) kd_1 kX5_64 dX5_step_43 (fun s4 => ?_)
  refine g_aload_n (pc := 46) K 0 dX5_step_46 rfl rfl ?_
  refine gg_5_2 (pc := 47) K (by decide) kd_1 kX5_19 dX5_step_47 ?_
  refine g_aload_n (pc := 50) K 0 dX5_step_50 rfl rfl ?_
  refine gg_5_1 (pc := 51) K (by decide) kd_1 kX5_15 dX5_step_51 ?_
  refine g_icmp_lt (pc := 54) K 65 dX5_step_54 (by decide) ?_ ?_
  · refine g_aload_n (pc := 65) K 0 dX5_step_65 rfl rfl ?_
    refine gg_5_0 (pc := 66) K (by decide) kd_1 kX5_9 dX5_step_66 ?_
    refine g_aload_n (pc := 69) K 0 dX5_step_69 rfl rfl ?_
    refine gg_5_2 (pc := 70) K (by decide) kd_1 kX5_19 dX5_step_70 ?_
    refine g_caload (pc := 73) K (by decide) kd_2 ln_2 dX5_step_73 (fun v5 => ?_)
    refine g_callS (pc := 74) (S := []) K (qX5_isDigit X.E v5) (by decide) (by decide) wcX5_isDigit wiX5 kX5_67 wtX5_isDigit hyX5_isDigit rfl rfl (Nat.le_of_ble_eq_true rfl) dX5_step_74 (fun r6 s7 => ?_)
    change G X 77 [.ref (X.B + 1)] [.int r6] s7 _
    refine g_if_eq (pc := 77) K 87 dX5_step_77 (by decide) ?_ ?_
    · refine g_aload_n (pc := 87) K 0 dX5_step_87 rfl rfl ?_
      refine g_aload_n (pc := 88) K 0 dX5_step_88 rfl rfl ?_
      refine gg_5_0 (pc := 89) K (by decide) kd_1 kX5_9 dX5_step_89 ?_
      refine g_aload_n (pc := 92) K 0 dX5_step_92 rfl rfl ?_
      refine gg_5_2 (pc := 93) K (by decide) kd_1 kX5_19 dX5_step_93 ?_
      refine g_caload (pc := 96) K (by decide) kd_2 ln_2 dX5_step_96 (fun v8 => ?_)
      refine g_bipush (pc := 97) K (102) dX5_step_97 (by decide) ?_
      refine g_jn (κ := Int32 → St → Option (Int32 × St)) (fun kj9 => ∀ (v10 : Int32) (s11 : St), G X 125 [.ref (X.B + 1)] [.int v10, .ref (X.B + 1)] s11 (kj9 v10 s11)) (fun v10 s11 => ?_) (fun kj9 hkj9 => ?_)
      · refine gp_5_4 (pc := 125) K (by decide) kd_1 kX5_30 dX5_step_125 (fun s12 => ?_)
        refine g_aload_n (pc := 128) K 0 dX5_step_128 rfl rfl ?_
        refine g_dup (pc := 129) K dX5_step_129 rfl ?_
        refine gg_5_2 (pc := 130) K (by decide) kd_1 kX5_19 dX5_step_130 ?_
        refine g_iconst (pc := 133) K (1) dX5_step_133 (by decide) ?_
        refine g_iadd (pc := 134) K dX5_step_134 ?_
        refine gp_5_2 (pc := 135) K (by decide) kd_1 kX5_19 dX5_step_135 (fun s13 => ?_)
        exact g_vr (pc := 138) hR dX5_step_138
      · refine g_icmp_ne (pc := 99) K 106 dX5_step_99 (by decide) ?_ ?_
        · refine g_aload_n (pc := 106) K 0 dX5_step_106 rfl rfl ?_
          refine gg_5_0 (pc := 107) K (by decide) kd_1 kX5_9 dX5_step_107 ?_
          refine g_aload_n (pc := 110) K 0 dX5_step_110 rfl rfl ?_
          refine gg_5_2 (pc := 111) K (by decide) kd_1 kX5_19 dX5_step_111 ?_
          refine g_caload (pc := 114) K (by decide) kd_2 ln_2 dX5_step_114 (fun v14 => ?_)
          refine g_bipush (pc := 115) K (59) dX5_step_115 (by decide) ?_
          refine g_icmp_ne (pc := 117) K 124 dX5_step_117 (by decide) ?_ ?_
          · refine g_iconst (pc := 124) K (4) dX5_step_124 (by decide) ?_
            exact g_wk (hkj9 (4) s7) ⟨rfl, trivial⟩
          · refine g_iconst (pc := 120) K (3) dX5_step_120 (by decide) ?_
            refine g_goto (pc := 121) K 125 dX5_step_121 (by decide) ?_
            exact g_wk (hkj9 (3) s7) ⟨rfl, trivial⟩
        · refine g_iconst (pc := 102) K (1) dX5_step_102 (by decide) ?_
          refine g_goto (pc := 103) K 125 dX5_step_103 (by decide) ?_
          exact g_wk (hkj9 (1) s7) ⟨rfl, trivial⟩
    · refine g_aload_n (pc := 80) K 0 dX5_step_80 rfl rfl ?_
      refine g_callV (pc := 81) (S := []) K (qX5_stepOverNumber X.E ) (by decide) (ci := 5) rfl (fun _ => ⟨_, ce_5 kd_1⟩) (by decide) (by decide) wcX5_stepOverNumber wiX5 kX5_71 wmX5_stepOverNumber weX5_stepOverNumber hyX5_stepOverNumber rfl rfl (Nat.le_of_ble_eq_true rfl) dX5_step_81 (fun r15 s16 => ?_)
      change G X 84 [.ref (X.B + 1)] [] s16 _
      refine g_goto (pc := 84) K 138 dX5_step_84 (by decide) ?_
      exact g_vr (pc := 138) hR dX5_step_138
  · refine g_aload_n (pc := 57) K 0 dX5_step_57 rfl rfl ?_
    refine g_iconst (pc := 58) K (0) dX5_step_58 (by decide) ?_
    refine gp_5_4 (pc := 59) K (by decide) kd_1 kX5_30 dX5_step_59 (fun s17 => ?_)
    refine g_goto (pc := 62) K 138 dX5_step_62 (by decide) ?_
    exact g_vr (pc := 138) hR dX5_step_138
theorem qX5_step (E : Ce) : Con E yX5_step cX5_step 1 none 3 [.ref (E.B + 1)] (M_X5_step) :=
  Con.of (by decide) (List.forall_mem_cons.mpr ⟨rfl, fun _ h => absurd h List.not_mem_nil⟩) (Nat.le_of_ble_eq_true rfl) (Or.inl rfl) [.ref (E.B + 1)] ⟨rfl, trivial⟩ (fun X s hE hok hI hZ hV => by subst hE; exact tX5_step hok (hV rfl) s)
theorem hyX5_tellsNumber : yX5_tellsNumber.cls ≠ "java/lang/invoke/MethodHandle" ∧ yX5_tellsNumber.cls ≠ "java/lang/invoke/VarHandle" ∧ (parseMethodDescriptor yX5_tellsNumber.desc).map (fun d => d.parameters.length) = some 4 := by decide +kernel
set_option maxRecDepth 20000 in
set_option maxHeartbeats 4000000 in
theorem tX5_tellsNumber {X : Cx} (K : Ok X cX5_tellsNumber RX5 5 4) (hR : RZ X cX5_tellsNumber) (k1 : Nat) (hk1 : Ar6 k1) (a2 : Int32) (a3 : Int32) (a4 : Int32) (s : St) : G X 0 [.ref (X.B + 1), .ref (X.B + k1), .int a2, .int a3, .int a4] [] s (M_X5_tellsNumber k1 a2 a3 a4 s) := by
  unfold M_X5_tellsNumber
  refine g_aload_n (pc := 0) K 0 dX5_tellsNumber_0 rfl rfl ?_
  refine g_callV (pc := 1) (S := []) K (qX5_step X.E ) (by decide) (ci := 5) rfl (fun _ => ⟨_, ce_5 kd_1⟩) (by decide) (by decide) wcX5_step wiX5 kX5_27 wmX5_step weX5_step hyX5_step rfl rfl (Nat.le_of_ble_eq_true rfl) dX5_tellsNumber_1 (fun r1 s2 => ?_)
  change G X 4 [.ref (X.B + 1), .ref (X.B + k1), .int a2, .int a3, .int a4] [] s2 _
  refine g_aload_n (pc := 4) K 0 dX5_tellsNumber_4 rfl rfl ?_
  refine gg_5_4 (pc := 5) K (by decide) kd_1 kX5_30 dX5_tellsNumber_5 ?_
  refine g_iconst (pc := 8) K (2) dX5_tellsNumber_8 (by decide) ?_
  refine g_icmp_ne (pc := 9) K 29 dX5_tellsNumber_9 (by decide) ?_ ?_
  · refine g_iconst (pc := 29) K (0) dX5_tellsNumber_29 (by decide) ?_
    exact g_zr0 (pc := 30) hR dX5_tellsNumber_30
  · refine g_aload_n (pc := 12) K 0 dX5_tellsNumber_12 rfl rfl ?_
    refine gg_5_5 (pc := 13) K (by decide) kd_1 kX5_61 dX5_tellsNumber_13 ?_
    refine g_iload_n (pc := 16) K 3 dX5_tellsNumber_16 rfl rfl ?_
    refine g_icmp_lt (pc := 17) K 29 dX5_tellsNumber_17 (by decide) ?_ ?_
    · refine g_iconst (pc := 29) K (0) dX5_tellsNumber_29 (by decide) ?_
      exact g_zr0 (pc := 30) hR dX5_tellsNumber_30
    · refine g_aload_n (pc := 20) K 0 dX5_tellsNumber_20 rfl rfl ?_
      refine gg_5_5 (pc := 21) K (by decide) kd_1 kX5_61 dX5_tellsNumber_21 ?_
      refine g_iload (pc := 24) K dX5_tellsNumber_24 rfl ?_
      refine g_icmp_le (pc := 26) K 31 dX5_tellsNumber_26 (by decide) ?_ ?_
      · refine g_aload_n (pc := 31) K 1 dX5_tellsNumber_31 rfl rfl ?_
        refine g_iload_n (pc := 32) K 2 dX5_tellsNumber_32 rfl rfl ?_
        refine g_aload_n (pc := 33) K 0 dX5_tellsNumber_33 rfl rfl ?_
        refine gg_5_5 (pc := 34) K (by decide) kd_1 kX5_61 dX5_tellsNumber_34 ?_
        refine g_iastore (pc := 37) K hk1.1 hk1.2.1 hk1.2.2 dX5_tellsNumber_37 (fun s3 => ?_)
        refine g_iconst (pc := 38) K (1) dX5_tellsNumber_38 (by decide) ?_
        exact g_zr1 (pc := 39) hR dX5_tellsNumber_39
      · refine g_iconst (pc := 29) K (0) dX5_tellsNumber_29 (by decide) ?_
        exact g_zr0 (pc := 30) hR dX5_tellsNumber_30
theorem qX5_tellsNumber (E : Ce) (k1 : Nat) (hk1 : Ar6 k1) (a2 : Int32) (a3 : Int32) (a4 : Int32) : Con E yX5_tellsNumber cX5_tellsNumber 5 (some .boolean) 4 [.ref (E.B + 1), .ref (E.B + k1), .int a2, .int a3, .int a4] (M_X5_tellsNumber k1 a2 a3 a4) :=
  Con.of (by decide) (List.forall_mem_cons.mpr ⟨rfl, List.forall_mem_cons.mpr ⟨rfl, List.forall_mem_cons.mpr ⟨rfl, List.forall_mem_cons.mpr ⟨rfl, List.forall_mem_cons.mpr ⟨rfl, fun _ h => absurd h List.not_mem_nil⟩⟩⟩⟩⟩) (Nat.le_of_ble_eq_true rfl) (Or.inr (Or.inr rfl)) [.ref (E.B + 1), .ref (E.B + k1), .int a2, .int a3, .int a4] ⟨rfl, ⟨rfl, ⟨rfl, ⟨rfl, ⟨rfl, trivial⟩⟩⟩⟩⟩ (fun X s hE hok hI hZ hV => by subst hE; exact tX5_tellsNumber hok (hZ rfl) k1 hk1 a2 a3 a4 s)
theorem hyX5_tellsOne : yX5_tellsOne.cls ≠ "java/lang/invoke/MethodHandle" ∧ yX5_tellsOne.cls ≠ "java/lang/invoke/VarHandle" ∧ (parseMethodDescriptor yX5_tellsOne.desc).map (fun d => d.parameters.length) = some 2 := by decide +kernel
set_option maxRecDepth 20000 in
set_option maxHeartbeats 4000000 in
theorem tX5_tellsOne {X : Cx} (K : Ok X cX5_tellsOne RX5 4 5) (hR : RZ X cX5_tellsOne) (k1 : Nat) (hk1 : Frm k1) (a2 : Int32) (s : St) : G X 0 [.ref (X.B + 1), .ref (X.B + k1), .int a2, .null] [] s (M_X5_tellsOne k1 a2 s) := by
  unfold M_X5_tellsOne
  refine g_aload_n (pc := 0) K 0 dX5_tellsOne_0 rfl rfl ?_
  refine gg_5_4 (pc := 1) K (by decide) kd_1 kX5_30 dX5_tellsOne_1 ?_
  refine g_iconst (pc := 4) K (1) dX5_tellsOne_4 (by decide) ?_
  refine g_jn (κ := Int32 → St → Option (Int32 × St)) (fun kj1 => ∀ (v2 : Int32) (s3 : St), G X 97 [.ref (X.B + 1), .null, .null, .null] [.int v2] s3 (kj1 v2 s3)) (fun v2 s3 => ?_) (fun kj1 hkj1 => ?_)
  · refine g_istore_n (pc := 97) K 3 dX5_tellsOne_97 rfl (by decide) ?_
    change G X 98 [.ref (X.B + 1), .null, .null, .int v2] [] s3 _
    refine g_iload_n (pc := 98) K 3 dX5_tellsOne_98 rfl rfl ?_
    refine g_if_ne (pc := 99) K 104 dX5_tellsOne_99 (by decide) ?_ ?_
    · refine g_aload_n (pc := 104) K 0 dX5_tellsOne_104 rfl rfl ?_
      refine g_callV (pc := 105) (S := []) K (qX5_step X.E ) (by decide) (ci := 5) rfl (fun _ => ⟨_, ce_5 kd_1⟩) (by decide) (by decide) wcX5_step wiX5 kX5_27 wmX5_step weX5_step hyX5_step rfl rfl (Nat.le_of_ble_eq_true rfl) dX5_tellsOne_105 (fun r4 s5 => ?_)
      change G X 108 [.ref (X.B + 1), .null, .null, .int v2] [] s5 _
      refine g_aload_n (pc := 108) K 0 dX5_tellsOne_108 rfl rfl ?_
      refine gg_5_4 (pc := 109) K (by decide) kd_1 kX5_30 dX5_tellsOne_109 ?_
      refine g_iconst (pc := 112) K (3) dX5_tellsOne_112 (by decide) ?_
      refine g_icmp_ne (pc := 113) K 120 dX5_tellsOne_113 (by decide) ?_ ?_
      · refine g_iconst (pc := 120) K (0) dX5_tellsOne_120 (by decide) ?_
        exact g_zr0 (pc := 121) hR dX5_tellsOne_121
      · refine g_iconst (pc := 116) K (1) dX5_tellsOne_116 (by decide) ?_
        refine g_goto (pc := 117) K 121 dX5_tellsOne_117 (by decide) ?_
        exact g_zr1 (pc := 121) hR dX5_tellsOne_121
    · refine g_iconst (pc := 102) K (0) dX5_tellsOne_102 (by decide) ?_
      exact g_zr0 (pc := 103) hR dX5_tellsOne_103
  · refine g_icmp_ne (pc := 5) K 96 dX5_tellsOne_5 (by decide) ?_ ?_
    · refine g_iconst (pc := 96) K (0) dX5_tellsOne_96 (by decide) ?_
      exact g_wk (hkj1 (0) s) ⟨rfl, trivial⟩
    · refine g_aload_n (pc := 8) K 0 dX5_tellsOne_8 rfl rfl ?_
      refine g_aload_n (pc := 9) K 1 dX5_tellsOne_9 rfl rfl ?_
      refine gg_1_1 (pc := 10) K hk1.1 hk1.2.1 kX5_41 dX5_tellsOne_10 (k1 + 1) rfl ?_
      refine g_iload_n (pc := 13) K 2 dX5_tellsOne_13 rfl rfl ?_
      refine g_iconst (pc := 14) K (0) dX5_tellsOne_14 (by decide) ?_
      refine g_bipush (pc := 15) K (30) dX5_tellsOne_15 (by decide) ?_
      refine g_callV (pc := 17) (S := []) K (qX5_tellsNumber X.E (k1 + 1) hk1.2.2.1 a2 (0) (30)) (by decide) (ci := 5) rfl (fun _ => ⟨_, ce_5 kd_1⟩) (by decide) (by decide) wcX5_tellsNumber wiX5 kX5_45 wmX5_tellsNumber weX5_tellsNumber hyX5_tellsNumber rfl rfl (Nat.le_of_ble_eq_true rfl) dX5_tellsOne_17 (fun r6 s7 => ?_)
      change G X 20 [.ref (X.B + 1), .ref (X.B + k1), .int a2, .null] [.int r6] s7 _
      refine g_if_eq (pc := 20) K 96 dX5_tellsOne_20 (by decide) ?_ ?_
      · refine g_iconst (pc := 96) K (0) dX5_tellsOne_96 (by decide) ?_
        exact g_wk (hkj1 (0) s7) ⟨rfl, trivial⟩
      · refine g_aload_n (pc := 23) K 0 dX5_tellsOne_23 rfl rfl ?_
        refine g_aload_n (pc := 24) K 1 dX5_tellsOne_24 rfl rfl ?_
        refine gg_1_2 (pc := 25) K hk1.1 hk1.2.1 kX5_49 dX5_tellsOne_25 (k1 + 2) rfl ?_
        refine g_iload_n (pc := 28) K 2 dX5_tellsOne_28 rfl rfl ?_
        refine g_iconst (pc := 29) K (1) dX5_tellsOne_29 (by decide) ?_
        refine g_bipush (pc := 30) K (9) dX5_tellsOne_30 (by decide) ?_
        refine g_callV (pc := 32) (S := []) K (qX5_tellsNumber X.E (k1 + 2) hk1.2.2.2.1 a2 (1) (9)) (by decide) (ci := 5) rfl (fun _ => ⟨_, ce_5 kd_1⟩) (by decide) (by decide) wcX5_tellsNumber wiX5 kX5_45 wmX5_tellsNumber weX5_tellsNumber hyX5_tellsNumber rfl rfl (Nat.le_of_ble_eq_true rfl) dX5_tellsOne_32 (fun r8 s9 => ?_)
        change G X 35 [.ref (X.B + 1), .ref (X.B + k1), .int a2, .null] [.int r8] s9 _
        refine g_if_eq (pc := 35) K 96 dX5_tellsOne_35 (by decide) ?_ ?_
        · refine g_iconst (pc := 96) K (0) dX5_tellsOne_96 (by decide) ?_
          exact g_wk (hkj1 (0) s9) ⟨rfl, trivial⟩
        · refine g_aload_n (pc := 38) K 0 dX5_tellsOne_38 rfl rfl ?_
          refine g_aload_n (pc := 39) K 1 dX5_tellsOne_39 rfl rfl ?_
          refine gg_1_3 (pc := 40) K hk1.1 hk1.2.1 kX5_52 dX5_tellsOne_40 (k1 + 3) rfl ?_
          refine g_iload_n (pc := 43) K 2 dX5_tellsOne_43 rfl rfl ?_
          refine g_iconst (pc := 44) K (0) dX5_tellsOne_44 (by decide) ?_
          refine g_bipush (pc := 45) K (20) dX5_tellsOne_45 (by decide) ?_
          refine g_callV (pc := 47) (S := []) K (qX5_tellsNumber X.E (k1 + 3) hk1.2.2.2.2.1 a2 (0) (20)) (by decide) (ci := 5) rfl (fun _ => ⟨_, ce_5 kd_1⟩) (by decide) (by decide) wcX5_tellsNumber wiX5 kX5_45 wmX5_tellsNumber weX5_tellsNumber hyX5_tellsNumber rfl rfl (Nat.le_of_ble_eq_true rfl) dX5_tellsOne_47 (fun r10 s11 => ?_)
          change G X 50 [.ref (X.B + 1), .ref (X.B + k1), .int a2, .null] [.int r10] s11 _
          refine g_if_eq (pc := 50) K 96 dX5_tellsOne_50 (by decide) ?_ ?_
          · refine g_iconst (pc := 96) K (0) dX5_tellsOne_96 (by decide) ?_
            exact g_wk (hkj1 (0) s11) ⟨rfl, trivial⟩
          · refine g_aload_n (pc := 53) K 0 dX5_tellsOne_53 rfl rfl ?_
            refine g_aload_n (pc := 54) K 1 dX5_tellsOne_54 rfl rfl ?_
            refine gg_1_4 (pc := 55) K hk1.1 hk1.2.1 kX5_55 dX5_tellsOne_55 (k1 + 4) rfl ?_
            refine g_iload_n (pc := 58) K 2 dX5_tellsOne_58 rfl rfl ?_
            refine g_iconst (pc := 59) K (0) dX5_tellsOne_59 (by decide) ?_
            refine g_bipush (pc := 60) K (6) dX5_tellsOne_60 (by decide) ?_
            refine g_callV (pc := 62) (S := []) K (qX5_tellsNumber X.E (k1 + 4) hk1.2.2.2.2.2.1 a2 (0) (6)) (by decide) (ci := 5) rfl (fun _ => ⟨_, ce_5 kd_1⟩) (by decide) (by decide) wcX5_tellsNumber wiX5 kX5_45 wmX5_tellsNumber weX5_tellsNumber hyX5_tellsNumber rfl rfl (Nat.le_of_ble_eq_true rfl) dX5_tellsOne_62 (fun r12 s13 => ?_)
            change G X 65 [.ref (X.B + 1), .ref (X.B + k1), .int a2, .null] [.int r12] s13 _
            refine g_if_eq (pc := 65) K 96 dX5_tellsOne_65 (by decide) ?_ ?_
            · refine g_iconst (pc := 96) K (0) dX5_tellsOne_96 (by decide) ?_
              exact g_wk (hkj1 (0) s13) ⟨rfl, trivial⟩
            · refine g_aload_n (pc := 68) K 0 dX5_tellsOne_68 rfl rfl ?_
              refine g_aload_n (pc := 69) K 1 dX5_tellsOne_69 rfl rfl ?_
              refine gg_1_5 (pc := 70) K hk1.1 hk1.2.1 kX5_58 dX5_tellsOne_70 (k1 + 5) rfl ?_
              refine g_iload_n (pc := 73) K 2 dX5_tellsOne_73 rfl rfl ?_
              refine g_iconst (pc := 74) K (0) dX5_tellsOne_74 (by decide) ?_
              refine g_iconst (pc := 75) K (5) dX5_tellsOne_75 (by decide) ?_
              refine g_callV (pc := 76) (S := []) K (qX5_tellsNumber X.E (k1 + 5) hk1.2.2.2.2.2.2 a2 (0) (5)) (by decide) (ci := 5) rfl (fun _ => ⟨_, ce_5 kd_1⟩) (by decide) (by decide) wcX5_tellsNumber wiX5 kX5_45 wmX5_tellsNumber weX5_tellsNumber hyX5_tellsNumber rfl rfl (Nat.le_of_ble_eq_true rfl) dX5_tellsOne_76 (fun r14 s15 => ?_)
              change G X 79 [.ref (X.B + 1), .ref (X.B + k1), .int a2, .null] [.int r14] s15 _
              refine g_if_eq (pc := 79) K 96 dX5_tellsOne_79 (by decide) ?_ ?_
              · refine g_iconst (pc := 96) K (0) dX5_tellsOne_96 (by decide) ?_
                exact g_wk (hkj1 (0) s15) ⟨rfl, trivial⟩
              · refine g_aload_n (pc := 82) K 1 dX5_tellsOne_82 rfl rfl ?_
                refine gg_1_5 (pc := 83) K hk1.1 hk1.2.1 kX5_58 dX5_tellsOne_83 (k1 + 5) rfl ?_
                refine g_iload_n (pc := 86) K 2 dX5_tellsOne_86 rfl rfl ?_
                refine g_iaload (pc := 87) K hk1.2.2.2.2.2.2.1 hk1.2.2.2.2.2.2.2.1 hk1.2.2.2.2.2.2.2.2 dX5_tellsOne_87 (fun v16 => ?_)
                refine g_iload_n (pc := 88) K 2 dX5_tellsOne_88 rfl rfl ?_
                refine g_icmp_eq (pc := 89) K 96 dX5_tellsOne_89 (by decide) ?_ ?_
                · refine g_iconst (pc := 96) K (0) dX5_tellsOne_96 (by decide) ?_
                  exact g_wk (hkj1 (0) s15) ⟨rfl, trivial⟩
                · refine g_iconst (pc := 92) K (1) dX5_tellsOne_92 (by decide) ?_
                  refine g_goto (pc := 93) K 97 dX5_tellsOne_93 (by decide) ?_
                  exact g_wk (hkj1 (1) s15) ⟨rfl, trivial⟩
theorem qX5_tellsOne (E : Ce) (k1 : Nat) (hk1 : Frm k1) (a2 : Int32) : Con E yX5_tellsOne cX5_tellsOne 4 (some .boolean) 5 [.ref (E.B + 1), .ref (E.B + k1), .int a2] (M_X5_tellsOne k1 a2) :=
  Con.of (by decide) (List.forall_mem_cons.mpr ⟨rfl, List.forall_mem_cons.mpr ⟨rfl, List.forall_mem_cons.mpr ⟨rfl, fun _ h => absurd h List.not_mem_nil⟩⟩⟩) (Nat.le_of_ble_eq_true rfl) (Or.inr (Or.inr rfl)) [.ref (E.B + 1), .ref (E.B + k1), .int a2, .null] ⟨rfl, ⟨rfl, ⟨rfl, trivial⟩⟩⟩ (fun X s hE hok hI hZ hV => by subst hE; exact tX5_tellsOne hok (hZ rfl) k1 hk1 a2 s)
theorem hyX5_tells : yX5_tells.cls ≠ "java/lang/invoke/MethodHandle" ∧ yX5_tells.cls ≠ "java/lang/invoke/VarHandle" ∧ (parseMethodDescriptor yX5_tells.desc).map (fun d => d.parameters.length) = some 1 := by decide +kernel
set_option maxRecDepth 20000 in
set_option maxHeartbeats 4000000 in
theorem tM_X5_tells_L16 {X : Cx} (K : Ok X cX5_tells RX5 3 6) (hR : RZ X cX5_tells) (k1 : Nat) (hk1 : Frm k1) (kk : St → Option (Int32 × St)) (hkk : ∀ (s : St), G X 64 [.null, .ref (X.B + k1), .null] [] s (kk s)) : ∀ (fu : Nat) (x2 : Int32) (s : St), G X 16 [.ref (X.B + 1), .ref (X.B + k1), .int x2] [] s (M_X5_tells_L16 k1 kk fu x2 s) := by
  intro fu
  induction fu with
  | zero => intro x2 s; exact g_none
  | succ fu ih =>
    intro x2 s
    rw [M_X5_tells_L16]
    refine g_iload_n (pc := 16) K 2 dX5_tells_16 rfl rfl ?_
    refine g_sipush (pc := 17) K (140) dX5_tells_17 (by decide) ?_
    refine g_icmp_ge (pc := 20) K 64 dX5_tells_20 (by decide) ?_ ?_
    · exact g_wk (hkk  s) ⟨rfl, trivial⟩
    · refine g_aload_n (pc := 23) K 0 dX5_tells_23 rfl rfl ?_
      refine gg_5_4 (pc := 24) K (by decide) kd_1 kX5_30 dX5_tells_24 ?_
      refine g_if_eq (pc := 27) K 64 dX5_tells_27 (by decide) ?_ ?_
      · exact g_wk (hkk  s) ⟨rfl, trivial⟩
      · refine g_iload_n (pc := 30) K 2 dX5_tells_30 rfl rfl ?_
        refine g_bipush (pc := 31) K (6) dX5_tells_31 (by decide) ?_
        refine g_icmp_ge (pc := 33) K 45 dX5_tells_33 (by decide) ?_ ?_
        · refine g_iconst (pc := 45) K (0) dX5_tells_45 (by decide) ?_
          exact g_zr0 (pc := 46) hR dX5_tells_46
        · refine g_aload_n (pc := 36) K 0 dX5_tells_36 rfl rfl ?_
          refine g_aload_n (pc := 37) K 1 dX5_tells_37 rfl rfl ?_
          refine g_iload_n (pc := 38) K 2 dX5_tells_38 rfl rfl ?_
          refine g_callV (pc := 39) (S := []) K (qX5_tellsOne X.E k1 hk1 x2) (by decide) (ci := 5) rfl (fun _ => ⟨_, ce_5 kd_1⟩) (by decide) (by decide) wcX5_tellsOne wiX5 kX5_33 wmX5_tellsOne weX5_tellsOne hyX5_tellsOne rfl rfl (Nat.le_of_ble_eq_true rfl) dX5_tells_39 (fun r5 s6 => ?_)
          change G X 42 [.ref (X.B + 1), .ref (X.B + k1), .int x2] [.int r5] s6 _
          refine g_if_ne (pc := 42) K 47 dX5_tells_42 (by decide) ?_ ?_
          · refine g_aload_n (pc := 47) K 1 dX5_tells_47 rfl rfl ?_
            refine g_iload_n (pc := 48) K 2 dX5_tells_48 rfl rfl ?_
            refine g_iconst (pc := 49) K (1) dX5_tells_49 (by decide) ?_
            refine g_iadd (pc := 50) K dX5_tells_50 ?_
            refine gp_1_0 (pc := 51) K hk1.1 hk1.2.1 kX5_22 dX5_tells_51 (fun s7 => ?_)
            refine g_aload_n (pc := 54) K 0 dX5_tells_54 rfl rfl ?_
            refine g_callV (pc := 55) (S := []) K (qX5_step X.E ) (by decide) (ci := 5) rfl (fun _ => ⟨_, ce_5 kd_1⟩) (by decide) (by decide) wcX5_step wiX5 kX5_27 wmX5_step weX5_step hyX5_step rfl rfl (Nat.le_of_ble_eq_true rfl) dX5_tells_55 (fun r8 s9 => ?_)
            change G X 58 [.ref (X.B + 1), .ref (X.B + k1), .int x2] [] s9 _
            refine g_iinc (pc := 58) K (1) dX5_tells_58 rfl (by decide) (by decide) ?_
            change G X 61 [.ref (X.B + 1), .ref (X.B + k1), .int (x2 + (1))] [] s9 _
            refine g_goto (pc := 61) K 16 dX5_tells_61 (by decide) ?_
            exact g_wk (ih (x2 + (1)) s9) ⟨rfl, ⟨rfl, ⟨rfl, trivial⟩⟩⟩
          · refine g_iconst (pc := 45) K (0) dX5_tells_45 (by decide) ?_
            exact g_zr0 (pc := 46) hR dX5_tells_46
set_option maxRecDepth 20000 in
set_option maxHeartbeats 4000000 in
theorem tX5_tells {X : Cx} (K : Ok X cX5_tells RX5 3 6) (hR : RZ X cX5_tells) (k1 : Nat) (hk1 : Frm k1) (s : St) : G X 0 [.ref (X.B + 1), .ref (X.B + k1), .null] [] s (M_X5_tells k1 s) := by
  unfold M_X5_tells
  refine g_aload_n (pc := 0) K 0 dX5_tells_0 rfl rfl ?_
  refine g_iconst (pc := 1) K (0) dX5_tells_1 (by decide) ?_
  refine gp_5_2 (pc := 2) K (by decide) kd_1 kX5_19 dX5_tells_2 (fun s1 => ?_)
  refine g_aload_n (pc := 5) K 1 dX5_tells_5 rfl rfl ?_
  refine g_iconst (pc := 6) K (0) dX5_tells_6 (by decide) ?_
  refine gp_1_0 (pc := 7) K hk1.1 hk1.2.1 kX5_22 dX5_tells_7 (fun s2 => ?_)
  refine g_aload_n (pc := 10) K 0 dX5_tells_10 rfl rfl ?_
  refine g_callV (pc := 11) (S := []) K (qX5_step X.E ) (by decide) (ci := 5) rfl (fun _ => ⟨_, ce_5 kd_1⟩) (by decide) (by decide) wcX5_step wiX5 kX5_27 wmX5_step weX5_step hyX5_step rfl rfl (Nat.le_of_ble_eq_true rfl) dX5_tells_11 (fun r3 s4 => ?_)
  change G X 14 [.ref (X.B + 1), .ref (X.B + k1), .null] [] s4 _
  refine g_iconst (pc := 14) K (0) dX5_tells_14 (by decide) ?_
  refine g_istore_n (pc := 15) K 2 dX5_tells_15 rfl (by decide) ?_
  change G X 16 [.ref (X.B + 1), .ref (X.B + k1), .int (0)] [] s4 _
  refine g_weak (L' := [.ref (X.B + 1), .ref (X.B + k1), .int (0)]) ⟨rfl, ⟨rfl, ⟨rfl, trivial⟩⟩⟩ ?_
  refine tM_X5_tells_L16 K hR k1 hk1 _ (fun s10 => ?_) 400 (0) s4
  refine g_aload_n (pc := 64) K 1 dX5_tells_64 rfl rfl ?_
  refine g_callVN (pc := 65) (S := []) K (qX1_keepersAreThere X.E k1 hk1) hk1.1 (ci := 1) rfl (fun _ => ⟨_, ce_1 hk1.2.1⟩) (by decide) (by decide) wcX1_keepersAreThere wiX1 kX5_37 wmX1_keepersAreThere weX1_keepersAreThere hyX1_keepersAreThere rfl rfl (Nat.le_of_ble_eq_true rfl) dX5_tells_65 (fun r11 s12 => ?_)
  change G X 68 [.null, .ref (X.B + k1), .null] [.int r11] s12 _
  exact g_zr (pc := 68) hR dX5_tells_68
theorem qX5_tells (E : Ce) (k1 : Nat) (hk1 : Frm k1) : Con E yX5_tells cX5_tells 3 (some .boolean) 6 [.ref (E.B + 1), .ref (E.B + k1)] (M_X5_tells k1) :=
  Con.of (by decide) (List.forall_mem_cons.mpr ⟨rfl, List.forall_mem_cons.mpr ⟨rfl, fun _ h => absurd h List.not_mem_nil⟩⟩) (Nat.le_of_ble_eq_true rfl) (Or.inr (Or.inr rfl)) [.ref (E.B + 1), .ref (E.B + k1), .null] ⟨rfl, ⟨rfl, trivial⟩⟩ (fun X s hE hok hI hZ hV => by subst hE; exact tX5_tells hok (hZ rfl) k1 hk1 s)
