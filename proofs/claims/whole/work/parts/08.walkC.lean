theorem hyX6_within : yX6_within.cls ≠ "java/lang/invoke/MethodHandle" ∧ yX6_within.cls ≠ "java/lang/invoke/VarHandle" ∧ (parseMethodDescriptor yX6_within.desc).map (fun d => d.parameters.length) = some 3 := by decide +kernel
set_option maxRecDepth 20000 in
set_option maxHeartbeats 4000000 in
theorem tX6_within {X : Cx} (K : Ok X cX6_within RX6 3 1) (hR : RZ X cX6_within) (a0 : Int32) (a1 : Int32) (a2 : Int32) (s : St) : G X 0 [.int a0, .int a1, .int a2] [] s (M_X6_within a0 a1 a2 s) := by
  unfold M_X6_within
  refine g_iload_n (pc := 0) K 0 dX6_within_0 rfl rfl ?_
  refine g_iload_n (pc := 1) K 1 dX6_within_1 rfl rfl ?_
  refine g_icmp_lt (pc := 2) K 14 dX6_within_2 (by decide) ?_ ?_
  · refine g_iconst (pc := 14) K (0) dX6_within_14 (by decide) ?_
    exact g_zr0 (pc := 15) hR dX6_within_15
  · refine g_iload_n (pc := 5) K 0 dX6_within_5 rfl rfl ?_
    refine g_iload_n (pc := 6) K 2 dX6_within_6 rfl rfl ?_
    refine g_icmp_gt (pc := 7) K 14 dX6_within_7 (by decide) ?_ ?_
    · refine g_iconst (pc := 14) K (0) dX6_within_14 (by decide) ?_
      exact g_zr0 (pc := 15) hR dX6_within_15
    · refine g_iconst (pc := 10) K (1) dX6_within_10 (by decide) ?_
      refine g_goto (pc := 11) K 15 dX6_within_11 (by decide) ?_
      exact g_zr1 (pc := 15) hR dX6_within_15
theorem qX6_within (E : Ce) (a0 : Int32) (a1 : Int32) (a2 : Int32) : Con E yX6_within cX6_within 3 (some .boolean) 1 [.int a0, .int a1, .int a2] (M_X6_within a0 a1 a2) :=
  Con.of (by decide) (List.forall_mem_cons.mpr ⟨rfl, List.forall_mem_cons.mpr ⟨rfl, List.forall_mem_cons.mpr ⟨rfl, fun _ h => absurd h List.not_mem_nil⟩⟩⟩) (Nat.le_of_ble_eq_true rfl) (Or.inr (Or.inr rfl)) [.int a0, .int a1, .int a2] ⟨rfl, ⟨rfl, ⟨rfl, trivial⟩⟩⟩ (fun X s hE hok hI hZ hV => by subst hE; exact tX6_within hok (hZ rfl) a0 a1 a2 s)
theorem hyX6_type : yX6_type.cls ≠ "java/lang/invoke/MethodHandle" ∧ yX6_type.cls ≠ "java/lang/invoke/VarHandle" ∧ (parseMethodDescriptor yX6_type.desc).map (fun d => d.parameters.length) = some 1 := by decide +kernel
set_option maxRecDepth 20000 in
set_option maxHeartbeats 4000000 in
theorem tX6_type {X : Cx} (K : Ok X cX6_type RX6 2 2) (hR : RI X cX6_type) (a1 : Int32) (s : St) : G X 0 [.ref (X.B + 0), .int a1] [] s (M_X6_type a1 s) := by
  unfold M_X6_type
  refine g_iload_n (pc := 0) K 1 dX6_type_0 rfl rfl ?_
  refine g_iconst (pc := 1) K (0) dX6_type_1 (by decide) ?_
  refine g_sipush (pc := 2) K (255) dX6_type_2 (by decide) ?_
  refine g_callS (pc := 5) (S := []) K (qX6_within X.E a1 (0) (255)) (by decide) (by decide) wcX6_within wiX6 kX6_71 wtX6_within hyX6_within rfl rfl (Nat.le_of_ble_eq_true rfl) dX6_type_5 (fun r1 s2 => ?_)
  change G X 8 [.ref (X.B + 0), .int a1] [.int r1] s2 _
  refine g_if_ne (pc := 8) K 13 dX6_type_8 (by decide) ?_ ?_
  · refine g_aload_n (pc := 13) K 0 dX6_type_13 rfl rfl ?_
    refine gg_6_0 (pc := 14) K (by decide) kd_0 kX6_10 dX6_type_14 ?_
    refine g_iload_n (pc := 17) K 1 dX6_type_17 rfl rfl ?_
    refine g_callVN (pc := 18) (S := []) K (qX5_add X.E a1) (by decide) (ci := 5) rfl (fun _ => ⟨_, ce_5 kd_1⟩) (by decide) (by decide) wcX5_add wiX5 kX6_75 wmX5_add weX5_add hyX5_add rfl rfl (Nat.le_of_ble_eq_true rfl) dX6_type_18 (fun r3 s4 => ?_)
    change G X 21 [.ref (X.B + 0), .int a1] [.int r3] s4 _
    refine g_if_eq (pc := 21) K 34 dX6_type_21 (by decide) ?_ ?_
    · refine g_bipush (pc := 34) K (-3) dX6_type_34 (by decide) ?_
      exact g_ir (pc := 36) hR dX6_type_36
    · refine g_aload_n (pc := 24) K 0 dX6_type_24 rfl rfl ?_
      refine gg_6_0 (pc := 25) K (by decide) kd_0 kX6_10 dX6_type_25 ?_
      refine gg_5_1 (pc := 28) K (by decide) kd_1 kX6_79 dX6_type_28 ?_
      refine g_goto (pc := 31) K 36 dX6_type_31 (by decide) ?_
      exact g_ir (pc := 36) hR dX6_type_36
  · refine g_iconst (pc := 11) K (-1) dX6_type_11 (by decide) ?_
    exact g_ir (pc := 12) hR dX6_type_12
theorem qX6_type (E : Ce) (a1 : Int32) : Con E yX6_type cX6_type 2 (some .int) 2 [.ref (E.B + 0), .int a1] (M_X6_type a1) :=
  Con.of (by decide) (List.forall_mem_cons.mpr ⟨rfl, List.forall_mem_cons.mpr ⟨rfl, fun _ h => absurd h List.not_mem_nil⟩⟩) (Nat.le_of_ble_eq_true rfl) (Or.inr (Or.inl rfl)) [.ref (E.B + 0), .int a1] ⟨rfl, ⟨rfl, trivial⟩⟩ (fun X s hE hok hI hZ hV => by subst hE; exact tX6_type hok (hI rfl) a1 s)
theorem hyX6_clear : yX6_clear.cls ≠ "java/lang/invoke/MethodHandle" ∧ yX6_clear.cls ≠ "java/lang/invoke/VarHandle" ∧ (parseMethodDescriptor yX6_clear.desc).map (fun d => d.parameters.length) = some 0 := by decide +kernel
set_option maxRecDepth 20000 in
set_option maxHeartbeats 4000000 in
theorem tX6_clear {X : Cx} (K : Ok X cX6_clear RX6 2 1) (hR : RI X cX6_clear) (s : St) : G X 0 [.ref (X.B + 0), .null] [] s (M_X6_clear s) := by
  unfold M_X6_clear
  refine g_aload_n (pc := 0) K 0 dX6_clear_0 rfl rfl ?_
  refine gg_6_0 (pc := 1) K (by decide) kd_0 kX6_10 dX6_clear_1 ?_
  refine gg_5_1 (pc := 4) K (by decide) kd_1 kX6_79 dX6_clear_4 ?_
  refine g_istore_n (pc := 7) K 1 dX6_clear_7 rfl (by decide) ?_
  change G X 8 [.ref (X.B + 0), .int (s.1 1 1)] [] s _
  refine g_aload_n (pc := 8) K 0 dX6_clear_8 rfl rfl ?_
  refine gg_6_0 (pc := 9) K (by decide) kd_0 kX6_10 dX6_clear_9 ?_
  refine g_iconst (pc := 12) K (0) dX6_clear_12 (by decide) ?_
  refine gp_5_1 (pc := 13) K (by decide) kd_1 kX6_79 dX6_clear_13 (fun s1 => ?_)
  refine g_iload_n (pc := 16) K 1 dX6_clear_16 rfl rfl ?_
  exact g_ir (pc := 17) hR dX6_clear_17
theorem qX6_clear (E : Ce) : Con E yX6_clear cX6_clear 2 (some .int) 1 [.ref (E.B + 0)] (M_X6_clear) :=
  Con.of (by decide) (List.forall_mem_cons.mpr ⟨rfl, fun _ h => absurd h List.not_mem_nil⟩) (Nat.le_of_ble_eq_true rfl) (Or.inr (Or.inl rfl)) [.ref (E.B + 0), .null] ⟨rfl, trivial⟩ (fun X s hE hok hI hZ hV => by subst hE; exact tX6_clear hok (hI rfl) s)
theorem hyX6_valley : yX6_valley.cls ≠ "java/lang/invoke/MethodHandle" ∧ yX6_valley.cls ≠ "java/lang/invoke/VarHandle" ∧ (parseMethodDescriptor yX6_valley.desc).map (fun d => d.parameters.length) = some 0 := by decide +kernel
set_option maxRecDepth 20000 in
set_option maxHeartbeats 4000000 in
theorem tM_X6_valley_L68 {X : Cx} (K : Ok X cX6_valley RX6 2 7) (hR : RI X cX6_valley) (kk : St → Option (Int32 × St)) (hkk : ∀ (s : St), G X 86 [.ref (X.B + 0), .null] [] s (kk s)) : ∀ (fu : Nat) (x1 : Int32) (s : St), G X 68 [.ref (X.B + 0), .int x1] [] s (M_X6_valley_L68 kk fu x1 s) := by
  intro fu
  induction fu with
  | zero => intro x1 s; exact g_none
  | succ fu ih =>
    intro x1 s
    rw [M_X6_valley_L68]
    refine g_iload_n (pc := 68) K 1 dX6_valley_68 rfl rfl ?_
    refine g_iconst (pc := 69) K (2) dX6_valley_69 (by decide) ?_
    refine g_icmp_ge (pc := 70) K 86 dX6_valley_70 (by decide) ?_ ?_
    · exact g_wk (hkk  s) ⟨rfl, trivial⟩
    · refine g_aload_n (pc := 73) K 0 dX6_valley_73 rfl rfl ?_
      refine gg_6_7 (pc := 74) K (by decide) kd_0 kX6_49 dX6_valley_74 ?_
      refine g_iload_n (pc := 77) K 1 dX6_valley_77 rfl rfl ?_
      refine g_iconst (pc := 78) K (0) dX6_valley_78 (by decide) ?_
      refine g_bastore (pc := 79) K (by decide) kd_60 ln_60 dX6_valley_79 (fun s11 => ?_)
      refine g_iinc (pc := 80) K (1) dX6_valley_80 rfl (by decide) (by decide) ?_
      change G X 83 [.ref (X.B + 0), .int (x1 + (1))] [] s11 _
      refine g_goto (pc := 83) K 68 dX6_valley_83 (by decide) ?_
      exact g_wk (ih (x1 + (1)) s11) ⟨rfl, ⟨rfl, trivial⟩⟩
set_option maxRecDepth 20000 in
set_option maxHeartbeats 4000000 in
theorem tX6_valley {X : Cx} (K : Ok X cX6_valley RX6 2 7) (hR : RI X cX6_valley) (s : St) : G X 0 [.ref (X.B + 0), .null] [] s (M_X6_valley s) := by
  unfold M_X6_valley
  refine g_aload_n (pc := 0) K 0 dX6_valley_0 rfl rfl ?_
  refine gg_6_0 (pc := 1) K (by decide) kd_0 kX6_10 dX6_valley_1 ?_
  refine g_aload_n (pc := 4) K 0 dX6_valley_4 rfl rfl ?_
  refine gg_6_1 (pc := 5) K (by decide) kd_0 kX6_19 dX6_valley_5 ?_
  refine g_callVN (pc := 8) (S := []) K (qX5_tells X.E 3 frm_3) (by decide) (ci := 5) rfl (fun _ => ⟨_, ce_5 kd_1⟩) (by decide) (by decide) wcX5_tells wiX5 kX6_83 wmX5_tells weX5_tells hyX5_tells rfl rfl (Nat.le_of_ble_eq_true rfl) dX6_valley_8 (fun r1 s2 => ?_)
  change G X 11 [.ref (X.B + 0), .null] [.int r1] s2 _
  refine g_if_ne (pc := 11) K 25 dX6_valley_11 (by decide) ?_ ?_
  · refine g_aload_n (pc := 25) K 0 dX6_valley_25 rfl rfl ?_
    refine gg_6_0 (pc := 26) K (by decide) kd_0 kX6_10 dX6_valley_26 ?_
    refine g_iconst (pc := 29) K (0) dX6_valley_29 (by decide) ?_
    refine gp_5_1 (pc := 30) K (by decide) kd_1 kX6_79 dX6_valley_30 (fun s3 => ?_)
    refine g_aload_n (pc := 33) K 0 dX6_valley_33 rfl rfl ?_
    refine gg_6_2 (pc := 34) K (by decide) kd_0 kX6_23 dX6_valley_34 ?_
    refine g_aload_n (pc := 37) K 0 dX6_valley_37 rfl rfl ?_
    refine gg_6_1 (pc := 38) K (by decide) kd_0 kX6_19 dX6_valley_38 ?_
    refine g_callVN (pc := 41) (S := []) K (qX1_copyFrom X.E 9 3 frm_9 frm_3) (by decide) (ci := 1) rfl (fun _ => ⟨_, ce_1 kd_9⟩) (by decide) (by decide) wcX1_copyFrom wiX1 kX6_90 wmX1_copyFrom weX1_copyFrom hyX1_copyFrom rfl rfl (Nat.le_of_ble_eq_true rfl) dX6_valley_41 (fun r4 s5 => ?_)
    change G X 44 [.ref (X.B + 0), .null] [] s5 _
    refine g_aload_n (pc := 44) K 0 dX6_valley_44 rfl rfl ?_
    refine gg_6_3 (pc := 45) K (by decide) kd_0 kX6_31 dX6_valley_45 ?_
    refine g_callVN (pc := 48) (S := []) K (qX3_begin X.E 15 scn_15) (by decide) (ci := 3) rfl (fun _ => ⟨_, ce_3 kd_15⟩) (by decide) (by decide) wcX3_begin wiX3 kX6_93 wmX3_begin weX3_begin hyX3_begin rfl rfl (Nat.le_of_ble_eq_true rfl) dX6_valley_48 (fun r6 s7 => ?_)
    change G X 51 [.ref (X.B + 0), .null] [] s7 _
    refine g_aload_n (pc := 51) K 0 dX6_valley_51 rfl rfl ?_
    refine gg_6_5 (pc := 52) K (by decide) kd_0 kX6_41 dX6_valley_52 ?_
    refine g_iconst (pc := 55) K (0) dX6_valley_55 (by decide) ?_
    refine gp_2_2 (pc := 56) K (by decide) kd_21 kX6_96 dX6_valley_56 (fun s8 => ?_)
    refine g_aload_n (pc := 59) K 0 dX6_valley_59 rfl rfl ?_
    refine gg_6_9 (pc := 60) K (by decide) kd_0 kX6_63 dX6_valley_60 ?_
    refine g_callVN (pc := 63) (S := []) K (qX4_begin X.E ) (by decide) (ci := 4) rfl (fun _ => ⟨_, ce_4 kd_64⟩) (by decide) (by decide) wcX4_begin wiX4 kX6_99 wmX4_begin weX4_begin hyX4_begin rfl rfl (Nat.le_of_ble_eq_true rfl) dX6_valley_63 (fun r9 s10 => ?_)
    change G X 66 [.ref (X.B + 0), .null] [] s10 _
    refine g_iconst (pc := 66) K (0) dX6_valley_66 (by decide) ?_
    refine g_istore_n (pc := 67) K 1 dX6_valley_67 rfl (by decide) ?_
    change G X 68 [.ref (X.B + 0), .int (0)] [] s10 _
    refine g_weak (L' := [.ref (X.B + 0), .int (0)]) ⟨rfl, ⟨rfl, trivial⟩⟩ ?_
    refine tM_X6_valley_L68 K hR  _ (fun s12 => ?_) 400 (0) s10
    refine g_aload_n (pc := 86) K 0 dX6_valley_86 rfl rfl ?_
    refine gg_6_2 (pc := 87) K (by decide) kd_0 kX6_23 dX6_valley_87 ?_
    refine gg_1_0 (pc := 90) K (by decide) kd_9 kX6_100 dX6_valley_90 ?_
    exact g_ir (pc := 93) hR dX6_valley_93
  · refine g_bipush (pc := 14) K (-10) dX6_valley_14 (by decide) ?_
    refine g_aload_n (pc := 16) K 0 dX6_valley_16 rfl rfl ?_
    refine gg_6_0 (pc := 17) K (by decide) kd_0 kX6_10 dX6_valley_17 ?_
    refine gg_5_3 (pc := 20) K (by decide) kd_1 kX6_87 dX6_valley_20 ?_
    refine g_isub (pc := 23) K dX6_valley_23 ?_
    exact g_ir (pc := 24) hR dX6_valley_24
theorem qX6_valley (E : Ce) : Con E yX6_valley cX6_valley 2 (some .int) 7 [.ref (E.B + 0)] (M_X6_valley) :=
  Con.of (by decide) (List.forall_mem_cons.mpr ⟨rfl, fun _ h => absurd h List.not_mem_nil⟩) (Nat.le_of_ble_eq_true rfl) (Or.inr (Or.inl rfl)) [.ref (E.B + 0), .null] ⟨rfl, trivial⟩ (fun X s hE hok hI hZ hV => by subst hE; exact tX6_valley hok (hI rfl) s)
theorem hyX6_daysTillAsked : yX6_daysTillAsked.cls ≠ "java/lang/invoke/MethodHandle" ∧ yX6_daysTillAsked.cls ≠ "java/lang/invoke/VarHandle" ∧ (parseMethodDescriptor yX6_daysTillAsked.desc).map (fun d => d.parameters.length) = some 1 := by decide +kernel
set_option maxRecDepth 20000 in
set_option maxHeartbeats 4000000 in
theorem tM_X6_daysTillAsked_L10 {X : Cx} (K : Ok X cX6_daysTillAsked RX6 4 3) (hR : RI X cX6_daysTillAsked) (x1 : Int32) (kk : St → Option (Int32 × St)) (hkk : ∀ (s : St), G X 51 [.null, .null, .null, .null] [] s (kk s)) : ∀ (fu : Nat) (x2 x3 : Int32) (s : St), G X 10 [.ref (X.B + 0), .int x1, .int x2, .int x3] [] s (M_X6_daysTillAsked_L10 x1 kk fu x2 x3 s) := by
  intro fu
  induction fu with
  | zero => intro x2 x3 s; exact g_none
  | succ fu ih =>
    intro x2 x3 s
    rw [M_X6_daysTillAsked_L10]
    refine g_iload_n (pc := 10) K 3 dX6_daysTillAsked_10 rfl rfl ?_
    refine g_bipush (pc := 11) K (60) dX6_daysTillAsked_11 (by decide) ?_
    refine g_icmp_gt (pc := 13) K 51 dX6_daysTillAsked_13 (by decide) ?_ ?_
    · exact g_wk (hkk  s) trivial
    · refine g_iload_n (pc := 16) K 2 dX6_daysTillAsked_16 rfl rfl ?_
      refine g_iload_n (pc := 17) K 1 dX6_daysTillAsked_17 rfl rfl ?_
      refine g_ishr (pc := 18) K dX6_daysTillAsked_18 ?_
      refine g_iconst (pc := 19) K (1) dX6_daysTillAsked_19 (by decide) ?_
      refine g_iand (pc := 20) K dX6_daysTillAsked_20 ?_
      refine g_iconst (pc := 21) K (1) dX6_daysTillAsked_21 (by decide) ?_
      refine g_icmp_ne (pc := 22) K 27 dX6_daysTillAsked_22 (by decide) ?_ ?_
      · refine g_aload_n (pc := 27) K 0 dX6_daysTillAsked_27 rfl rfl ?_
        refine gg_6_2 (pc := 28) K (by decide) kd_0 kX6_23 dX6_daysTillAsked_28 ?_
        refine g_iload_n (pc := 31) K 2 dX6_daysTillAsked_31 rfl rfl ?_
        refine g_aload_n (pc := 32) K 0 dX6_daysTillAsked_32 rfl rfl ?_
        refine gg_6_3 (pc := 33) K (by decide) kd_0 kX6_31 dX6_daysTillAsked_33 ?_
        refine gg_3_1 (pc := 36) K (by decide) kd_15 kX6_135 dX6_daysTillAsked_36 ?_
        refine g_iload_n (pc := 39) K 3 dX6_daysTillAsked_39 rfl rfl ?_
        refine g_iadd (pc := 40) K dX6_daysTillAsked_40 ?_
        refine g_callVN (pc := 41) (S := []) K (qX1_askedBehind X.E 9 frm_9 x2 ((s.1 15 1) + x3)) (by decide) (ci := 1) rfl (fun _ => ⟨_, ce_1 kd_9⟩) (by decide) (by decide) wcX1_askedBehind wiX1 kX6_227 wmX1_askedBehind weX1_askedBehind hyX1_askedBehind rfl rfl (Nat.le_of_ble_eq_true rfl) dX6_daysTillAsked_41 (fun r1 s2 => ?_)
        change G X 44 [.ref (X.B + 0), .int x1, .int x2, .int x3] [.int r1] s2 _
        refine g_istore_n (pc := 44) K 2 dX6_daysTillAsked_44 rfl (by decide) ?_
        change G X 45 [.ref (X.B + 0), .int x1, .int r1, .int x3] [] s2 _
        refine g_iinc (pc := 45) K (1) dX6_daysTillAsked_45 rfl (by decide) (by decide) ?_
        change G X 48 [.ref (X.B + 0), .int x1, .int r1, .int (x3 + (1))] [] s2 _
        refine g_goto (pc := 48) K 10 dX6_daysTillAsked_48 (by decide) ?_
        exact g_wk (ih r1 (x3 + (1)) s2) ⟨rfl, ⟨rfl, ⟨rfl, ⟨rfl, trivial⟩⟩⟩⟩
      · refine g_iload_n (pc := 25) K 3 dX6_daysTillAsked_25 rfl rfl ?_
        exact g_ir (pc := 26) hR dX6_daysTillAsked_26
set_option maxRecDepth 20000 in
set_option maxHeartbeats 4000000 in
theorem tX6_daysTillAsked {X : Cx} (K : Ok X cX6_daysTillAsked RX6 4 3) (hR : RI X cX6_daysTillAsked) (a1 : Int32) (s : St) : G X 0 [.ref (X.B + 0), .int a1, .null, .null] [] s (M_X6_daysTillAsked a1 s) := by
  unfold M_X6_daysTillAsked
  refine g_aload_n (pc := 0) K 0 dX6_daysTillAsked_0 rfl rfl ?_
  refine gg_6_3 (pc := 1) K (by decide) kd_0 kX6_31 dX6_daysTillAsked_1 ?_
  refine gg_3_2 (pc := 4) K (by decide) kd_15 kX6_138 dX6_daysTillAsked_4 ?_
  refine g_istore_n (pc := 7) K 2 dX6_daysTillAsked_7 rfl (by decide) ?_
  change G X 8 [.ref (X.B + 0), .int a1, .int (s.1 15 2), .null] [] s _
  refine g_iconst (pc := 8) K (0) dX6_daysTillAsked_8 (by decide) ?_
  refine g_istore_n (pc := 9) K 3 dX6_daysTillAsked_9 rfl (by decide) ?_
  change G X 10 [.ref (X.B + 0), .int a1, .int (s.1 15 2), .int (0)] [] s _
  refine g_weak (L' := [.ref (X.B + 0), .int a1, .int (s.1 15 2), .int (0)]) ⟨rfl, ⟨rfl, ⟨rfl, ⟨rfl, trivial⟩⟩⟩⟩ ?_
  refine tM_X6_daysTillAsked_L10 K hR a1 _ (fun s3 => ?_) 400 (s.1 15 2) (0) s
  refine g_bipush (pc := 51) K (-9) dX6_daysTillAsked_51 (by decide) ?_
  exact g_ir (pc := 53) hR dX6_daysTillAsked_53
theorem qX6_daysTillAsked (E : Ce) (a1 : Int32) : Con E yX6_daysTillAsked cX6_daysTillAsked 4 (some .int) 3 [.ref (E.B + 0), .int a1] (M_X6_daysTillAsked a1) :=
  Con.of (by decide) (List.forall_mem_cons.mpr ⟨rfl, List.forall_mem_cons.mpr ⟨rfl, fun _ h => absurd h List.not_mem_nil⟩⟩) (Nat.le_of_ble_eq_true rfl) (Or.inr (Or.inl rfl)) [.ref (E.B + 0), .int a1, .null, .null] ⟨rfl, ⟨rfl, trivial⟩⟩ (fun X s hE hok hI hZ hV => by subst hE; exact tX6_daysTillAsked hok (hI rfl) a1 s)
theorem hyX6_daysTillMown : yX6_daysTillMown.cls ≠ "java/lang/invoke/MethodHandle" ∧ yX6_daysTillMown.cls ≠ "java/lang/invoke/VarHandle" ∧ (parseMethodDescriptor yX6_daysTillMown.desc).map (fun d => d.parameters.length) = some 1 := by decide +kernel
set_option maxRecDepth 20000 in
set_option maxHeartbeats 4000000 in
theorem tM_X6_daysTillMown_L13 {X : Cx} (K : Ok X cX6_daysTillMown RX6 3 5) (hR : RI X cX6_daysTillMown) (x1 : Int32) (kk : St → Option (Int32 × St)) (hkk : ∀ (s : St), G X 47 [.null, .null, .null] [] s (kk s)) : ∀ (fu : Nat) (x2 : Int32) (s : St), G X 13 [.ref (X.B + 0), .int x1, .int x2] [] s (M_X6_daysTillMown_L13 x1 kk fu x2 s) := by
  intro fu
  induction fu with
  | zero => intro x2 s; exact g_none
  | succ fu ih =>
    intro x2 s
    rw [M_X6_daysTillMown_L13]
    refine g_iload_n (pc := 13) K 2 dX6_daysTillMown_13 rfl rfl ?_
    refine g_bipush (pc := 14) K (60) dX6_daysTillMown_14 (by decide) ?_
    refine g_icmp_gt (pc := 16) K 47 dX6_daysTillMown_16 (by decide) ?_ ?_
    · exact g_wk (hkk  s) trivial
    · refine g_aload_n (pc := 19) K 0 dX6_daysTillMown_19 rfl rfl ?_
      refine gg_6_4 (pc := 20) K (by decide) kd_0 kX6_35 dX6_daysTillMown_20 ?_
      refine g_iload_n (pc := 23) K 1 dX6_daysTillMown_23 rfl rfl ?_
      refine g_callVN (pc := 24) (S := []) K (qX3_allMown X.E 18 scn_18 x1) (by decide) (ci := 3) rfl (fun _ => ⟨_, ce_3 kd_18⟩) (by decide) (by decide) wcX3_allMown wiX3 kX6_230 wmX3_allMown weX3_allMown hyX3_allMown rfl rfl (Nat.le_of_ble_eq_true rfl) dX6_daysTillMown_24 (fun r3 s4 => ?_)
      change G X 27 [.ref (X.B + 0), .int x1, .int x2] [.int r3] s4 _
      refine g_if_eq (pc := 27) K 32 dX6_daysTillMown_27 (by decide) ?_ ?_
      · refine g_aload_n (pc := 32) K 0 dX6_daysTillMown_32 rfl rfl ?_
        refine gg_6_4 (pc := 33) K (by decide) kd_0 kX6_35 dX6_daysTillMown_33 ?_
        refine g_iconst (pc := 36) K (1) dX6_daysTillMown_36 (by decide) ?_
        refine g_callVN (pc := 37) (S := []) K (qX3_pass X.E 18 scn_18 (1)) (by decide) (ci := 3) rfl (fun _ => ⟨_, ce_3 kd_18⟩) (by decide) (by decide) wcX3_pass wiX3 kX6_152 wmX3_pass weX3_pass hyX3_pass rfl rfl (Nat.le_of_ble_eq_true rfl) dX6_daysTillMown_37 (fun r5 s6 => ?_)
        change G X 40 [.ref (X.B + 0), .int x1, .int x2] [.int r5] s6 _
        refine g_pop (pc := 40) K dX6_daysTillMown_40 rfl ?_
        refine g_iinc (pc := 41) K (1) dX6_daysTillMown_41 rfl (by decide) (by decide) ?_
        change G X 44 [.ref (X.B + 0), .int x1, .int (x2 + (1))] [] s6 _
        refine g_goto (pc := 44) K 13 dX6_daysTillMown_44 (by decide) ?_
        exact g_wk (ih (x2 + (1)) s6) ⟨rfl, ⟨rfl, ⟨rfl, trivial⟩⟩⟩
      · refine g_iload_n (pc := 30) K 2 dX6_daysTillMown_30 rfl rfl ?_
        exact g_ir (pc := 31) hR dX6_daysTillMown_31
set_option maxRecDepth 20000 in
set_option maxHeartbeats 4000000 in
theorem tX6_daysTillMown {X : Cx} (K : Ok X cX6_daysTillMown RX6 3 5) (hR : RI X cX6_daysTillMown) (a1 : Int32) (s : St) : G X 0 [.ref (X.B + 0), .int a1, .null] [] s (M_X6_daysTillMown a1 s) := by
  unfold M_X6_daysTillMown
  refine g_aload_n (pc := 0) K 0 dX6_daysTillMown_0 rfl rfl ?_
  refine gg_6_4 (pc := 1) K (by decide) kd_0 kX6_35 dX6_daysTillMown_1 ?_
  refine g_aload_n (pc := 4) K 0 dX6_daysTillMown_4 rfl rfl ?_
  refine gg_6_3 (pc := 5) K (by decide) kd_0 kX6_31 dX6_daysTillMown_5 ?_
  refine g_callVN (pc := 8) (S := []) K (qX3_copyFrom X.E 18 15 scn_18 scn_15) (by decide) (ci := 3) rfl (fun _ => ⟨_, ce_3 kd_18⟩) (by decide) (by decide) wcX3_copyFrom wiX3 kX6_221 wmX3_copyFrom weX3_copyFrom hyX3_copyFrom rfl rfl (Nat.le_of_ble_eq_true rfl) dX6_daysTillMown_8 (fun r1 s2 => ?_)
  change G X 11 [.ref (X.B + 0), .int a1, .null] [] s2 _
  refine g_iconst (pc := 11) K (0) dX6_daysTillMown_11 (by decide) ?_
  refine g_istore_n (pc := 12) K 2 dX6_daysTillMown_12 rfl (by decide) ?_
  change G X 13 [.ref (X.B + 0), .int a1, .int (0)] [] s2 _
  refine g_weak (L' := [.ref (X.B + 0), .int a1, .int (0)]) ⟨rfl, ⟨rfl, ⟨rfl, trivial⟩⟩⟩ ?_
  refine tM_X6_daysTillMown_L13 K hR a1 _ (fun s7 => ?_) 400 (0) s2
  refine g_bipush (pc := 47) K (-9) dX6_daysTillMown_47 (by decide) ?_
  exact g_ir (pc := 49) hR dX6_daysTillMown_49
theorem qX6_daysTillMown (E : Ce) (a1 : Int32) : Con E yX6_daysTillMown cX6_daysTillMown 3 (some .int) 5 [.ref (E.B + 0), .int a1] (M_X6_daysTillMown a1) :=
  Con.of (by decide) (List.forall_mem_cons.mpr ⟨rfl, List.forall_mem_cons.mpr ⟨rfl, fun _ h => absurd h List.not_mem_nil⟩⟩) (Nat.le_of_ble_eq_true rfl) (Or.inr (Or.inl rfl)) [.ref (E.B + 0), .int a1, .null] ⟨rfl, ⟨rfl, trivial⟩⟩ (fun X s hE hok hI hZ hV => by subst hE; exact tX6_daysTillMown hok (hI rfl) a1 s)
theorem hyX6_farmer : yX6_farmer.cls ≠ "java/lang/invoke/MethodHandle" ∧ yX6_farmer.cls ≠ "java/lang/invoke/VarHandle" ∧ (parseMethodDescriptor yX6_farmer.desc).map (fun d => d.parameters.length) = some 2 := by decide +kernel
set_option maxRecDepth 20000 in
set_option maxHeartbeats 4000000 in
theorem tX6_farmer {X : Cx} (K : Ok X cX6_farmer RX6 3 6) (hR : RI X cX6_farmer) (a1 : Int32) (a2 : Int32) (s : St) : G X 0 [.ref (X.B + 0), .int a1, .int a2] [] s (M_X6_farmer a1 a2 s) := by
  unfold M_X6_farmer
  refine g_aload_n (pc := 0) K 0 dX6_farmer_0 rfl rfl ?_
  refine gg_6_2 (pc := 1) K (by decide) kd_0 kX6_23 dX6_farmer_1 ?_
  refine g_iload_n (pc := 4) K 1 dX6_farmer_4 rfl rfl ?_
  refine g_callVN (pc := 5) (S := []) K (qX1_has X.E 9 frm_9 a1) (by decide) (ci := 1) rfl (fun _ => ⟨_, ce_1 kd_9⟩) (by decide) (by decide) wcX1_has wiX1 kX6_101 wmX1_has weX1_has hyX1_has rfl rfl (Nat.le_of_ble_eq_true rfl) dX6_farmer_5 (fun r1 s2 => ?_)
  change G X 8 [.ref (X.B + 0), .int a1, .int a2] [.int r1] s2 _
  refine g_if_ne (pc := 8) K 13 dX6_farmer_8 (by decide) ?_ ?_
  · refine g_iload_n (pc := 13) K 2 dX6_farmer_13 rfl rfl ?_
    refine g_case (pc := 14) (0) ?_ (fun n4 => ?_)
    · refine g_tin (pc := 14) (off := 54) K 68 dX6_farmer_14 (by decide) (by decide) (by decide) (by decide) ?_
      refine g_aload_n (pc := 68) K 0 dX6_farmer_68 rfl rfl ?_
      refine gg_6_2 (pc := 69) K (by decide) kd_0 kX6_23 dX6_farmer_69 ?_
      refine gg_1_1 (pc := 72) K (by decide) kd_9 kX6_104 dX6_farmer_72 10 rfl ?_
      refine g_iload_n (pc := 75) K 1 dX6_farmer_75 rfl rfl ?_
      refine g_iaload (pc := 76) K (by decide) kd_10 ln_10 dX6_farmer_76 (fun v3 => ?_)
      exact g_ir (pc := 77) hR dX6_farmer_77
    refine g_case (pc := 14) (1) ?_ (fun n6 => ?_)
    · refine g_tin (pc := 14) (off := 64) K 78 dX6_farmer_14 (by decide) (by decide) (by decide) (by decide) ?_
      refine g_aload_n (pc := 78) K 0 dX6_farmer_78 rfl rfl ?_
      refine gg_6_3 (pc := 79) K (by decide) kd_0 kX6_31 dX6_farmer_79 ?_
      refine gg_3_3 (pc := 82) K (by decide) kd_15 kX6_107 dX6_farmer_82 16 rfl ?_
      refine g_iload_n (pc := 85) K 1 dX6_farmer_85 rfl rfl ?_
      refine g_iaload (pc := 86) K (by decide) kd_16 ln_16 dX6_farmer_86 (fun v5 => ?_)
      exact g_ir (pc := 87) hR dX6_farmer_87
    refine g_case (pc := 14) (2) ?_ (fun n8 => ?_)
    · refine g_tin (pc := 14) (off := 74) K 88 dX6_farmer_14 (by decide) (by decide) (by decide) (by decide) ?_
      refine g_aload_n (pc := 88) K 0 dX6_farmer_88 rfl rfl ?_
      refine gg_6_2 (pc := 89) K (by decide) kd_0 kX6_23 dX6_farmer_89 ?_
      refine gg_1_3 (pc := 92) K (by decide) kd_9 kX6_110 dX6_farmer_92 12 rfl ?_
      refine g_iload_n (pc := 95) K 1 dX6_farmer_95 rfl rfl ?_
      refine g_iaload (pc := 96) K (by decide) kd_12 ln_12 dX6_farmer_96 (fun v7 => ?_)
      exact g_ir (pc := 97) hR dX6_farmer_97
    refine g_case (pc := 14) (3) ?_ (fun n10 => ?_)
    · refine g_tin (pc := 14) (off := 84) K 98 dX6_farmer_14 (by decide) (by decide) (by decide) (by decide) ?_
      refine g_aload_n (pc := 98) K 0 dX6_farmer_98 rfl rfl ?_
      refine gg_6_2 (pc := 99) K (by decide) kd_0 kX6_23 dX6_farmer_99 ?_
      refine gg_1_4 (pc := 102) K (by decide) kd_9 kX6_113 dX6_farmer_102 13 rfl ?_
      refine g_iload_n (pc := 105) K 1 dX6_farmer_105 rfl rfl ?_
      refine g_iaload (pc := 106) K (by decide) kd_13 ln_13 dX6_farmer_106 (fun v9 => ?_)
      exact g_ir (pc := 107) hR dX6_farmer_107
    refine g_case (pc := 14) (4) ?_ (fun n12 => ?_)
    · refine g_tin (pc := 14) (off := 94) K 108 dX6_farmer_14 (by decide) (by decide) (by decide) (by decide) ?_
      refine g_aload_n (pc := 108) K 0 dX6_farmer_108 rfl rfl ?_
      refine gg_6_3 (pc := 109) K (by decide) kd_0 kX6_31 dX6_farmer_109 ?_
      refine gg_3_4 (pc := 112) K (by decide) kd_15 kX6_116 dX6_farmer_112 17 rfl ?_
      refine g_iload_n (pc := 115) K 1 dX6_farmer_115 rfl rfl ?_
      refine g_iaload (pc := 116) K (by decide) kd_17 ln_17 dX6_farmer_116 (fun v11 => ?_)
      exact g_ir (pc := 117) hR dX6_farmer_117
    refine g_case (pc := 14) (5) ?_ (fun n15 => ?_)
    · refine g_tin (pc := 14) (off := 104) K 118 dX6_farmer_14 (by decide) (by decide) (by decide) (by decide) ?_
      refine g_aload_n (pc := 118) K 0 dX6_farmer_118 rfl rfl ?_
      refine gg_6_3 (pc := 119) K (by decide) kd_0 kX6_31 dX6_farmer_119 ?_
      refine g_iload_n (pc := 122) K 1 dX6_farmer_122 rfl rfl ?_
      refine g_callVN (pc := 123) (S := []) K (qX3_hasAsked X.E 15 scn_15 a1) (by decide) (ci := 3) rfl (fun _ => ⟨_, ce_3 kd_15⟩) (by decide) (by decide) wcX3_hasAsked wiX3 kX6_119 wmX3_hasAsked weX3_hasAsked hyX3_hasAsked rfl rfl (Nat.le_of_ble_eq_true rfl) dX6_farmer_123 (fun r13 s14 => ?_)
      change G X 126 [.ref (X.B + 0), .int a1, .int a2] [.int r13] s14 _
      refine g_if_eq (pc := 126) K 133 dX6_farmer_126 (by decide) ?_ ?_
      · refine g_iconst (pc := 133) K (0) dX6_farmer_133 (by decide) ?_
        exact g_ir (pc := 134) hR dX6_farmer_134
      · refine g_iconst (pc := 129) K (1) dX6_farmer_129 (by decide) ?_
        refine g_goto (pc := 130) K 134 dX6_farmer_130 (by decide) ?_
        exact g_ir (pc := 134) hR dX6_farmer_134
    refine g_case (pc := 14) (6) ?_ (fun n18 => ?_)
    · refine g_tin (pc := 14) (off := 121) K 135 dX6_farmer_14 (by decide) (by decide) (by decide) (by decide) ?_
      refine g_aload_n (pc := 135) K 0 dX6_farmer_135 rfl rfl ?_
      refine gg_6_3 (pc := 136) K (by decide) kd_0 kX6_31 dX6_farmer_136 ?_
      refine g_iload_n (pc := 139) K 1 dX6_farmer_139 rfl rfl ?_
      refine g_callVN (pc := 140) (S := []) K (qX3_hungWith X.E 15 scn_15 a1) (by decide) (ci := 3) rfl (fun _ => ⟨_, ce_3 kd_15⟩) (by decide) (by decide) wcX3_hungWith wiX3 kX6_122 wmX3_hungWith weX3_hungWith hyX3_hungWith rfl rfl (Nat.le_of_ble_eq_true rfl) dX6_farmer_140 (fun r16 s17 => ?_)
      change G X 143 [.ref (X.B + 0), .int a1, .int a2] [.int r16] s17 _
      exact g_ir (pc := 143) hR dX6_farmer_143
    refine g_case (pc := 14) (7) ?_ (fun n21 => ?_)
    · refine g_tin (pc := 14) (off := 130) K 144 dX6_farmer_14 (by decide) (by decide) (by decide) (by decide) ?_
      refine g_aload_n (pc := 144) K 0 dX6_farmer_144 rfl rfl ?_
      refine gg_6_3 (pc := 145) K (by decide) kd_0 kX6_31 dX6_farmer_145 ?_
      refine g_iload_n (pc := 148) K 1 dX6_farmer_148 rfl rfl ?_
      refine g_callVN (pc := 149) (S := []) K (qX3_ringOf X.E 15 scn_15 a1) (by decide) (ci := 3) rfl (fun _ => ⟨_, ce_3 kd_15⟩) (by decide) (by decide) wcX3_ringOf wiX3 kX6_126 wmX3_ringOf weX3_ringOf hyX3_ringOf rfl rfl (Nat.le_of_ble_eq_true rfl) dX6_farmer_149 (fun r19 s20 => ?_)
      change G X 152 [.ref (X.B + 0), .int a1, .int a2] [.int r19] s20 _
      exact g_ir (pc := 152) hR dX6_farmer_152
    refine g_case (pc := 14) (8) ?_ (fun n24 => ?_)
    · refine g_tin (pc := 14) (off := 139) K 153 dX6_farmer_14 (by decide) (by decide) (by decide) (by decide) ?_
      refine g_aload_n (pc := 153) K 0 dX6_farmer_153 rfl rfl ?_
      refine g_iload_n (pc := 154) K 1 dX6_farmer_154 rfl rfl ?_
      refine g_callV (pc := 155) (S := []) K (qX6_daysTillAsked X.E a1) (by decide) (ci := 6) rfl (fun _ => ⟨_, ce_6 kd_0⟩) (by decide) (by decide) wcX6_daysTillAsked wiX6 kX6_129 wmX6_daysTillAsked weX6_daysTillAsked hyX6_daysTillAsked rfl rfl (Nat.le_of_ble_eq_true rfl) dX6_farmer_155 (fun r22 s23 => ?_)
      change G X 158 [.ref (X.B + 0), .int a1, .int a2] [.int r22] s23 _
      exact g_ir (pc := 158) hR dX6_farmer_158
    refine g_case (pc := 14) (9) ?_ (fun n27 => ?_)
    · refine g_tin (pc := 14) (off := 145) K 159 dX6_farmer_14 (by decide) (by decide) (by decide) (by decide) ?_
      refine g_aload_n (pc := 159) K 0 dX6_farmer_159 rfl rfl ?_
      refine g_iconst (pc := 160) K (1) dX6_farmer_160 (by decide) ?_
      refine g_iload_n (pc := 161) K 1 dX6_farmer_161 rfl rfl ?_
      refine g_ishl (pc := 162) K dX6_farmer_162 ?_
      refine g_callV (pc := 163) (S := []) K (qX6_daysTillMown X.E ((1) <<< (a1 &&& 31))) (by decide) (ci := 6) rfl (fun _ => ⟨_, ce_6 kd_0⟩) (by decide) (by decide) wcX6_daysTillMown wiX6 kX6_132 wmX6_daysTillMown weX6_daysTillMown hyX6_daysTillMown rfl rfl (Nat.le_of_ble_eq_true rfl) dX6_farmer_163 (fun r25 s26 => ?_)
      change G X 166 [.ref (X.B + 0), .int a1, .int a2] [.int r25] s26 _
      exact g_ir (pc := 166) hR dX6_farmer_166
    refine g_tout (pc := 14) K 167 dX6_farmer_14 (by have an4 := lv_neT n4 (a := 0) (by decide); have an6 := lv_neT n6 (a := 1) (by decide); have an8 := lv_neT n8 (a := 2) (by decide); have an10 := lv_neT n10 (a := 3) (by decide); have an12 := lv_neT n12 (a := 4) (by decide); have an15 := lv_neT n15 (a := 5) (by decide); have an18 := lv_neT n18 (a := 6) (by decide); have an21 := lv_neT n21 (a := 7) (by decide); have an24 := lv_neT n24 (a := 8) (by decide); have an27 := lv_neT n27 (a := 9) (by decide); omega) (by decide) ?_
    refine g_iconst (pc := 167) K (-1) dX6_farmer_167 (by decide) ?_
    exact g_ir (pc := 168) hR dX6_farmer_168
  · refine g_iconst (pc := 11) K (-1) dX6_farmer_11 (by decide) ?_
    exact g_ir (pc := 12) hR dX6_farmer_12
theorem qX6_farmer (E : Ce) (a1 : Int32) (a2 : Int32) : Con E yX6_farmer cX6_farmer 3 (some .int) 6 [.ref (E.B + 0), .int a1, .int a2] (M_X6_farmer a1 a2) :=
  Con.of (by decide) (List.forall_mem_cons.mpr ⟨rfl, List.forall_mem_cons.mpr ⟨rfl, List.forall_mem_cons.mpr ⟨rfl, fun _ h => absurd h List.not_mem_nil⟩⟩⟩) (Nat.le_of_ble_eq_true rfl) (Or.inr (Or.inl rfl)) [.ref (E.B + 0), .int a1, .int a2] ⟨rfl, ⟨rfl, ⟨rfl, trivial⟩⟩⟩ (fun X s hE hok hI hZ hV => by subst hE; exact tX6_farmer hok (hI rfl) a1 a2 s)
theorem hyX6_now : yX6_now.cls ≠ "java/lang/invoke/MethodHandle" ∧ yX6_now.cls ≠ "java/lang/invoke/VarHandle" ∧ (parseMethodDescriptor yX6_now.desc).map (fun d => d.parameters.length) = some 1 := by decide +kernel
set_option maxRecDepth 20000 in
set_option maxHeartbeats 4000000 in
theorem tX6_now {X : Cx} (K : Ok X cX6_now RX6 2 6) (hR : RI X cX6_now) (a1 : Int32) (s : St) : G X 0 [.ref (X.B + 0), .int a1] [] s (M_X6_now a1 s) := by
  unfold M_X6_now
  refine g_iload_n (pc := 0) K 1 dX6_now_0 rfl rfl ?_
  refine g_case (pc := 1) (0) ?_ (fun n1 => ?_)
  · refine g_tin (pc := 1) (off := 35) K 36 dX6_now_1 (by decide) (by decide) (by decide) (by decide) ?_
    refine g_aload_n (pc := 36) K 0 dX6_now_36 rfl rfl ?_
    refine gg_6_3 (pc := 37) K (by decide) kd_0 kX6_31 dX6_now_37 ?_
    refine gg_3_1 (pc := 40) K (by decide) kd_15 kX6_135 dX6_now_40 ?_
    exact g_ir (pc := 43) hR dX6_now_43
  refine g_case (pc := 1) (1) ?_ (fun n2 => ?_)
  · refine g_tin (pc := 1) (off := 43) K 44 dX6_now_1 (by decide) (by decide) (by decide) (by decide) ?_
    refine g_aload_n (pc := 44) K 0 dX6_now_44 rfl rfl ?_
    refine gg_6_3 (pc := 45) K (by decide) kd_0 kX6_31 dX6_now_45 ?_
    refine gg_3_2 (pc := 48) K (by decide) kd_15 kX6_138 dX6_now_48 ?_
    exact g_ir (pc := 51) hR dX6_now_51
  refine g_case (pc := 1) (2) ?_ (fun n5 => ?_)
  · refine g_tin (pc := 1) (off := 51) K 52 dX6_now_1 (by decide) (by decide) (by decide) (by decide) ?_
    refine g_aload_n (pc := 52) K 0 dX6_now_52 rfl rfl ?_
    refine gg_6_3 (pc := 53) K (by decide) kd_0 kX6_31 dX6_now_53 ?_
    refine g_callVN (pc := 56) (S := []) K (qX3_leftTogether X.E 15 scn_15) (by decide) (ci := 3) rfl (fun _ => ⟨_, ce_3 kd_15⟩) (by decide) (by decide) wcX3_leftTogether wiX3 kX6_141 wmX3_leftTogether weX3_leftTogether hyX3_leftTogether rfl rfl (Nat.le_of_ble_eq_true rfl) dX6_now_56 (fun r3 s4 => ?_)
    change G X 59 [.ref (X.B + 0), .int a1] [.int r3] s4 _
    exact g_ir (pc := 59) hR dX6_now_59
  refine g_case (pc := 1) (3) ?_ (fun n10 => ?_)
  · refine g_tin (pc := 1) (off := 59) K 60 dX6_now_1 (by decide) (by decide) (by decide) (by decide) ?_
    refine g_aload_n (pc := 60) K 0 dX6_now_60 rfl rfl ?_
    refine g_aload_n (pc := 61) K 0 dX6_now_61 rfl rfl ?_
    refine gg_6_2 (pc := 62) K (by decide) kd_0 kX6_23 dX6_now_62 ?_
    refine g_callVN (pc := 65) (S := [.ref (X.B + 0)]) K (qX1_everyone X.E 9 frm_9) (by decide) (ci := 1) rfl (fun _ => ⟨_, ce_1 kd_9⟩) (by decide) (by decide) wcX1_everyone wiX1 kX6_145 wmX1_everyone weX1_everyone hyX1_everyone rfl rfl (Nat.le_of_ble_eq_true rfl) dX6_now_65 (fun r6 s7 => ?_)
    change G X 68 [.ref (X.B + 0), .int a1] [.int r6, .ref (X.B + 0)] s7 _
    refine g_callV (pc := 68) (S := []) K (qX6_daysTillMown X.E r6) (by decide) (ci := 6) rfl (fun _ => ⟨_, ce_6 kd_0⟩) (by decide) (by decide) wcX6_daysTillMown wiX6 kX6_132 wmX6_daysTillMown weX6_daysTillMown hyX6_daysTillMown rfl rfl (Nat.le_of_ble_eq_true rfl) dX6_now_68 (fun r8 s9 => ?_)
    change G X 71 [.ref (X.B + 0), .int a1] [.int r8] s9 _
    exact g_ir (pc := 71) hR dX6_now_71
  refine g_case (pc := 1) (4) ?_ (fun n11 => ?_)
  · refine g_tin (pc := 1) (off := 71) K 72 dX6_now_1 (by decide) (by decide) (by decide) (by decide) ?_
    refine g_aload_n (pc := 72) K 0 dX6_now_72 rfl rfl ?_
    refine gg_6_5 (pc := 73) K (by decide) kd_0 kX6_41 dX6_now_73 ?_
    refine gg_2_2 (pc := 76) K (by decide) kd_21 kX6_96 dX6_now_76 ?_
    exact g_ir (pc := 79) hR dX6_now_79
  refine g_tout (pc := 1) K 80 dX6_now_1 (by have an1 := lv_neT n1 (a := 0) (by decide); have an2 := lv_neT n2 (a := 1) (by decide); have an5 := lv_neT n5 (a := 2) (by decide); have an10 := lv_neT n10 (a := 3) (by decide); have an11 := lv_neT n11 (a := 4) (by decide); omega) (by decide) ?_
  refine g_iconst (pc := 80) K (-1) dX6_now_80 (by decide) ?_
  exact g_ir (pc := 81) hR dX6_now_81
theorem qX6_now (E : Ce) (a1 : Int32) : Con E yX6_now cX6_now 2 (some .int) 6 [.ref (E.B + 0), .int a1] (M_X6_now a1) :=
  Con.of (by decide) (List.forall_mem_cons.mpr ⟨rfl, List.forall_mem_cons.mpr ⟨rfl, fun _ h => absurd h List.not_mem_nil⟩⟩) (Nat.le_of_ble_eq_true rfl) (Or.inr (Or.inl rfl)) [.ref (E.B + 0), .int a1] ⟨rfl, ⟨rfl, trivial⟩⟩ (fun X s hE hok hI hZ hV => by subst hE; exact tX6_now hok (hI rfl) a1 s)
theorem hyX6_day : yX6_day.cls ≠ "java/lang/invoke/MethodHandle" ∧ yX6_day.cls ≠ "java/lang/invoke/VarHandle" ∧ (parseMethodDescriptor yX6_day.desc).map (fun d => d.parameters.length) = some 1 := by decide +kernel
set_option maxRecDepth 20000 in
set_option maxHeartbeats 4000000 in
theorem tX6_day {X : Cx} (K : Ok X cX6_day RX6 2 5) (hR : RI X cX6_day) (a1 : Int32) (s : St) : G X 0 [.ref (X.B + 0), .int a1] [] s (M_X6_day a1 s) := by
  unfold M_X6_day
  refine g_iload_n (pc := 0) K 1 dX6_day_0 rfl rfl ?_
  refine g_iconst (pc := 1) K (0) dX6_day_1 (by decide) ?_
  refine g_iconst (pc := 2) K (1) dX6_day_2 (by decide) ?_
  refine g_callS (pc := 3) (S := []) K (qX6_within X.E a1 (0) (1)) (by decide) (by decide) wcX6_within wiX6 kX6_71 wtX6_within hyX6_within rfl rfl (Nat.le_of_ble_eq_true rfl) dX6_day_3 (fun r1 s2 => ?_)
  change G X 6 [.ref (X.B + 0), .int a1] [.int r1] s2 _
  refine g_if_ne (pc := 6) K 11 dX6_day_6 (by decide) ?_ ?_
  · refine g_aload_n (pc := 11) K 0 dX6_day_11 rfl rfl ?_
    refine gg_6_3 (pc := 12) K (by decide) kd_0 kX6_31 dX6_day_12 ?_
    refine gg_3_1 (pc := 15) K (by decide) kd_15 kX6_135 dX6_day_15 ?_
    refine g_sipush (pc := 18) K (999) dX6_day_18 (by decide) ?_
    refine g_icmp_lt (pc := 21) K 27 dX6_day_21 (by decide) ?_ ?_
    · refine g_aload_n (pc := 27) K 0 dX6_day_27 rfl rfl ?_
      refine gg_6_5 (pc := 28) K (by decide) kd_0 kX6_41 dX6_day_28 ?_
      refine g_aload_n (pc := 31) K 0 dX6_day_31 rfl rfl ?_
      refine gg_6_3 (pc := 32) K (by decide) kd_0 kX6_31 dX6_day_32 ?_
      refine g_callVN (pc := 35) (S := []) K (qX2_push X.E 15 scn_15) (by decide) (ci := 2) rfl (fun _ => ⟨_, ce_2 kd_21⟩) (by decide) (by decide) wcX2_push wiX2 kX6_148 wmX2_push weX2_push hyX2_push rfl rfl (Nat.le_of_ble_eq_true rfl) dX6_day_35 (fun r3 s4 => ?_)
      change G X 38 [.ref (X.B + 0), .int a1] [] s4 _
      refine g_aload_n (pc := 38) K 0 dX6_day_38 rfl rfl ?_
      refine gg_6_3 (pc := 39) K (by decide) kd_0 kX6_31 dX6_day_39 ?_
      refine g_iload_n (pc := 42) K 1 dX6_day_42 rfl rfl ?_
      refine g_iconst (pc := 43) K (1) dX6_day_43 (by decide) ?_
      refine g_jn (κ := Int32 → St → Option (Int32 × St)) (fun kj5 => ∀ (v6 : Int32) (s7 : St), G X 52 [.null, .null] [.int v6, .ref (X.B + 15)] s7 (kj5 v6 s7)) (fun v6 s7 => ?_) (fun kj5 hkj5 => ?_)
      · refine g_callVN (pc := 52) (S := []) K (qX3_pass X.E 15 scn_15 v6) (by decide) (ci := 3) rfl (fun _ => ⟨_, ce_3 kd_15⟩) (by decide) (by decide) wcX3_pass wiX3 kX6_152 wmX3_pass weX3_pass hyX3_pass rfl rfl (Nat.le_of_ble_eq_true rfl) dX6_day_52 (fun r8 s9 => ?_)
        change G X 55 [.null, .null] [.int r8] s9 _
        exact g_ir (pc := 55) hR dX6_day_55
      · refine g_icmp_ne (pc := 44) K 51 dX6_day_44 (by decide) ?_ ?_
        · refine g_iconst (pc := 51) K (0) dX6_day_51 (by decide) ?_
          exact g_wk (hkj5 (0) s4) trivial
        · refine g_iconst (pc := 47) K (1) dX6_day_47 (by decide) ?_
          refine g_goto (pc := 48) K 52 dX6_day_48 (by decide) ?_
          exact g_wk (hkj5 (1) s4) trivial
    · refine g_bipush (pc := 24) K (-2) dX6_day_24 (by decide) ?_
      exact g_ir (pc := 26) hR dX6_day_26
  · refine g_iconst (pc := 9) K (-1) dX6_day_9 (by decide) ?_
    exact g_ir (pc := 10) hR dX6_day_10
theorem qX6_day (E : Ce) (a1 : Int32) : Con E yX6_day cX6_day 2 (some .int) 5 [.ref (E.B + 0), .int a1] (M_X6_day a1) :=
  Con.of (by decide) (List.forall_mem_cons.mpr ⟨rfl, List.forall_mem_cons.mpr ⟨rfl, fun _ h => absurd h List.not_mem_nil⟩⟩) (Nat.le_of_ble_eq_true rfl) (Or.inr (Or.inl rfl)) [.ref (E.B + 0), .int a1] ⟨rfl, ⟨rfl, trivial⟩⟩ (fun X s hE hok hI hZ hV => by subst hE; exact tX6_day hok (hI rfl) a1 s)
theorem hyX6_brings : yX6_brings.cls ≠ "java/lang/invoke/MethodHandle" ∧ yX6_brings.cls ≠ "java/lang/invoke/VarHandle" ∧ (parseMethodDescriptor yX6_brings.desc).map (fun d => d.parameters.length) = some 1 := by decide +kernel
set_option maxRecDepth 20000 in
set_option maxHeartbeats 4000000 in
theorem tX6_brings {X : Cx} (K : Ok X cX6_brings RX6 2 3) (hR : RI X cX6_brings) (a1 : Int32) (s : St) : G X 0 [.ref (X.B + 0), .int a1] [] s (M_X6_brings a1 s) := by
  unfold M_X6_brings
  refine g_aload_n (pc := 0) K 0 dX6_brings_0 rfl rfl ?_
  refine gg_6_2 (pc := 1) K (by decide) kd_0 kX6_23 dX6_brings_1 ?_
  refine g_iload_n (pc := 4) K 1 dX6_brings_4 rfl rfl ?_
  refine g_callVN (pc := 5) (S := []) K (qX1_has X.E 9 frm_9 a1) (by decide) (ci := 1) rfl (fun _ => ⟨_, ce_1 kd_9⟩) (by decide) (by decide) wcX1_has wiX1 kX6_101 wmX1_has weX1_has hyX1_has rfl rfl (Nat.le_of_ble_eq_true rfl) dX6_brings_5 (fun r1 s2 => ?_)
  change G X 8 [.ref (X.B + 0), .int a1] [.int r1] s2 _
  refine g_if_ne (pc := 8) K 13 dX6_brings_8 (by decide) ?_ ?_
  · refine g_aload_n (pc := 13) K 0 dX6_brings_13 rfl rfl ?_
    refine gg_6_3 (pc := 14) K (by decide) kd_0 kX6_31 dX6_brings_14 ?_
    refine g_iload_n (pc := 17) K 1 dX6_brings_17 rfl rfl ?_
    refine g_callVN (pc := 18) (S := []) K (qX3_hasAsked X.E 15 scn_15 a1) (by decide) (ci := 3) rfl (fun _ => ⟨_, ce_3 kd_15⟩) (by decide) (by decide) wcX3_hasAsked wiX3 kX6_119 wmX3_hasAsked weX3_hasAsked hyX3_hasAsked rfl rfl (Nat.le_of_ble_eq_true rfl) dX6_brings_18 (fun r3 s4 => ?_)
    change G X 21 [.ref (X.B + 0), .int a1] [.int r3] s4 _
    refine g_if_eq (pc := 21) K 27 dX6_brings_21 (by decide) ?_ ?_
    · refine g_aload_n (pc := 27) K 0 dX6_brings_27 rfl rfl ?_
      refine gg_6_5 (pc := 28) K (by decide) kd_0 kX6_41 dX6_brings_28 ?_
      refine g_aload_n (pc := 31) K 0 dX6_brings_31 rfl rfl ?_
      refine gg_6_3 (pc := 32) K (by decide) kd_0 kX6_31 dX6_brings_32 ?_
      refine g_callVN (pc := 35) (S := []) K (qX2_push X.E 15 scn_15) (by decide) (ci := 2) rfl (fun _ => ⟨_, ce_2 kd_21⟩) (by decide) (by decide) wcX2_push wiX2 kX6_148 wmX2_push weX2_push hyX2_push rfl rfl (Nat.le_of_ble_eq_true rfl) dX6_brings_35 (fun r5 s6 => ?_)
      change G X 38 [.ref (X.B + 0), .int a1] [] s6 _
      refine g_aload_n (pc := 38) K 0 dX6_brings_38 rfl rfl ?_
      refine gg_6_3 (pc := 39) K (by decide) kd_0 kX6_31 dX6_brings_39 ?_
      refine g_dup (pc := 42) K dX6_brings_42 rfl ?_
      refine gg_3_2 (pc := 43) K (by decide) kd_15 kX6_138 dX6_brings_43 ?_
      refine g_iconst (pc := 46) K (1) dX6_brings_46 (by decide) ?_
      refine g_iload_n (pc := 47) K 1 dX6_brings_47 rfl rfl ?_
      refine g_ishl (pc := 48) K dX6_brings_48 ?_
      refine g_ior (pc := 49) K dX6_brings_49 ?_
      refine gp_3_2 (pc := 50) K (by decide) kd_15 kX6_138 dX6_brings_50 (fun s7 => ?_)
      refine g_aload_n (pc := 53) K 0 dX6_brings_53 rfl rfl ?_
      refine gg_6_3 (pc := 54) K (by decide) kd_0 kX6_31 dX6_brings_54 ?_
      refine gg_3_2 (pc := 57) K (by decide) kd_15 kX6_138 dX6_brings_57 ?_
      refine g_callS (pc := 60) (S := []) K (qJ6_bitCount_0f7a4 X.E (s7.1 15 2)) (by decide) (by decide) wcJ6_bitCount_0f7a4 wiJ6 kX6_156 wtJ6_bitCount_0f7a4 hyJ6_bitCount_0f7a4 rfl rfl (Nat.le_of_ble_eq_true rfl) dX6_brings_60 (fun r8 s9 => ?_)
      change G X 63 [.ref (X.B + 0), .int a1] [.int r8] s9 _
      exact g_ir (pc := 63) hR dX6_brings_63
    · refine g_bipush (pc := 24) K (-2) dX6_brings_24 (by decide) ?_
      exact g_ir (pc := 26) hR dX6_brings_26
  · refine g_iconst (pc := 11) K (-1) dX6_brings_11 (by decide) ?_
    exact g_ir (pc := 12) hR dX6_brings_12
theorem qX6_brings (E : Ce) (a1 : Int32) : Con E yX6_brings cX6_brings 2 (some .int) 3 [.ref (E.B + 0), .int a1] (M_X6_brings a1) :=
  Con.of (by decide) (List.forall_mem_cons.mpr ⟨rfl, List.forall_mem_cons.mpr ⟨rfl, fun _ h => absurd h List.not_mem_nil⟩⟩) (Nat.le_of_ble_eq_true rfl) (Or.inr (Or.inl rfl)) [.ref (E.B + 0), .int a1] ⟨rfl, ⟨rfl, trivial⟩⟩ (fun X s hE hok hI hZ hV => by subst hE; exact tX6_brings hok (hI rfl) a1 s)
theorem hyX6_hangs : yX6_hangs.cls ≠ "java/lang/invoke/MethodHandle" ∧ yX6_hangs.cls ≠ "java/lang/invoke/VarHandle" ∧ (parseMethodDescriptor yX6_hangs.desc).map (fun d => d.parameters.length) = some 2 := by decide +kernel
set_option maxRecDepth 20000 in
set_option maxHeartbeats 4000000 in
theorem tX6_hangs {X : Cx} (K : Ok X cX6_hangs RX6 4 3) (hR : RI X cX6_hangs) (a1 : Int32) (a2 : Int32) (s : St) : G X 0 [.ref (X.B + 0), .int a1, .int a2, .null] [] s (M_X6_hangs a1 a2 s) := by
  unfold M_X6_hangs
  refine g_aload_n (pc := 0) K 0 dX6_hangs_0 rfl rfl ?_
  refine gg_6_2 (pc := 1) K (by decide) kd_0 kX6_23 dX6_hangs_1 ?_
  refine g_iload_n (pc := 4) K 1 dX6_hangs_4 rfl rfl ?_
  refine g_callVN (pc := 5) (S := []) K (qX1_has X.E 9 frm_9 a1) (by decide) (ci := 1) rfl (fun _ => ⟨_, ce_1 kd_9⟩) (by decide) (by decide) wcX1_has wiX1 kX6_101 wmX1_has weX1_has hyX1_has rfl rfl (Nat.le_of_ble_eq_true rfl) dX6_hangs_5 (fun r1 s2 => ?_)
  change G X 8 [.ref (X.B + 0), .int a1, .int a2, .null] [.int r1] s2 _
  refine g_if_eq (pc := 8) K 27 dX6_hangs_8 (by decide) ?_ ?_
  · refine g_iconst (pc := 27) K (-1) dX6_hangs_27 (by decide) ?_
    exact g_ir (pc := 28) hR dX6_hangs_28
  · refine g_aload_n (pc := 11) K 0 dX6_hangs_11 rfl rfl ?_
    refine gg_6_2 (pc := 12) K (by decide) kd_0 kX6_23 dX6_hangs_12 ?_
    refine g_iload_n (pc := 15) K 2 dX6_hangs_15 rfl rfl ?_
    refine g_callVN (pc := 16) (S := []) K (qX1_has X.E 9 frm_9 a2) (by decide) (ci := 1) rfl (fun _ => ⟨_, ce_1 kd_9⟩) (by decide) (by decide) wcX1_has wiX1 kX6_101 wmX1_has weX1_has hyX1_has rfl rfl (Nat.le_of_ble_eq_true rfl) dX6_hangs_16 (fun r3 s4 => ?_)
    change G X 19 [.ref (X.B + 0), .int a1, .int a2, .null] [.int r3] s4 _
    refine g_if_eq (pc := 19) K 27 dX6_hangs_19 (by decide) ?_ ?_
    · refine g_iconst (pc := 27) K (-1) dX6_hangs_27 (by decide) ?_
      exact g_ir (pc := 28) hR dX6_hangs_28
    · refine g_iload_n (pc := 22) K 1 dX6_hangs_22 rfl rfl ?_
      refine g_iload_n (pc := 23) K 2 dX6_hangs_23 rfl rfl ?_
      refine g_icmp_ne (pc := 24) K 29 dX6_hangs_24 (by decide) ?_ ?_
      · refine g_aload_n (pc := 29) K 0 dX6_hangs_29 rfl rfl ?_
        refine gg_6_3 (pc := 30) K (by decide) kd_0 kX6_31 dX6_hangs_30 ?_
        refine gg_3_4 (pc := 33) K (by decide) kd_15 kX6_116 dX6_hangs_33 17 rfl ?_
        refine g_iload_n (pc := 36) K 1 dX6_hangs_36 rfl rfl ?_
        refine g_iaload (pc := 37) K (by decide) kd_17 ln_17 dX6_hangs_37 (fun v5 => ?_)
        refine g_istore_n (pc := 38) K 3 dX6_hangs_38 rfl (by decide) ?_
        change G X 39 [.ref (X.B + 0), .int a1, .int a2, .int v5] [] s4 _
        refine g_aload_n (pc := 39) K 0 dX6_hangs_39 rfl rfl ?_
        refine gg_6_3 (pc := 40) K (by decide) kd_0 kX6_31 dX6_hangs_40 ?_
        refine g_iload_n (pc := 43) K 1 dX6_hangs_43 rfl rfl ?_
        refine g_callVN (pc := 44) (S := []) K (qX3_hasAsked X.E 15 scn_15 a1) (by decide) (ci := 3) rfl (fun _ => ⟨_, ce_3 kd_15⟩) (by decide) (by decide) wcX3_hasAsked wiX3 kX6_119 wmX3_hasAsked weX3_hasAsked hyX3_hasAsked rfl rfl (Nat.le_of_ble_eq_true rfl) dX6_hangs_44 (fun r6 s7 => ?_)
        change G X 47 [.ref (X.B + 0), .int a1, .int a2, .int v5] [.int r6] s7 _
        refine g_if_ne (pc := 47) K 55 dX6_hangs_47 (by decide) ?_ ?_
        · refine g_bipush (pc := 55) K (-2) dX6_hangs_55 (by decide) ?_
          exact g_ir (pc := 57) hR dX6_hangs_57
        · refine g_iload_n (pc := 50) K 3 dX6_hangs_50 rfl rfl ?_
          refine g_iload_n (pc := 51) K 2 dX6_hangs_51 rfl rfl ?_
          refine g_icmp_ne (pc := 52) K 58 dX6_hangs_52 (by decide) ?_ ?_
          · refine g_aload_n (pc := 58) K 0 dX6_hangs_58 rfl rfl ?_
            refine gg_6_5 (pc := 59) K (by decide) kd_0 kX6_41 dX6_hangs_59 ?_
            refine g_aload_n (pc := 62) K 0 dX6_hangs_62 rfl rfl ?_
            refine gg_6_3 (pc := 63) K (by decide) kd_0 kX6_31 dX6_hangs_63 ?_
            refine g_callVN (pc := 66) (S := []) K (qX2_push X.E 15 scn_15) (by decide) (ci := 2) rfl (fun _ => ⟨_, ce_2 kd_21⟩) (by decide) (by decide) wcX2_push wiX2 kX6_148 wmX2_push weX2_push hyX2_push rfl rfl (Nat.le_of_ble_eq_true rfl) dX6_hangs_66 (fun r8 s9 => ?_)
            change G X 69 [.ref (X.B + 0), .int a1, .int a2, .int v5] [] s9 _
            refine g_aload_n (pc := 69) K 0 dX6_hangs_69 rfl rfl ?_
            refine gg_6_3 (pc := 70) K (by decide) kd_0 kX6_31 dX6_hangs_70 ?_
            refine gg_3_4 (pc := 73) K (by decide) kd_15 kX6_116 dX6_hangs_73 17 rfl ?_
            refine g_iload_n (pc := 76) K 1 dX6_hangs_76 rfl rfl ?_
            refine g_iload_n (pc := 77) K 2 dX6_hangs_77 rfl rfl ?_
            refine g_iastore (pc := 78) K (by decide) kd_17 ln_17 dX6_hangs_78 (fun s10 => ?_)
            refine g_iload_n (pc := 79) K 3 dX6_hangs_79 rfl rfl ?_
            exact g_ir (pc := 80) hR dX6_hangs_80
          · refine g_bipush (pc := 55) K (-2) dX6_hangs_55 (by decide) ?_
            exact g_ir (pc := 57) hR dX6_hangs_57
      · refine g_iconst (pc := 27) K (-1) dX6_hangs_27 (by decide) ?_
        exact g_ir (pc := 28) hR dX6_hangs_28
theorem qX6_hangs (E : Ce) (a1 : Int32) (a2 : Int32) : Con E yX6_hangs cX6_hangs 4 (some .int) 3 [.ref (E.B + 0), .int a1, .int a2] (M_X6_hangs a1 a2) :=
  Con.of (by decide) (List.forall_mem_cons.mpr ⟨rfl, List.forall_mem_cons.mpr ⟨rfl, List.forall_mem_cons.mpr ⟨rfl, fun _ h => absurd h List.not_mem_nil⟩⟩⟩) (Nat.le_of_ble_eq_true rfl) (Or.inr (Or.inl rfl)) [.ref (E.B + 0), .int a1, .int a2, .null] ⟨rfl, ⟨rfl, ⟨rfl, trivial⟩⟩⟩ (fun X s hE hok hI hZ hV => by subst hE; exact tX6_hangs hok (hI rfl) a1 a2 s)
theorem hyX6_undo : yX6_undo.cls ≠ "java/lang/invoke/MethodHandle" ∧ yX6_undo.cls ≠ "java/lang/invoke/VarHandle" ∧ (parseMethodDescriptor yX6_undo.desc).map (fun d => d.parameters.length) = some 0 := by decide +kernel
set_option maxRecDepth 20000 in
set_option maxHeartbeats 4000000 in
theorem tX6_undo {X : Cx} (K : Ok X cX6_undo RX6 1 3) (hR : RI X cX6_undo) (s : St) : G X 0 [.ref (X.B + 0)] [] s (M_X6_undo s) := by
  unfold M_X6_undo
  refine g_aload_n (pc := 0) K 0 dX6_undo_0 rfl rfl ?_
  refine gg_6_5 (pc := 1) K (by decide) kd_0 kX6_41 dX6_undo_1 ?_
  refine gg_2_2 (pc := 4) K (by decide) kd_21 kX6_96 dX6_undo_4 ?_
  refine g_if_ne (pc := 7) K 13 dX6_undo_7 (by decide) ?_ ?_
  · refine g_aload_n (pc := 13) K 0 dX6_undo_13 rfl rfl ?_
    refine gg_6_5 (pc := 14) K (by decide) kd_0 kX6_41 dX6_undo_14 ?_
    refine g_aload_n (pc := 17) K 0 dX6_undo_17 rfl rfl ?_
    refine gg_6_3 (pc := 18) K (by decide) kd_0 kX6_31 dX6_undo_18 ?_
    refine g_callVN (pc := 21) (S := []) K (qX2_pop X.E 15 scn_15) (by decide) (ci := 2) rfl (fun _ => ⟨_, ce_2 kd_21⟩) (by decide) (by decide) wcX2_pop wiX2 kX6_161 wmX2_pop weX2_pop hyX2_pop rfl rfl (Nat.le_of_ble_eq_true rfl) dX6_undo_21 (fun r1 s2 => ?_)
    change G X 24 [.ref (X.B + 0)] [] s2 _
    refine g_aload_n (pc := 24) K 0 dX6_undo_24 rfl rfl ?_
    refine gg_6_5 (pc := 25) K (by decide) kd_0 kX6_41 dX6_undo_25 ?_
    refine gg_2_2 (pc := 28) K (by decide) kd_21 kX6_96 dX6_undo_28 ?_
    exact g_ir (pc := 31) hR dX6_undo_31
  · refine g_bipush (pc := 10) K (-2) dX6_undo_10 (by decide) ?_
    exact g_ir (pc := 12) hR dX6_undo_12
theorem qX6_undo (E : Ce) : Con E yX6_undo cX6_undo 1 (some .int) 3 [.ref (E.B + 0)] (M_X6_undo) :=
  Con.of (by decide) (List.forall_mem_cons.mpr ⟨rfl, fun _ h => absurd h List.not_mem_nil⟩) (Nat.le_of_ble_eq_true rfl) (Or.inr (Or.inl rfl)) [.ref (E.B + 0)] ⟨rfl, trivial⟩ (fun X s hE hok hI hZ hV => by subst hE; exact tX6_undo hok (hI rfl) s)
theorem hyX6_allAskBehind : yX6_allAskBehind.cls ≠ "java/lang/invoke/MethodHandle" ∧ yX6_allAskBehind.cls ≠ "java/lang/invoke/VarHandle" ∧ (parseMethodDescriptor yX6_allAskBehind.desc).map (fun d => d.parameters.length) = some 2 := by decide +kernel
set_option maxRecDepth 20000 in
set_option maxHeartbeats 4000000 in
theorem tM_X6_allAskBehind_L13 {X : Cx} (K : Ok X cX6_allAskBehind RX6 5 3) (hR : RZ X cX6_allAskBehind) (x1 : Int32) (kk : Int32 → St → Option (Int32 × St)) (hkk : ∀ (x3 : Int32) (s : St), G X 44 [.ref (X.B + 0), .null, .null, .int x3, .null] [] s (kk x3 s)) : ∀ (fu : Nat) (x3 x4 : Int32) (s : St), G X 13 [.ref (X.B + 0), .int x1, .null, .int x3, .int x4] [] s (M_X6_allAskBehind_L13 x1 kk fu x3 x4 s) := by
  intro fu
  induction fu with
  | zero => intro x3 x4 s; exact g_none
  | succ fu ih =>
    intro x3 x4 s
    rw [M_X6_allAskBehind_L13]
    refine g_iload (pc := 13) K dX6_allAskBehind_13 rfl ?_
    refine g_iload_n (pc := 15) K 1 dX6_allAskBehind_15 rfl rfl ?_
    refine g_icmp_ge (pc := 16) K 44 dX6_allAskBehind_16 (by decide) ?_ ?_
    · exact g_wk (hkk x3 s) ⟨rfl, ⟨rfl, trivial⟩⟩
    · refine g_aload_n (pc := 19) K 0 dX6_allAskBehind_19 rfl rfl ?_
      refine gg_6_2 (pc := 20) K (by decide) kd_0 kX6_23 dX6_allAskBehind_20 ?_
      refine g_iload_n (pc := 23) K 3 dX6_allAskBehind_23 rfl rfl ?_
      refine g_aload_n (pc := 24) K 0 dX6_allAskBehind_24 rfl rfl ?_
      refine gg_6_3 (pc := 25) K (by decide) kd_0 kX6_31 dX6_allAskBehind_25 ?_
      refine gg_3_1 (pc := 28) K (by decide) kd_15 kX6_135 dX6_allAskBehind_28 ?_
      refine g_iload (pc := 31) K dX6_allAskBehind_31 rfl ?_
      refine g_iadd (pc := 33) K dX6_allAskBehind_33 ?_
      refine g_callVN (pc := 34) (S := []) K (qX1_askedBehind X.E 9 frm_9 x3 ((s.1 15 1) + x4)) (by decide) (ci := 1) rfl (fun _ => ⟨_, ce_1 kd_9⟩) (by decide) (by decide) wcX1_askedBehind wiX1 kX6_227 wmX1_askedBehind weX1_askedBehind hyX1_askedBehind rfl rfl (Nat.le_of_ble_eq_true rfl) dX6_allAskBehind_34 (fun r1 s2 => ?_)
      change G X 37 [.ref (X.B + 0), .int x1, .null, .int x3, .int x4] [.int r1] s2 _
      refine g_istore_n (pc := 37) K 3 dX6_allAskBehind_37 rfl (by decide) ?_
      change G X 38 [.ref (X.B + 0), .int x1, .null, .int r1, .int x4] [] s2 _
      refine g_iinc (pc := 38) K (1) dX6_allAskBehind_38 rfl (by decide) (by decide) ?_
      change G X 41 [.ref (X.B + 0), .int x1, .null, .int r1, .int (x4 + (1))] [] s2 _
      refine g_goto (pc := 41) K 13 dX6_allAskBehind_41 (by decide) ?_
      exact g_wk (ih r1 (x4 + (1)) s2) ⟨rfl, ⟨rfl, ⟨rfl, ⟨rfl, trivial⟩⟩⟩⟩
set_option maxRecDepth 20000 in
set_option maxHeartbeats 4000000 in
theorem tX6_allAskBehind {X : Cx} (K : Ok X cX6_allAskBehind RX6 5 3) (hR : RZ X cX6_allAskBehind) (a1 : Int32) (a2 : Int32) (s : St) : G X 0 [.ref (X.B + 0), .int a1, .int a2, .null, .null] [] s (M_X6_allAskBehind a1 a2 s) := by
  unfold M_X6_allAskBehind
  refine g_aload_n (pc := 0) K 0 dX6_allAskBehind_0 rfl rfl ?_
  refine gg_6_3 (pc := 1) K (by decide) kd_0 kX6_31 dX6_allAskBehind_1 ?_
  refine gg_3_2 (pc := 4) K (by decide) kd_15 kX6_138 dX6_allAskBehind_4 ?_
  refine g_iload_n (pc := 7) K 2 dX6_allAskBehind_7 rfl rfl ?_
  refine g_ior (pc := 8) K dX6_allAskBehind_8 ?_
  refine g_istore_n (pc := 9) K 3 dX6_allAskBehind_9 rfl (by decide) ?_
  change G X 10 [.ref (X.B + 0), .int a1, .int a2, .int ((s.1 15 2) ||| a2), .null] [] s _
  refine g_iconst (pc := 10) K (0) dX6_allAskBehind_10 (by decide) ?_
  refine g_istore (pc := 11) K dX6_allAskBehind_11 (by decide) ?_
  change G X 13 [.ref (X.B + 0), .int a1, .int a2, .int ((s.1 15 2) ||| a2), .int (0)] [] s _
  refine g_weak (L' := [.ref (X.B + 0), .int a1, .null, .int ((s.1 15 2) ||| a2), .int (0)]) ⟨rfl, ⟨rfl, ⟨rfl, ⟨rfl, trivial⟩⟩⟩⟩ ?_
  refine tM_X6_allAskBehind_L13 K hR a1 _ (fun v3 s4 => ?_) 400 ((s.1 15 2) ||| a2) (0) s
  refine g_iload_n (pc := 44) K 3 dX6_allAskBehind_44 rfl rfl ?_
  refine g_aload_n (pc := 45) K 0 dX6_allAskBehind_45 rfl rfl ?_
  refine gg_6_2 (pc := 46) K (by decide) kd_0 kX6_23 dX6_allAskBehind_46 ?_
  refine g_callVN (pc := 49) (S := [.int v3]) K (qX1_everyone X.E 9 frm_9) (by decide) (ci := 1) rfl (fun _ => ⟨_, ce_1 kd_9⟩) (by decide) (by decide) wcX1_everyone wiX1 kX6_145 wmX1_everyone weX1_everyone hyX1_everyone rfl rfl (Nat.le_of_ble_eq_true rfl) dX6_allAskBehind_49 (fun r5 s6 => ?_)
  change G X 52 [.ref (X.B + 0), .null, .null, .int v3, .null] [.int r5, .int v3] s6 _
  refine g_icmp_ne (pc := 52) K 59 dX6_allAskBehind_52 (by decide) ?_ ?_
  · refine g_iconst (pc := 59) K (0) dX6_allAskBehind_59 (by decide) ?_
    exact g_zr0 (pc := 60) hR dX6_allAskBehind_60
  · refine g_iconst (pc := 55) K (1) dX6_allAskBehind_55 (by decide) ?_
    refine g_goto (pc := 56) K 60 dX6_allAskBehind_56 (by decide) ?_
    exact g_zr1 (pc := 60) hR dX6_allAskBehind_60
theorem qX6_allAskBehind (E : Ce) (a1 : Int32) (a2 : Int32) : Con E yX6_allAskBehind cX6_allAskBehind 5 (some .boolean) 3 [.ref (E.B + 0), .int a1, .int a2] (M_X6_allAskBehind a1 a2) :=
  Con.of (by decide) (List.forall_mem_cons.mpr ⟨rfl, List.forall_mem_cons.mpr ⟨rfl, List.forall_mem_cons.mpr ⟨rfl, fun _ h => absurd h List.not_mem_nil⟩⟩⟩) (Nat.le_of_ble_eq_true rfl) (Or.inr (Or.inr rfl)) [.ref (E.B + 0), .int a1, .int a2, .null, .null] ⟨rfl, ⟨rfl, ⟨rfl, trivial⟩⟩⟩ (fun X s hE hok hI hZ hV => by subst hE; exact tX6_allAskBehind hok (hZ rfl) a1 a2 s)
theorem hyX6_start : yX6_start.cls ≠ "java/lang/invoke/MethodHandle" ∧ yX6_start.cls ≠ "java/lang/invoke/VarHandle" ∧ (parseMethodDescriptor yX6_start.desc).map (fun d => d.parameters.length) = some 1 := by decide +kernel
set_option maxRecDepth 20000 in
set_option maxHeartbeats 4000000 in
theorem tM_X6_start_L35 {X : Cx} (K : Ok X cX6_start RX6 6 4) (hR : RI X cX6_start) (x1 : Int32) (x2 : Int32) (kk : Int32 → St → Option (Int32 × St)) (hkk : ∀ (x3 : Int32) (s : St), G X 97 [.null, .null, .null, .int x3, .null, .null] [] s (kk x3 s)) : ∀ (fu : Nat) (x3 x4 : Int32) (s : St), G X 35 [.ref (X.B + 0), .int x1, .int x2, .int x3, .int x4, .null] [] s (M_X6_start_L35 x1 x2 kk fu x3 x4 s) := by
  intro fu
  induction fu with
  | zero => intro x3 x4 s; exact g_none
  | succ fu ih =>
    intro x3 x4 s
    rw [M_X6_start_L35]
    refine g_iload (pc := 35) K dX6_start_35 rfl ?_
    refine g_iload_n (pc := 37) K 2 dX6_start_37 rfl rfl ?_
    refine g_icmp_gt (pc := 38) K 97 dX6_start_38 (by decide) ?_ ?_
    · exact g_wk (hkk x3 s) ⟨rfl, trivial⟩
    · refine g_iload (pc := 41) K dX6_start_41 rfl ?_
      refine g_callS (pc := 43) (S := []) K (qJ6_bitCount_0f7a4 X.E x4) (by decide) (by decide) wcJ6_bitCount_0f7a4 wiJ6 kX6_156 wtJ6_bitCount_0f7a4 hyJ6_bitCount_0f7a4 rfl rfl (Nat.le_of_ble_eq_true rfl) dX6_start_43 (fun r5 s6 => ?_)
      change G X 46 [.ref (X.B + 0), .int x1, .int x2, .int x3, .int x4, .null] [.int r5] s6 _
      refine g_iload_n (pc := 46) K 3 dX6_start_46 rfl rfl ?_
      refine g_callS (pc := 47) (S := [.int r5]) K (qJ6_bitCount_0f7a4 X.E x3) (by decide) (by decide) wcJ6_bitCount_0f7a4 wiJ6 kX6_156 wtJ6_bitCount_0f7a4 hyJ6_bitCount_0f7a4 rfl rfl (Nat.le_of_ble_eq_true rfl) dX6_start_47 (fun r7 s8 => ?_)
      change G X 50 [.ref (X.B + 0), .int x1, .int x2, .int x3, .int x4, .null] [.int r7, .int r5] s8 _
      refine g_jn (κ := Int32 → St → Option (Int32 × St)) (fun kj9 => ∀ (v10 : Int32) (s11 : St), G X 58 [.ref (X.B + 0), .int x1, .int x2, .int x3, .int x4, .null] [.int v10] s11 (kj9 v10 s11)) (fun v10 s11 => ?_) (fun kj9 hkj9 => ?_)
      · refine g_istore (pc := 58) K dX6_start_58 (by decide) ?_
        change G X 60 [.ref (X.B + 0), .int x1, .int x2, .int x3, .int x4, .int v10] [] s11 _
        refine g_iload (pc := 60) K dX6_start_60 rfl ?_
        refine g_jn (κ := Int32 → St → Option (Int32 × St)) (fun kj12 => ∀ (v13 : Int32) (s14 : St), G X 91 [.ref (X.B + 0), .int x1, .int x2, .int v13, .int x4, .null] [] s14 (kj12 v13 s14)) (fun v13 s14 => ?_) (fun kj12 hkj12 => ?_)
        · refine g_iinc (pc := 91) K (1) dX6_start_91 rfl (by decide) (by decide) ?_
          change G X 94 [.ref (X.B + 0), .int x1, .int x2, .int v13, .int (x4 + (1)), .null] [] s14 _
          refine g_goto (pc := 94) K 35 dX6_start_94 (by decide) ?_
          exact g_wk (ih v13 (x4 + (1)) s14) ⟨rfl, ⟨rfl, ⟨rfl, ⟨rfl, ⟨rfl, trivial⟩⟩⟩⟩⟩
        · refine g_if_eq (pc := 62) K 91 dX6_start_62 (by decide) ?_ ?_
          · exact g_wk (hkj12 x3 s11) ⟨rfl, ⟨rfl, ⟨rfl, ⟨rfl, ⟨rfl, trivial⟩⟩⟩⟩⟩
          · refine g_iload (pc := 65) K dX6_start_65 rfl ?_
            refine g_aload_n (pc := 67) K 0 dX6_start_67 rfl rfl ?_
            refine gg_6_3 (pc := 68) K (by decide) kd_0 kX6_31 dX6_start_68 ?_
            refine gg_3_2 (pc := 71) K (by decide) kd_15 kX6_138 dX6_start_71 ?_
            refine g_iand (pc := 74) K dX6_start_74 ?_
            refine g_if_ne (pc := 75) K 91 dX6_start_75 (by decide) ?_ ?_
            · exact g_wk (hkj12 x3 s11) ⟨rfl, ⟨rfl, ⟨rfl, ⟨rfl, ⟨rfl, trivial⟩⟩⟩⟩⟩
            · refine g_aload_n (pc := 78) K 0 dX6_start_78 rfl rfl ?_
              refine g_iload_n (pc := 79) K 1 dX6_start_79 rfl rfl ?_
              refine g_iload (pc := 80) K dX6_start_80 rfl ?_
              refine g_callV (pc := 82) (S := []) K (qX6_allAskBehind X.E x1 x4) (by decide) (ci := 6) rfl (fun _ => ⟨_, ce_6 kd_0⟩) (by decide) (by decide) wcX6_allAskBehind wiX6 kX6_164 wmX6_allAskBehind weX6_allAskBehind hyX6_allAskBehind rfl rfl (Nat.le_of_ble_eq_true rfl) dX6_start_82 (fun r15 s16 => ?_)
              change G X 85 [.ref (X.B + 0), .int x1, .int x2, .int x3, .int x4, .int v10] [.int r15] s16 _
              refine g_if_eq (pc := 85) K 91 dX6_start_85 (by decide) ?_ ?_
              · exact g_wk (hkj12 x3 s16) ⟨rfl, ⟨rfl, ⟨rfl, ⟨rfl, ⟨rfl, trivial⟩⟩⟩⟩⟩
              · refine g_iload (pc := 88) K dX6_start_88 rfl ?_
                refine g_istore_n (pc := 90) K 3 dX6_start_90 rfl (by decide) ?_
                change G X 91 [.ref (X.B + 0), .int x1, .int x2, .int x4, .int x4, .int v10] [] s16 _
                exact g_wk (hkj12 x4 s16) ⟨rfl, ⟨rfl, ⟨rfl, ⟨rfl, ⟨rfl, trivial⟩⟩⟩⟩⟩
      · refine g_icmp_ge (pc := 50) K 57 dX6_start_50 (by decide) ?_ ?_
        · refine g_iconst (pc := 57) K (0) dX6_start_57 (by decide) ?_
          exact g_wk (hkj9 (0) s8) ⟨rfl, ⟨rfl, ⟨rfl, ⟨rfl, ⟨rfl, trivial⟩⟩⟩⟩⟩
        · refine g_iconst (pc := 53) K (1) dX6_start_53 (by decide) ?_
          refine g_goto (pc := 54) K 58 dX6_start_54 (by decide) ?_
          exact g_wk (hkj9 (1) s8) ⟨rfl, ⟨rfl, ⟨rfl, ⟨rfl, ⟨rfl, trivial⟩⟩⟩⟩⟩
set_option maxRecDepth 20000 in
set_option maxHeartbeats 4000000 in
theorem tX6_start {X : Cx} (K : Ok X cX6_start RX6 6 4) (hR : RI X cX6_start) (a1 : Int32) (s : St) : G X 0 [.ref (X.B + 0), .int a1, .null, .null, .null, .null] [] s (M_X6_start a1 s) := by
  unfold M_X6_start
  refine g_iload_n (pc := 0) K 1 dX6_start_0 rfl rfl ?_
  refine g_iconst (pc := 1) K (0) dX6_start_1 (by decide) ?_
  refine g_bipush (pc := 2) K (20) dX6_start_2 (by decide) ?_
  refine g_callS (pc := 4) (S := []) K (qX6_within X.E a1 (0) (20)) (by decide) (by decide) wcX6_within wiX6 kX6_71 wtX6_within hyX6_within rfl rfl (Nat.le_of_ble_eq_true rfl) dX6_start_4 (fun r1 s2 => ?_)
  change G X 7 [.ref (X.B + 0), .int a1, .null, .null, .null, .null] [.int r1] s2 _
  refine g_if_ne (pc := 7) K 12 dX6_start_7 (by decide) ?_ ?_
  · refine g_aload_n (pc := 12) K 0 dX6_start_12 rfl rfl ?_
    refine gg_6_2 (pc := 13) K (by decide) kd_0 kX6_23 dX6_start_13 ?_
    refine g_callVN (pc := 16) (S := []) K (qX1_everyone X.E 9 frm_9) (by decide) (ci := 1) rfl (fun _ => ⟨_, ce_1 kd_9⟩) (by decide) (by decide) wcX1_everyone wiX1 kX6_145 wmX1_everyone weX1_everyone hyX1_everyone rfl rfl (Nat.le_of_ble_eq_true rfl) dX6_start_16 (fun r3 s4 => ?_)
    change G X 19 [.ref (X.B + 0), .int a1, .null, .null, .null, .null] [.int r3] s4 _
    refine g_istore_n (pc := 19) K 2 dX6_start_19 rfl (by decide) ?_
    change G X 20 [.ref (X.B + 0), .int a1, .int r3, .null, .null, .null] [] s4 _
    refine g_iload_n (pc := 20) K 2 dX6_start_20 rfl rfl ?_
    refine g_aload_n (pc := 21) K 0 dX6_start_21 rfl rfl ?_
    refine gg_6_3 (pc := 22) K (by decide) kd_0 kX6_31 dX6_start_22 ?_
    refine gg_3_2 (pc := 25) K (by decide) kd_15 kX6_138 dX6_start_25 ?_
    refine g_iconst (pc := 28) K (-1) dX6_start_28 (by decide) ?_
    refine g_ixor (pc := 29) K dX6_start_29 ?_
    refine g_iand (pc := 30) K dX6_start_30 ?_
    refine g_istore_n (pc := 31) K 3 dX6_start_31 rfl (by decide) ?_
    change G X 32 [.ref (X.B + 0), .int a1, .int r3, .int (r3 &&& ((s4.1 15 2) ^^^ (-1))), .null, .null] [] s4 _
    refine g_iconst (pc := 32) K (0) dX6_start_32 (by decide) ?_
    refine g_istore (pc := 33) K dX6_start_33 (by decide) ?_
    change G X 35 [.ref (X.B + 0), .int a1, .int r3, .int (r3 &&& ((s4.1 15 2) ^^^ (-1))), .int (0), .null] [] s4 _
    refine g_weak (L' := [.ref (X.B + 0), .int a1, .int r3, .int (r3 &&& ((s4.1 15 2) ^^^ (-1))), .int (0), .null]) ⟨rfl, ⟨rfl, ⟨rfl, ⟨rfl, ⟨rfl, trivial⟩⟩⟩⟩⟩ ?_
    refine tM_X6_start_L35 K hR a1 r3 _ (fun v17 s18 => ?_) 400 (r3 &&& ((s4.1 15 2) ^^^ (-1))) (0) s4
    refine g_iload_n (pc := 97) K 3 dX6_start_97 rfl rfl ?_
    exact g_ir (pc := 98) hR dX6_start_98
  · refine g_iconst (pc := 10) K (-1) dX6_start_10 (by decide) ?_
    exact g_ir (pc := 11) hR dX6_start_11
theorem qX6_start (E : Ce) (a1 : Int32) : Con E yX6_start cX6_start 6 (some .int) 4 [.ref (E.B + 0), .int a1] (M_X6_start a1) :=
  Con.of (by decide) (List.forall_mem_cons.mpr ⟨rfl, List.forall_mem_cons.mpr ⟨rfl, fun _ h => absurd h List.not_mem_nil⟩⟩) (Nat.le_of_ble_eq_true rfl) (Or.inr (Or.inl rfl)) [.ref (E.B + 0), .int a1, .null, .null, .null, .null] ⟨rfl, ⟨rfl, trivial⟩⟩ (fun X s hE hok hI hZ hV => by subst hE; exact tX6_start hok (hI rfl) a1 s)
theorem hyX6_hang : yX6_hang.cls ≠ "java/lang/invoke/MethodHandle" ∧ yX6_hang.cls ≠ "java/lang/invoke/VarHandle" ∧ (parseMethodDescriptor yX6_hang.desc).map (fun d => d.parameters.length) = some 1 := by decide +kernel
set_option maxRecDepth 20000 in
set_option maxHeartbeats 4000000 in
theorem tX6_hang {X : Cx} (K : Ok X cX6_hang RX6 2 12) (hR : RI X cX6_hang) (a1 : Int32) (s : St) : G X 0 [.ref (X.B + 0), .int a1] [] s (M_X6_hang a1 s) := by
  unfold M_X6_hang
  refine g_iload_n (pc := 0) K 1 dX6_hang_0 rfl rfl ?_
  refine g_iconst (pc := 1) K (-1) dX6_hang_1 (by decide) ?_
  refine g_jn (κ := St → Option (Int32 × St)) (fun kj1 => ∀ (s2 : St), G X 18 [.ref (X.B + 0), .int a1] [] s2 (kj1 s2)) (fun s2 => ?_) (fun kj1 hkj1 => ?_)
  · refine g_aload_n (pc := 18) K 0 dX6_hang_18 rfl rfl ?_
    refine gg_6_2 (pc := 19) K (by decide) kd_0 kX6_23 dX6_hang_19 ?_
    refine gg_1_0 (pc := 22) K (by decide) kd_9 kX6_100 dX6_hang_22 ?_
    refine g_if_ne (pc := 25) K 31 dX6_hang_25 (by decide) ?_ ?_
    · refine g_aload_n (pc := 31) K 0 dX6_hang_31 rfl rfl ?_
      refine gg_6_8 (pc := 32) K (by decide) kd_0 kX6_56 dX6_hang_32 ?_
      refine g_callVN (pc := 35) (S := []) K (qX0_search X.E ) (by decide) (ci := 0) rfl (fun _ => ⟨_, ce_0 kd_61⟩) (by decide) (by decide) wcX0_search wiX0 kX6_168 wmX0_search weX0_search hyX0_search rfl rfl (Nat.le_of_ble_eq_true rfl) dX6_hang_35 (fun r3 s4 => ?_)
      change G X 38 [.ref (X.B + 0), .int a1] [] s4 _
      refine g_iload_n (pc := 38) K 1 dX6_hang_38 rfl rfl ?_
      refine g_iconst (pc := 39) K (-1) dX6_hang_39 (by decide) ?_
      refine g_icmp_ne (pc := 40) K 53 dX6_hang_40 (by decide) ?_ ?_
      · refine g_aload_n (pc := 53) K 0 dX6_hang_53 rfl rfl ?_
        refine gg_6_8 (pc := 54) K (by decide) kd_0 kX6_56 dX6_hang_54 ?_
        refine gg_0_2 (pc := 57) K (by decide) kd_61 kX6_174 dX6_hang_57 ?_
        refine g_iload_n (pc := 60) K 1 dX6_hang_60 rfl rfl ?_
        refine g_iaload (pc := 61) K (by decide) kd_62 ln_62 dX6_hang_61 (fun v5 => ?_)
        exact g_ir (pc := 62) hR dX6_hang_62
      · refine g_aload_n (pc := 43) K 0 dX6_hang_43 rfl rfl ?_
        refine gg_6_8 (pc := 44) K (by decide) kd_0 kX6_56 dX6_hang_44 ?_
        refine gg_0_1 (pc := 47) K (by decide) kd_61 kX6_171 dX6_hang_47 ?_
        refine g_goto (pc := 50) K 62 dX6_hang_50 (by decide) ?_
        exact g_ir (pc := 62) hR dX6_hang_62
    · refine g_bipush (pc := 28) K (-9) dX6_hang_28 (by decide) ?_
      exact g_ir (pc := 30) hR dX6_hang_30
  · refine g_icmp_eq (pc := 2) K 18 dX6_hang_2 (by decide) ?_ ?_
    · exact g_wk (hkj1  s) ⟨rfl, ⟨rfl, trivial⟩⟩
    · refine g_aload_n (pc := 5) K 0 dX6_hang_5 rfl rfl ?_
      refine gg_6_2 (pc := 6) K (by decide) kd_0 kX6_23 dX6_hang_6 ?_
      refine g_iload_n (pc := 9) K 1 dX6_hang_9 rfl rfl ?_
      refine g_callVN (pc := 10) (S := []) K (qX1_has X.E 9 frm_9 a1) (by decide) (ci := 1) rfl (fun _ => ⟨_, ce_1 kd_9⟩) (by decide) (by decide) wcX1_has wiX1 kX6_101 wmX1_has weX1_has hyX1_has rfl rfl (Nat.le_of_ble_eq_true rfl) dX6_hang_10 (fun r6 s7 => ?_)
      change G X 13 [.ref (X.B + 0), .int a1] [.int r6] s7 _
      refine g_if_ne (pc := 13) K 18 dX6_hang_13 (by decide) ?_ ?_
      · exact g_wk (hkj1  s7) ⟨rfl, ⟨rfl, trivial⟩⟩
      · refine g_iconst (pc := 16) K (-1) dX6_hang_16 (by decide) ?_
        exact g_ir (pc := 17) hR dX6_hang_17
theorem qX6_hang (E : Ce) (a1 : Int32) : Con E yX6_hang cX6_hang 2 (some .int) 12 [.ref (E.B + 0), .int a1] (M_X6_hang a1) :=
  Con.of (by decide) (List.forall_mem_cons.mpr ⟨rfl, List.forall_mem_cons.mpr ⟨rfl, fun _ h => absurd h List.not_mem_nil⟩⟩) (Nat.le_of_ble_eq_true rfl) (Or.inr (Or.inl rfl)) [.ref (E.B + 0), .int a1] ⟨rfl, ⟨rfl, trivial⟩⟩ (fun X s hE hok hI hZ hV => by subst hE; exact tX6_hang hok (hI rfl) a1 s)
theorem hyX6_commonDivisor : yX6_commonDivisor.cls ≠ "java/lang/invoke/MethodHandle" ∧ yX6_commonDivisor.cls ≠ "java/lang/invoke/VarHandle" ∧ (parseMethodDescriptor yX6_commonDivisor.desc).map (fun d => d.parameters.length) = some 2 := by decide +kernel
set_option maxRecDepth 20000 in
set_option maxHeartbeats 4000000 in
theorem tM_X6_commonDivisor_L7 {X : Cx} (K : Ok X cX6_commonDivisor RX6 6 1) (hR : RI X cX6_commonDivisor) (kk : Int32 → St → Option (Int32 × St)) (hkk : ∀ (x2 : Int32) (s : St), G X 34 [.null, .null, .int x2, .null, .null, .null] [] s (kk x2 s)) : ∀ (fu : Nat) (x2 x3 x4 : Int32) (s : St), G X 7 [.null, .null, .int x2, .int x3, .int x4, .null] [] s (M_X6_commonDivisor_L7 kk fu x2 x3 x4 s) := by
  intro fu
  induction fu with
  | zero => intro x2 x3 x4 s; exact g_none
  | succ fu ih =>
    intro x2 x3 x4 s
    rw [M_X6_commonDivisor_L7]
    refine g_iload (pc := 7) K dX6_commonDivisor_7 rfl ?_
    refine g_bipush (pc := 9) K (64) dX6_commonDivisor_9 (by decide) ?_
    refine g_icmp_ge (pc := 11) K 34 dX6_commonDivisor_11 (by decide) ?_ ?_
    · exact g_wk (hkk x2 s) ⟨rfl, trivial⟩
    · refine g_iload_n (pc := 14) K 3 dX6_commonDivisor_14 rfl rfl ?_
      refine g_if_eq (pc := 15) K 34 dX6_commonDivisor_15 (by decide) ?_ ?_
      · exact g_wk (hkk x2 s) ⟨rfl, trivial⟩
      · refine g_iload_n (pc := 18) K 2 dX6_commonDivisor_18 rfl rfl ?_
        refine g_iload_n (pc := 19) K 3 dX6_commonDivisor_19 rfl rfl ?_
        refine g_irem (pc := 20) K dX6_commonDivisor_20 ?_
        refine g_istore (pc := 21) K dX6_commonDivisor_21 (by decide) ?_
        change G X 23 [.null, .null, .int x2, .int x3, .int x4, .int (x2 - x2 / x3 * x3)] [] s _
        refine g_iload_n (pc := 23) K 3 dX6_commonDivisor_23 rfl rfl ?_
        refine g_istore_n (pc := 24) K 2 dX6_commonDivisor_24 rfl (by decide) ?_
        change G X 25 [.null, .null, .int x3, .int x3, .int x4, .int (x2 - x2 / x3 * x3)] [] s _
        refine g_iload (pc := 25) K dX6_commonDivisor_25 rfl ?_
        refine g_istore_n (pc := 27) K 3 dX6_commonDivisor_27 rfl (by decide) ?_
        change G X 28 [.null, .null, .int x3, .int (x2 - x2 / x3 * x3), .int x4, .int (x2 - x2 / x3 * x3)] [] s _
        refine g_iinc (pc := 28) K (1) dX6_commonDivisor_28 rfl (by decide) (by decide) ?_
        change G X 31 [.null, .null, .int x3, .int (x2 - x2 / x3 * x3), .int (x4 + (1)), .int (x2 - x2 / x3 * x3)] [] s _
        refine g_goto (pc := 31) K 7 dX6_commonDivisor_31 (by decide) ?_
        exact g_wk (ih x3 (x2 - x2 / x3 * x3) (x4 + (1)) s) ⟨rfl, ⟨rfl, ⟨rfl, trivial⟩⟩⟩
set_option maxRecDepth 20000 in
set_option maxHeartbeats 4000000 in
theorem tX6_commonDivisor {X : Cx} (K : Ok X cX6_commonDivisor RX6 6 1) (hR : RI X cX6_commonDivisor) (a0 : Int32) (a1 : Int32) (s : St) : G X 0 [.int a0, .int a1, .null, .null, .null, .null] [] s (M_X6_commonDivisor a0 a1 s) := by
  unfold M_X6_commonDivisor
  refine g_iload_n (pc := 0) K 0 dX6_commonDivisor_0 rfl rfl ?_
  refine g_istore_n (pc := 1) K 2 dX6_commonDivisor_1 rfl (by decide) ?_
  change G X 2 [.int a0, .int a1, .int a0, .null, .null, .null] [] s _
  refine g_iload_n (pc := 2) K 1 dX6_commonDivisor_2 rfl rfl ?_
  refine g_istore_n (pc := 3) K 3 dX6_commonDivisor_3 rfl (by decide) ?_
  change G X 4 [.int a0, .int a1, .int a0, .int a1, .null, .null] [] s _
  refine g_iconst (pc := 4) K (0) dX6_commonDivisor_4 (by decide) ?_
  refine g_istore (pc := 5) K dX6_commonDivisor_5 (by decide) ?_
  change G X 7 [.int a0, .int a1, .int a0, .int a1, .int (0), .null] [] s _
  refine g_weak (L' := [.null, .null, .int a0, .int a1, .int (0), .null]) ⟨rfl, ⟨rfl, ⟨rfl, trivial⟩⟩⟩ ?_
  refine tM_X6_commonDivisor_L7 K hR  _ (fun v1 s2 => ?_) 400 a0 a1 (0) s
  refine g_iload_n (pc := 34) K 2 dX6_commonDivisor_34 rfl rfl ?_
  refine g_if_ne (pc := 35) K 42 dX6_commonDivisor_35 (by decide) ?_ ?_
  · refine g_iload_n (pc := 42) K 2 dX6_commonDivisor_42 rfl rfl ?_
    exact g_ir (pc := 43) hR dX6_commonDivisor_43
  · refine g_iconst (pc := 38) K (1) dX6_commonDivisor_38 (by decide) ?_
    refine g_goto (pc := 39) K 43 dX6_commonDivisor_39 (by decide) ?_
    exact g_ir (pc := 43) hR dX6_commonDivisor_43
theorem qX6_commonDivisor (E : Ce) (a0 : Int32) (a1 : Int32) : Con E yX6_commonDivisor cX6_commonDivisor 6 (some .int) 1 [.int a0, .int a1] (M_X6_commonDivisor a0 a1) :=
  Con.of (by decide) (List.forall_mem_cons.mpr ⟨rfl, List.forall_mem_cons.mpr ⟨rfl, fun _ h => absurd h List.not_mem_nil⟩⟩) (Nat.le_of_ble_eq_true rfl) (Or.inr (Or.inl rfl)) [.int a0, .int a1, .null, .null, .null, .null] ⟨rfl, ⟨rfl, trivial⟩⟩ (fun X s hE hok hI hZ hV => by subst hE; exact tX6_commonDivisor hok (hI rfl) a0 a1 s)
theorem hyX6_weigh : yX6_weigh.cls ≠ "java/lang/invoke/MethodHandle" ∧ yX6_weigh.cls ≠ "java/lang/invoke/VarHandle" ∧ (parseMethodDescriptor yX6_weigh.desc).map (fun d => d.parameters.length) = some 2 := by decide +kernel
set_option maxRecDepth 20000 in
set_option maxHeartbeats 4000000 in
theorem tM_X6_weigh_L9 {X : Cx} (K : Ok X cX6_weigh RX6 5 1) (hR : RV X cX6_weigh) (x1 : Int32) (x2 : Int32) (kk : St → Option (Int32 × St)) (hkk : ∀ (s : St), G X 28 [.ref (X.B + 0), .int x1, .int x2, .null, .null] [] s (kk s)) : ∀ (fu : Nat) (x3 : Int32) (s : St), G X 9 [.ref (X.B + 0), .int x1, .int x2, .int x3, .null] [] s (M_X6_weigh_L9 x1 x2 kk fu x3 s) := by
  intro fu
  induction fu with
  | zero => intro x3 s; exact g_none
  | succ fu ih =>
    intro x3 s
    rw [M_X6_weigh_L9]
    refine g_iload_n (pc := 9) K 3 dX6_weigh_9 rfl rfl ?_
    refine g_bipush (pc := 10) K (8) dX6_weigh_10 (by decide) ?_
    refine g_icmp_gt (pc := 12) K 28 dX6_weigh_12 (by decide) ?_ ?_
    · exact g_wk (hkk  s) ⟨rfl, ⟨rfl, ⟨rfl, trivial⟩⟩⟩
    · refine g_aload_n (pc := 15) K 0 dX6_weigh_15 rfl rfl ?_
      refine gg_6_10 (pc := 16) K (by decide) kd_0 kX6_67 dX6_weigh_16 ?_
      refine g_iload_n (pc := 19) K 3 dX6_weigh_19 rfl rfl ?_
      refine g_iconst (pc := 20) K (0) dX6_weigh_20 (by decide) ?_
      refine g_iastore (pc := 21) K (by decide) kd_66 ln_66 dX6_weigh_21 (fun s2 => ?_)
      refine g_iinc (pc := 22) K (1) dX6_weigh_22 rfl (by decide) (by decide) ?_
      change G X 25 [.ref (X.B + 0), .int x1, .int x2, .int (x3 + (1)), .null] [] s2 _
      refine g_goto (pc := 25) K 9 dX6_weigh_25 (by decide) ?_
      exact g_wk (ih (x3 + (1)) s2) ⟨rfl, ⟨rfl, ⟨rfl, ⟨rfl, trivial⟩⟩⟩⟩
set_option maxRecDepth 20000 in
set_option maxHeartbeats 4000000 in
theorem tM_X6_weigh_L39 {X : Cx} (K : Ok X cX6_weigh RX6 5 1) (hR : RV X cX6_weigh) (x1 : Int32) (x2 : Int32) (x3 : Int32) (kk : St → Option (Int32 × St)) (hkk : ∀ (s : St), G X 82 [.ref (X.B + 0), .int x1, .int x2, .int x3, .null] [] s (kk s)) : ∀ (fu : Nat) (x4 : Int32) (s : St), G X 39 [.ref (X.B + 0), .int x1, .int x2, .int x3, .int x4] [] s (M_X6_weigh_L39 x1 x2 x3 kk fu x4 s) := by
  intro fu
  induction fu with
  | zero => intro x4 s; exact g_none
  | succ fu ih =>
    intro x4 s
    rw [M_X6_weigh_L39]
    refine g_iload (pc := 39) K dX6_weigh_39 rfl ?_
    refine g_iconst (pc := 41) K (1) dX6_weigh_41 (by decide) ?_
    refine g_icmp_lt (pc := 42) K 82 dX6_weigh_42 (by decide) ?_ ?_
    · exact g_wk (hkk  s) ⟨rfl, ⟨rfl, ⟨rfl, ⟨rfl, trivial⟩⟩⟩⟩
    · refine g_aload_n (pc := 45) K 0 dX6_weigh_45 rfl rfl ?_
      refine gg_6_10 (pc := 46) K (by decide) kd_0 kX6_67 dX6_weigh_46 ?_
      refine g_iload (pc := 49) K dX6_weigh_49 rfl ?_
      refine g_iload_n (pc := 51) K 1 dX6_weigh_51 rfl rfl ?_
      refine g_aload_n (pc := 52) K 0 dX6_weigh_52 rfl rfl ?_
      refine gg_6_10 (pc := 53) K (by decide) kd_0 kX6_67 dX6_weigh_53 ?_
      refine g_iload (pc := 56) K dX6_weigh_56 rfl ?_
      refine g_iconst (pc := 58) K (1) dX6_weigh_58 (by decide) ?_
      refine g_isub (pc := 59) K dX6_weigh_59 ?_
      refine g_iaload (pc := 60) K (by decide) kd_66 ln_66 dX6_weigh_60 (fun v4 => ?_)
      refine g_imul (pc := 61) K dX6_weigh_61 ?_
      refine g_bipush (pc := 62) K (10) dX6_weigh_62 (by decide) ?_
      refine g_iload_n (pc := 64) K 1 dX6_weigh_64 rfl rfl ?_
      refine g_isub (pc := 65) K dX6_weigh_65 ?_
      refine g_aload_n (pc := 66) K 0 dX6_weigh_66 rfl rfl ?_
      refine gg_6_10 (pc := 67) K (by decide) kd_0 kX6_67 dX6_weigh_67 ?_
      refine g_iload (pc := 70) K dX6_weigh_70 rfl ?_
      refine g_iaload (pc := 72) K (by decide) kd_66 ln_66 dX6_weigh_72 (fun v5 => ?_)
      refine g_imul (pc := 73) K dX6_weigh_73 ?_
      refine g_iadd (pc := 74) K dX6_weigh_74 ?_
      refine g_iastore (pc := 75) K (by decide) kd_66 ln_66 dX6_weigh_75 (fun s6 => ?_)
      refine g_iinc (pc := 76) K (-1) dX6_weigh_76 rfl (by decide) (by decide) ?_
      change G X 79 [.ref (X.B + 0), .int x1, .int x2, .int x3, .int (x4 + (-1))] [] s6 _
      refine g_goto (pc := 79) K 39 dX6_weigh_79 (by decide) ?_
      exact g_wk (ih (x4 + (-1)) s6) ⟨rfl, ⟨rfl, ⟨rfl, ⟨rfl, ⟨rfl, trivial⟩⟩⟩⟩⟩
set_option maxRecDepth 20000 in
set_option maxHeartbeats 4000000 in
theorem tM_X6_weigh_L30 {X : Cx} (K : Ok X cX6_weigh RX6 5 1) (hR : RV X cX6_weigh) (x1 : Int32) (x2 : Int32) (kk : St → Option (Int32 × St)) (hkk : ∀ (s : St), G X 103 [.null, .null, .null, .null, .null] [] s (kk s)) : ∀ (fu : Nat) (x3 : Int32) (s : St), G X 30 [.ref (X.B + 0), .int x1, .int x2, .int x3, .null] [] s (M_X6_weigh_L30 x1 x2 kk fu x3 s) := by
  intro fu
  induction fu with
  | zero => intro x3 s; exact g_none
  | succ fu ih =>
    intro x3 s
    rw [M_X6_weigh_L30]
    refine g_iload_n (pc := 30) K 3 dX6_weigh_30 rfl rfl ?_
    refine g_iload_n (pc := 31) K 2 dX6_weigh_31 rfl rfl ?_
    refine g_icmp_ge (pc := 32) K 103 dX6_weigh_32 (by decide) ?_ ?_
    · exact g_wk (hkk  s) trivial
    · refine g_bipush (pc := 35) K (8) dX6_weigh_35 (by decide) ?_
      refine g_istore (pc := 37) K dX6_weigh_37 (by decide) ?_
      change G X 39 [.ref (X.B + 0), .int x1, .int x2, .int x3, .int (8)] [] s _
      refine g_weak (L' := [.ref (X.B + 0), .int x1, .int x2, .int x3, .int (8)]) ⟨rfl, ⟨rfl, ⟨rfl, ⟨rfl, ⟨rfl, trivial⟩⟩⟩⟩⟩ ?_
      refine tM_X6_weigh_L39 K hR x1 x2 x3 _ (fun s7 => ?_) 400 (8) s
      refine g_aload_n (pc := 82) K 0 dX6_weigh_82 rfl rfl ?_
      refine gg_6_10 (pc := 83) K (by decide) kd_0 kX6_67 dX6_weigh_83 ?_
      refine g_iconst (pc := 86) K (0) dX6_weigh_86 (by decide) ?_
      refine g_bipush (pc := 87) K (10) dX6_weigh_87 (by decide) ?_
      refine g_aload_n (pc := 89) K 0 dX6_weigh_89 rfl rfl ?_
      refine gg_6_10 (pc := 90) K (by decide) kd_0 kX6_67 dX6_weigh_90 ?_
      refine g_iconst (pc := 93) K (0) dX6_weigh_93 (by decide) ?_
      refine g_iaload (pc := 94) K (by decide) kd_66 ln_66 dX6_weigh_94 (fun v8 => ?_)
      refine g_imul (pc := 95) K dX6_weigh_95 ?_
      refine g_iastore (pc := 96) K (by decide) kd_66 ln_66 dX6_weigh_96 (fun s9 => ?_)
      refine g_iinc (pc := 97) K (1) dX6_weigh_97 rfl (by decide) (by decide) ?_
      change G X 100 [.ref (X.B + 0), .int x1, .int x2, .int (x3 + (1)), .null] [] s9 _
      refine g_goto (pc := 100) K 30 dX6_weigh_100 (by decide) ?_
      exact g_wk (ih (x3 + (1)) s9) ⟨rfl, ⟨rfl, ⟨rfl, ⟨rfl, trivial⟩⟩⟩⟩
set_option maxRecDepth 20000 in
set_option maxHeartbeats 4000000 in
theorem tX6_weigh {X : Cx} (K : Ok X cX6_weigh RX6 5 1) (hR : RV X cX6_weigh) (a1 : Int32) (a2 : Int32) (s : St) : G X 0 [.ref (X.B + 0), .int a1, .int a2, .null, .null] [] s (M_X6_weigh a1 a2 s) := by
  unfold M_X6_weigh
  refine g_aload_n (pc := 0) K 0 dX6_weigh_0 rfl rfl ?_
  refine gg_6_10 (pc := 1) K (by decide) kd_0 kX6_67 dX6_weigh_1 ?_
  refine g_iconst (pc := 4) K (0) dX6_weigh_4 (by decide) ?_
  refine g_iconst (pc := 5) K (1) dX6_weigh_5 (by decide) ?_
  refine g_iastore (pc := 6) K (by decide) kd_66 ln_66 dX6_weigh_6 (fun s1 => ?_)
  refine g_iconst (pc := 7) K (1) dX6_weigh_7 (by decide) ?_
  refine g_istore_n (pc := 8) K 3 dX6_weigh_8 rfl (by decide) ?_
  change G X 9 [.ref (X.B + 0), .int a1, .int a2, .int (1), .null] [] s1 _
  refine g_weak (L' := [.ref (X.B + 0), .int a1, .int a2, .int (1), .null]) ⟨rfl, ⟨rfl, ⟨rfl, ⟨rfl, trivial⟩⟩⟩⟩ ?_
  refine tM_X6_weigh_L9 K hR a1 a2 _ (fun s3 => ?_) 400 (1) s1
  refine g_iconst (pc := 28) K (0) dX6_weigh_28 (by decide) ?_
  refine g_istore_n (pc := 29) K 3 dX6_weigh_29 rfl (by decide) ?_
  change G X 30 [.ref (X.B + 0), .int a1, .int a2, .int (0), .null] [] s3 _
  refine g_weak (L' := [.ref (X.B + 0), .int a1, .int a2, .int (0), .null]) ⟨rfl, ⟨rfl, ⟨rfl, ⟨rfl, trivial⟩⟩⟩⟩ ?_
  refine tM_X6_weigh_L30 K hR a1 a2 _ (fun s10 => ?_) 400 (0) s3
  exact g_vr (pc := 103) hR dX6_weigh_103
theorem qX6_weigh (E : Ce) (a1 : Int32) (a2 : Int32) : Con E yX6_weigh cX6_weigh 5 none 1 [.ref (E.B + 0), .int a1, .int a2] (M_X6_weigh a1 a2) :=
  Con.of (by decide) (List.forall_mem_cons.mpr ⟨rfl, List.forall_mem_cons.mpr ⟨rfl, List.forall_mem_cons.mpr ⟨rfl, fun _ h => absurd h List.not_mem_nil⟩⟩⟩) (Nat.le_of_ble_eq_true rfl) (Or.inl rfl) [.ref (E.B + 0), .int a1, .int a2, .null, .null] ⟨rfl, ⟨rfl, ⟨rfl, trivial⟩⟩⟩ (fun X s hE hok hI hZ hV => by subst hE; exact tX6_weigh hok (hV rfl) a1 a2 s)
theorem hyX6_odds : yX6_odds.cls ≠ "java/lang/invoke/MethodHandle" ∧ yX6_odds.cls ≠ "java/lang/invoke/VarHandle" ∧ (parseMethodDescriptor yX6_odds.desc).map (fun d => d.parameters.length) = some 4 := by decide +kernel
set_option maxRecDepth 20000 in
set_option maxHeartbeats 4000000 in
theorem tX6_odds {X : Cx} (K : Ok X cX6_odds RX6 9 2) (hR : RI X cX6_odds) (a1 : Int32) (a2 : Int32) (a3 : Int32) (a4 : Int32) (s : St) : G X 0 [.ref (X.B + 0), .int a1, .int a2, .int a3, .int a4, .null, .null, .null, .null] [] s (M_X6_odds a1 a2 a3 a4 s) := by
  unfold M_X6_odds
  refine g_aload_n (pc := 0) K 0 dX6_odds_0 rfl rfl ?_
  refine gg_6_2 (pc := 1) K (by decide) kd_0 kX6_23 dX6_odds_1 ?_
  refine g_iload_n (pc := 4) K 1 dX6_odds_4 rfl rfl ?_
  refine g_callVN (pc := 5) (S := []) K (qX1_has X.E 9 frm_9 a1) (by decide) (ci := 1) rfl (fun _ => ⟨_, ce_1 kd_9⟩) (by decide) (by decide) wcX1_has wiX1 kX6_101 wmX1_has weX1_has hyX1_has rfl rfl (Nat.le_of_ble_eq_true rfl) dX6_odds_5 (fun r1 s2 => ?_)
  change G X 8 [.ref (X.B + 0), .int a1, .int a2, .int a3, .int a4, .null, .null, .null, .null] [.int r1] s2 _
  refine g_if_eq (pc := 8) K 41 dX6_odds_8 (by decide) ?_ ?_
  · refine g_iconst (pc := 41) K (-1) dX6_odds_41 (by decide) ?_
    exact g_ir (pc := 42) hR dX6_odds_42
  · refine g_iload_n (pc := 11) K 2 dX6_odds_11 rfl rfl ?_
    refine g_iconst (pc := 12) K (0) dX6_odds_12 (by decide) ?_
    refine g_bipush (pc := 13) K (10) dX6_odds_13 (by decide) ?_
    refine g_callS (pc := 15) (S := []) K (qX6_within X.E a2 (0) (10)) (by decide) (by decide) wcX6_within wiX6 kX6_71 wtX6_within hyX6_within rfl rfl (Nat.le_of_ble_eq_true rfl) dX6_odds_15 (fun r3 s4 => ?_)
    change G X 18 [.ref (X.B + 0), .int a1, .int a2, .int a3, .int a4, .null, .null, .null, .null] [.int r3] s4 _
    refine g_if_eq (pc := 18) K 41 dX6_odds_18 (by decide) ?_ ?_
    · refine g_iconst (pc := 41) K (-1) dX6_odds_41 (by decide) ?_
      exact g_ir (pc := 42) hR dX6_odds_42
    · refine g_iload_n (pc := 21) K 3 dX6_odds_21 rfl rfl ?_
      refine g_iconst (pc := 22) K (0) dX6_odds_22 (by decide) ?_
      refine g_bipush (pc := 23) K (8) dX6_odds_23 (by decide) ?_
      refine g_callS (pc := 25) (S := []) K (qX6_within X.E a3 (0) (8)) (by decide) (by decide) wcX6_within wiX6 kX6_71 wtX6_within hyX6_within rfl rfl (Nat.le_of_ble_eq_true rfl) dX6_odds_25 (fun r5 s6 => ?_)
      change G X 28 [.ref (X.B + 0), .int a1, .int a2, .int a3, .int a4, .null, .null, .null, .null] [.int r5] s6 _
      refine g_if_eq (pc := 28) K 41 dX6_odds_28 (by decide) ?_ ?_
      · refine g_iconst (pc := 41) K (-1) dX6_odds_41 (by decide) ?_
        exact g_ir (pc := 42) hR dX6_odds_42
      · refine g_iload (pc := 31) K dX6_odds_31 rfl ?_
        refine g_iconst (pc := 33) K (0) dX6_odds_33 (by decide) ?_
        refine g_iconst (pc := 34) K (1) dX6_odds_34 (by decide) ?_
        refine g_callS (pc := 35) (S := []) K (qX6_within X.E a4 (0) (1)) (by decide) (by decide) wcX6_within wiX6 kX6_71 wtX6_within hyX6_within rfl rfl (Nat.le_of_ble_eq_true rfl) dX6_odds_35 (fun r7 s8 => ?_)
        change G X 38 [.ref (X.B + 0), .int a1, .int a2, .int a3, .int a4, .null, .null, .null, .null] [.int r7] s8 _
        refine g_if_ne (pc := 38) K 43 dX6_odds_38 (by decide) ?_ ?_
        · refine g_aload_n (pc := 43) K 0 dX6_odds_43 rfl rfl ?_
          refine g_iload_n (pc := 44) K 2 dX6_odds_44 rfl rfl ?_
          refine g_iload_n (pc := 45) K 3 dX6_odds_45 rfl rfl ?_
          refine g_callV (pc := 46) (S := []) K (qX6_weigh X.E a2 a3) (by decide) (ci := 6) rfl (fun _ => ⟨_, ce_6 kd_0⟩) (by decide) (by decide) wcX6_weigh wiX6 kX6_175 wmX6_weigh weX6_weigh hyX6_weigh rfl rfl (Nat.le_of_ble_eq_true rfl) dX6_odds_46 (fun r9 s10 => ?_)
          change G X 49 [.ref (X.B + 0), .int a1, .int a2, .int a3, .int a4, .null, .null, .null, .null] [] s10 _
          refine g_aload_n (pc := 49) K 0 dX6_odds_49 rfl rfl ?_
          refine gg_6_3 (pc := 50) K (by decide) kd_0 kX6_31 dX6_odds_50 ?_
          refine gg_3_3 (pc := 53) K (by decide) kd_15 kX6_107 dX6_odds_53 16 rfl ?_
          refine g_iload_n (pc := 56) K 1 dX6_odds_56 rfl rfl ?_
          refine g_iaload (pc := 57) K (by decide) kd_16 ln_16 dX6_odds_57 (fun v11 => ?_)
          refine g_istore (pc := 58) K dX6_odds_58 (by decide) ?_
          change G X 60 [.ref (X.B + 0), .int a1, .int a2, .int a3, .int a4, .int v11, .null, .null, .null] [] s10 _
          refine g_iload (pc := 60) K dX6_odds_60 rfl ?_
          refine g_iload_n (pc := 62) K 3 dX6_odds_62 rfl rfl ?_
          refine g_jn (κ := Int32 → St → Option (Int32 × St)) (fun kj12 => ∀ (v13 : Int32) (s14 : St), G X 77 [.ref (X.B + 0), .null, .null, .null, .int a4, .null, .null, .null, .null] [.int v13] s14 (kj12 v13 s14)) (fun v13 s14 => ?_) (fun kj12 hkj12 => ?_)
          · refine g_istore (pc := 77) K dX6_odds_77 (by decide) ?_
            change G X 79 [.ref (X.B + 0), .null, .null, .null, .int a4, .null, .int v13, .null, .null] [] s14 _
            refine g_aload_n (pc := 79) K 0 dX6_odds_79 rfl rfl ?_
            refine gg_6_10 (pc := 80) K (by decide) kd_0 kX6_67 dX6_odds_80 ?_
            refine g_iconst (pc := 83) K (0) dX6_odds_83 (by decide) ?_
            refine g_iaload (pc := 84) K (by decide) kd_66 ln_66 dX6_odds_84 (fun v15 => ?_)
            refine g_istore (pc := 85) K dX6_odds_85 (by decide) ?_
            change G X 87 [.ref (X.B + 0), .null, .null, .null, .int a4, .null, .int v13, .int v15, .null] [] s14 _
            refine g_iload (pc := 87) K dX6_odds_87 rfl ?_
            refine g_iload (pc := 89) K dX6_odds_89 rfl ?_
            refine g_callS (pc := 91) (S := []) K (qX6_commonDivisor X.E v15 v13) (by decide) (by decide) wcX6_commonDivisor wiX6 kX6_179 wtX6_commonDivisor hyX6_commonDivisor rfl rfl (Nat.le_of_ble_eq_true rfl) dX6_odds_91 (fun r16 s17 => ?_)
            change G X 94 [.ref (X.B + 0), .null, .null, .null, .int a4, .null, .int v13, .int v15, .null] [.int r16] s17 _
            refine g_istore (pc := 94) K dX6_odds_94 (by decide) ?_
            change G X 96 [.ref (X.B + 0), .null, .null, .null, .int a4, .null, .int v13, .int v15, .int r16] [] s17 _
            refine g_iload (pc := 96) K dX6_odds_96 rfl ?_
            refine g_if_ne (pc := 98) K 106 dX6_odds_98 (by decide) ?_ ?_
            · refine g_iload (pc := 106) K dX6_odds_106 rfl ?_
              refine g_iload (pc := 108) K dX6_odds_108 rfl ?_
              refine g_idiv (pc := 110) K dX6_odds_110 ?_
              exact g_ir (pc := 111) hR dX6_odds_111
            · refine g_iload (pc := 101) K dX6_odds_101 rfl ?_
              refine g_goto (pc := 103) K 108 dX6_odds_103 (by decide) ?_
              refine g_iload (pc := 108) K dX6_odds_108 rfl ?_
              refine g_idiv (pc := 110) K dX6_odds_110 ?_
              exact g_ir (pc := 111) hR dX6_odds_111
          · refine g_icmp_le (pc := 63) K 70 dX6_odds_63 (by decide) ?_ ?_
            · refine g_aload_n (pc := 70) K 0 dX6_odds_70 rfl rfl ?_
              refine gg_6_10 (pc := 71) K (by decide) kd_0 kX6_67 dX6_odds_71 ?_
              refine g_iload (pc := 74) K dX6_odds_74 rfl ?_
              refine g_iaload (pc := 76) K (by decide) kd_66 ln_66 dX6_odds_76 (fun v18 => ?_)
              exact g_wk (hkj12 v18 s10) ⟨rfl, ⟨rfl, trivial⟩⟩
            · refine g_iconst (pc := 66) K (0) dX6_odds_66 (by decide) ?_
              refine g_goto (pc := 67) K 77 dX6_odds_67 (by decide) ?_
              exact g_wk (hkj12 (0) s10) ⟨rfl, ⟨rfl, trivial⟩⟩
        · refine g_iconst (pc := 41) K (-1) dX6_odds_41 (by decide) ?_
          exact g_ir (pc := 42) hR dX6_odds_42
theorem qX6_odds (E : Ce) (a1 : Int32) (a2 : Int32) (a3 : Int32) (a4 : Int32) : Con E yX6_odds cX6_odds 9 (some .int) 2 [.ref (E.B + 0), .int a1, .int a2, .int a3, .int a4] (M_X6_odds a1 a2 a3 a4) :=
  Con.of (by decide) (List.forall_mem_cons.mpr ⟨rfl, List.forall_mem_cons.mpr ⟨rfl, List.forall_mem_cons.mpr ⟨rfl, List.forall_mem_cons.mpr ⟨rfl, List.forall_mem_cons.mpr ⟨rfl, fun _ h => absurd h List.not_mem_nil⟩⟩⟩⟩⟩) (Nat.le_of_ble_eq_true rfl) (Or.inr (Or.inl rfl)) [.ref (E.B + 0), .int a1, .int a2, .int a3, .int a4, .null, .null, .null, .null] ⟨rfl, ⟨rfl, ⟨rfl, ⟨rfl, ⟨rfl, trivial⟩⟩⟩⟩⟩ (fun X s hE hok hI hZ hV => by subst hE; exact tX6_odds hok (hI rfl) a1 a2 a3 a4 s)
theorem hyX6_sees : yX6_sees.cls ≠ "java/lang/invoke/MethodHandle" ∧ yX6_sees.cls ≠ "java/lang/invoke/VarHandle" ∧ (parseMethodDescriptor yX6_sees.desc).map (fun d => d.parameters.length) = some 3 := by decide +kernel
set_option maxRecDepth 20000 in
set_option maxHeartbeats 4000000 in
theorem tX6_sees {X : Cx} (K : Ok X cX6_sees RX6 4 2) (hR : RI X cX6_sees) (a1 : Int32) (a2 : Int32) (a3 : Int32) (s : St) : G X 0 [.ref (X.B + 0), .int a1, .int a2, .int a3] [] s (M_X6_sees a1 a2 a3 s) := by
  unfold M_X6_sees
  refine g_iload_n (pc := 0) K 1 dX6_sees_0 rfl rfl ?_
  refine g_iconst (pc := 1) K (0) dX6_sees_1 (by decide) ?_
  refine g_bipush (pc := 2) K (20) dX6_sees_2 (by decide) ?_
  refine g_callS (pc := 4) (S := []) K (qX6_within X.E a1 (0) (20)) (by decide) (by decide) wcX6_within wiX6 kX6_71 wtX6_within hyX6_within rfl rfl (Nat.le_of_ble_eq_true rfl) dX6_sees_4 (fun r1 s2 => ?_)
  change G X 7 [.ref (X.B + 0), .int a1, .int a2, .int a3] [.int r1] s2 _
  refine g_if_eq (pc := 7) K 29 dX6_sees_7 (by decide) ?_ ?_
  · refine g_iconst (pc := 29) K (-1) dX6_sees_29 (by decide) ?_
    exact g_ir (pc := 30) hR dX6_sees_30
  · refine g_iload_n (pc := 10) K 2 dX6_sees_10 rfl rfl ?_
    refine g_iconst (pc := 11) K (0) dX6_sees_11 (by decide) ?_
    refine g_bipush (pc := 12) K (6) dX6_sees_12 (by decide) ?_
    refine g_callS (pc := 14) (S := []) K (qX6_within X.E a2 (0) (6)) (by decide) (by decide) wcX6_within wiX6 kX6_71 wtX6_within hyX6_within rfl rfl (Nat.le_of_ble_eq_true rfl) dX6_sees_14 (fun r3 s4 => ?_)
    change G X 17 [.ref (X.B + 0), .int a1, .int a2, .int a3] [.int r3] s4 _
    refine g_if_eq (pc := 17) K 29 dX6_sees_17 (by decide) ?_ ?_
    · refine g_iconst (pc := 29) K (-1) dX6_sees_29 (by decide) ?_
      exact g_ir (pc := 30) hR dX6_sees_30
    · refine g_iload_n (pc := 20) K 3 dX6_sees_20 rfl rfl ?_
      refine g_iconst (pc := 21) K (0) dX6_sees_21 (by decide) ?_
      refine g_iconst (pc := 22) K (1) dX6_sees_22 (by decide) ?_
      refine g_callS (pc := 23) (S := []) K (qX6_within X.E a3 (0) (1)) (by decide) (by decide) wcX6_within wiX6 kX6_71 wtX6_within hyX6_within rfl rfl (Nat.le_of_ble_eq_true rfl) dX6_sees_23 (fun r5 s6 => ?_)
      change G X 26 [.ref (X.B + 0), .int a1, .int a2, .int a3] [.int r5] s6 _
      refine g_if_ne (pc := 26) K 31 dX6_sees_26 (by decide) ?_ ?_
      · refine g_aload_n (pc := 31) K 0 dX6_sees_31 rfl rfl ?_
        refine gg_6_9 (pc := 32) K (by decide) kd_0 kX6_63 dX6_sees_32 ?_
        refine gg_4_0 (pc := 35) K (by decide) kd_64 kX6_183 dX6_sees_35 ?_
        refine g_bipush (pc := 38) K (6) dX6_sees_38 (by decide) ?_
        refine g_icmp_lt (pc := 40) K 46 dX6_sees_40 (by decide) ?_ ?_
        · refine g_aload_n (pc := 46) K 0 dX6_sees_46 rfl rfl ?_
          refine gg_6_9 (pc := 47) K (by decide) kd_0 kX6_63 dX6_sees_47 ?_
          refine g_iload_n (pc := 50) K 1 dX6_sees_50 rfl rfl ?_
          refine g_iload_n (pc := 51) K 2 dX6_sees_51 rfl rfl ?_
          refine g_iload_n (pc := 52) K 3 dX6_sees_52 rfl rfl ?_
          refine g_iconst (pc := 53) K (1) dX6_sees_53 (by decide) ?_
          refine g_jn (κ := Int32 → St → Option (Int32 × St)) (fun kj7 => ∀ (v8 : Int32) (s9 : St), G X 62 [.ref (X.B + 0), .null, .null, .null] [.int v8, .int a2, .int a1, .ref (X.B + 64)] s9 (kj7 v8 s9)) (fun v8 s9 => ?_) (fun kj7 hkj7 => ?_)
          · refine g_callVN (pc := 62) (S := []) K (qX4_learn X.E a1 a2 v8) (by decide) (ci := 4) rfl (fun _ => ⟨_, ce_4 kd_64⟩) (by decide) (by decide) wcX4_learn wiX4 kX6_186 wmX4_learn weX4_learn hyX4_learn rfl rfl (Nat.le_of_ble_eq_true rfl) dX6_sees_62 (fun r10 s11 => ?_)
            change G X 65 [.ref (X.B + 0), .null, .null, .null] [] s11 _
            refine g_aload_n (pc := 65) K 0 dX6_sees_65 rfl rfl ?_
            refine gg_6_9 (pc := 66) K (by decide) kd_0 kX6_63 dX6_sees_66 ?_
            refine gg_4_0 (pc := 69) K (by decide) kd_64 kX6_183 dX6_sees_69 ?_
            exact g_ir (pc := 72) hR dX6_sees_72
          · refine g_icmp_ne (pc := 54) K 61 dX6_sees_54 (by decide) ?_ ?_
            · refine g_iconst (pc := 61) K (0) dX6_sees_61 (by decide) ?_
              exact g_wk (hkj7 (0) s6) ⟨rfl, trivial⟩
            · refine g_iconst (pc := 57) K (1) dX6_sees_57 (by decide) ?_
              refine g_goto (pc := 58) K 62 dX6_sees_58 (by decide) ?_
              exact g_wk (hkj7 (1) s6) ⟨rfl, trivial⟩
        · refine g_bipush (pc := 43) K (-3) dX6_sees_43 (by decide) ?_
          exact g_ir (pc := 45) hR dX6_sees_45
      · refine g_iconst (pc := 29) K (-1) dX6_sees_29 (by decide) ?_
        exact g_ir (pc := 30) hR dX6_sees_30
theorem qX6_sees (E : Ce) (a1 : Int32) (a2 : Int32) (a3 : Int32) : Con E yX6_sees cX6_sees 4 (some .int) 2 [.ref (E.B + 0), .int a1, .int a2, .int a3] (M_X6_sees a1 a2 a3) :=
  Con.of (by decide) (List.forall_mem_cons.mpr ⟨rfl, List.forall_mem_cons.mpr ⟨rfl, List.forall_mem_cons.mpr ⟨rfl, List.forall_mem_cons.mpr ⟨rfl, fun _ h => absurd h List.not_mem_nil⟩⟩⟩⟩) (Nat.le_of_ble_eq_true rfl) (Or.inr (Or.inl rfl)) [.ref (E.B + 0), .int a1, .int a2, .int a3] ⟨rfl, ⟨rfl, ⟨rfl, ⟨rfl, trivial⟩⟩⟩⟩ (fun X s hE hok hI hZ hV => by subst hE; exact tX6_sees hok (hI rfl) a1 a2 a3 s)
theorem hyX6_forget : yX6_forget.cls ≠ "java/lang/invoke/MethodHandle" ∧ yX6_forget.cls ≠ "java/lang/invoke/VarHandle" ∧ (parseMethodDescriptor yX6_forget.desc).map (fun d => d.parameters.length) = some 0 := by decide +kernel
set_option maxRecDepth 20000 in
set_option maxHeartbeats 4000000 in
theorem tX6_forget {X : Cx} (K : Ok X cX6_forget RX6 2 2) (hR : RI X cX6_forget) (s : St) : G X 0 [.ref (X.B + 0), .null] [] s (M_X6_forget s) := by
  unfold M_X6_forget
  refine g_aload_n (pc := 0) K 0 dX6_forget_0 rfl rfl ?_
  refine gg_6_9 (pc := 1) K (by decide) kd_0 kX6_63 dX6_forget_1 ?_
  refine gg_4_0 (pc := 4) K (by decide) kd_64 kX6_183 dX6_forget_4 ?_
  refine g_istore_n (pc := 7) K 1 dX6_forget_7 rfl (by decide) ?_
  change G X 8 [.ref (X.B + 0), .int (s.1 64 0)] [] s _
  refine g_aload_n (pc := 8) K 0 dX6_forget_8 rfl rfl ?_
  refine gg_6_9 (pc := 9) K (by decide) kd_0 kX6_63 dX6_forget_9 ?_
  refine g_callVN (pc := 12) (S := []) K (qX4_begin X.E ) (by decide) (ci := 4) rfl (fun _ => ⟨_, ce_4 kd_64⟩) (by decide) (by decide) wcX4_begin wiX4 kX6_99 wmX4_begin weX4_begin hyX4_begin rfl rfl (Nat.le_of_ble_eq_true rfl) dX6_forget_12 (fun r1 s2 => ?_)
  change G X 15 [.ref (X.B + 0), .int (s.1 64 0)] [] s2 _
  refine g_iload_n (pc := 15) K 1 dX6_forget_15 rfl rfl ?_
  exact g_ir (pc := 16) hR dX6_forget_16
theorem qX6_forget (E : Ce) : Con E yX6_forget cX6_forget 2 (some .int) 2 [.ref (E.B + 0)] (M_X6_forget) :=
  Con.of (by decide) (List.forall_mem_cons.mpr ⟨rfl, fun _ h => absurd h List.not_mem_nil⟩) (Nat.le_of_ble_eq_true rfl) (Or.inr (Or.inl rfl)) [.ref (E.B + 0), .null] ⟨rfl, trivial⟩ (fun X s hE hok hI hZ hV => by subst hE; exact tX6_forget hok (hI rfl) s)
theorem hyX6_ones : yX6_ones.cls ≠ "java/lang/invoke/MethodHandle" ∧ yX6_ones.cls ≠ "java/lang/invoke/VarHandle" ∧ (parseMethodDescriptor yX6_ones.desc).map (fun d => d.parameters.length) = some 1 := by decide +kernel
set_option maxRecDepth 20000 in
set_option maxHeartbeats 4000000 in
theorem tX6_ones {X : Cx} (K : Ok X cX6_ones RX6 2 4) (hR : RI X cX6_ones) (a1 : Int32) (s : St) : G X 0 [.ref (X.B + 0), .int a1] [] s (M_X6_ones a1 s) := by
  unfold M_X6_ones
  refine g_iload_n (pc := 0) K 1 dX6_ones_0 rfl rfl ?_
  refine g_case (pc := 1) (0) ?_ (fun n3 => ?_)
  · refine g_tin (pc := 1) (off := 27) K 28 dX6_ones_1 (by decide) (by decide) (by decide) (by decide) ?_
    refine g_aload_n (pc := 28) K 0 dX6_ones_28 rfl rfl ?_
    refine gg_6_9 (pc := 29) K (by decide) kd_0 kX6_63 dX6_ones_29 ?_
    refine g_iconst (pc := 32) K (0) dX6_ones_32 (by decide) ?_
    refine g_bipush (pc := 33) K (20) dX6_ones_33 (by decide) ?_
    refine g_callVN (pc := 35) (S := []) K (qX4_number X.E (0) (20)) (by decide) (ci := 4) rfl (fun _ => ⟨_, ce_4 kd_64⟩) (by decide) (by decide) wcX4_number wiX4 kX6_190 wmX4_number weX4_number hyX4_number rfl rfl (Nat.le_of_ble_eq_true rfl) dX6_ones_35 (fun r1 s2 => ?_)
    change G X 38 [.ref (X.B + 0), .int a1] [.int r1] s2 _
    exact g_ir (pc := 38) hR dX6_ones_38
  refine g_case (pc := 1) (1) ?_ (fun n6 => ?_)
  · refine g_tin (pc := 1) (off := 38) K 39 dX6_ones_1 (by decide) (by decide) (by decide) (by decide) ?_
    refine g_aload_n (pc := 39) K 0 dX6_ones_39 rfl rfl ?_
    refine gg_6_9 (pc := 40) K (by decide) kd_0 kX6_63 dX6_ones_40 ?_
    refine g_callVN (pc := 43) (S := []) K (qX4_leastShame X.E ) (by decide) (ci := 4) rfl (fun _ => ⟨_, ce_4 kd_64⟩) (by decide) (by decide) wcX4_leastShame wiX4 kX6_193 wmX4_leastShame weX4_leastShame hyX4_leastShame rfl rfl (Nat.le_of_ble_eq_true rfl) dX6_ones_43 (fun r4 s5 => ?_)
    change G X 46 [.ref (X.B + 0), .int a1] [.int r4] s5 _
    exact g_ir (pc := 46) hR dX6_ones_46
  refine g_case (pc := 1) (2) ?_ (fun n9 => ?_)
  · refine g_tin (pc := 1) (off := 46) K 47 dX6_ones_1 (by decide) (by decide) (by decide) (by decide) ?_
    refine g_aload_n (pc := 47) K 0 dX6_ones_47 rfl rfl ?_
    refine gg_6_9 (pc := 48) K (by decide) kd_0 kX6_63 dX6_ones_48 ?_
    refine g_callVN (pc := 51) (S := []) K (qX4_greatestShame X.E ) (by decide) (ci := 4) rfl (fun _ => ⟨_, ce_4 kd_64⟩) (by decide) (by decide) wcX4_greatestShame wiX4 kX6_196 wmX4_greatestShame weX4_greatestShame hyX4_greatestShame rfl rfl (Nat.le_of_ble_eq_true rfl) dX6_ones_51 (fun r7 s8 => ?_)
    change G X 54 [.ref (X.B + 0), .int a1] [.int r7] s8 _
    exact g_ir (pc := 54) hR dX6_ones_54
  refine g_tout (pc := 1) K 55 dX6_ones_1 (by have an3 := lv_neT n3 (a := 0) (by decide); have an6 := lv_neT n6 (a := 1) (by decide); have an9 := lv_neT n9 (a := 2) (by decide); omega) (by decide) ?_
  refine g_iconst (pc := 55) K (-1) dX6_ones_55 (by decide) ?_
  exact g_ir (pc := 56) hR dX6_ones_56
theorem qX6_ones (E : Ce) (a1 : Int32) : Con E yX6_ones cX6_ones 2 (some .int) 4 [.ref (E.B + 0), .int a1] (M_X6_ones a1) :=
  Con.of (by decide) (List.forall_mem_cons.mpr ⟨rfl, List.forall_mem_cons.mpr ⟨rfl, fun _ h => absurd h List.not_mem_nil⟩⟩) (Nat.le_of_ble_eq_true rfl) (Or.inr (Or.inl rfl)) [.ref (E.B + 0), .int a1] ⟨rfl, ⟨rfl, trivial⟩⟩ (fun X s hE hok hI hZ hV => by subst hE; exact tX6_ones hok (hI rfl) a1 s)
theorem hyX6_look : yX6_look.cls ≠ "java/lang/invoke/MethodHandle" ∧ yX6_look.cls ≠ "java/lang/invoke/VarHandle" ∧ (parseMethodDescriptor yX6_look.desc).map (fun d => d.parameters.length) = some 1 := by decide +kernel
set_option maxRecDepth 20000 in
set_option maxHeartbeats 4000000 in
theorem tX6_look {X : Cx} (K : Ok X cX6_look RX6 2 4) (hR : RI X cX6_look) (a1 : Int32) (s : St) : G X 0 [.ref (X.B + 0), .int a1] [] s (M_X6_look a1 s) := by
  unfold M_X6_look
  refine g_iload_n (pc := 0) K 1 dX6_look_0 rfl rfl ?_
  refine g_iconst (pc := 1) K (0) dX6_look_1 (by decide) ?_
  refine g_bipush (pc := 2) K (20) dX6_look_2 (by decide) ?_
  refine g_callS (pc := 4) (S := []) K (qX6_within X.E a1 (0) (20)) (by decide) (by decide) wcX6_within wiX6 kX6_71 wtX6_within hyX6_within rfl rfl (Nat.le_of_ble_eq_true rfl) dX6_look_4 (fun r1 s2 => ?_)
  change G X 7 [.ref (X.B + 0), .int a1] [.int r1] s2 _
  refine g_if_ne (pc := 7) K 12 dX6_look_7 (by decide) ?_ ?_
  · refine g_aload_n (pc := 12) K 0 dX6_look_12 rfl rfl ?_
    refine gg_6_9 (pc := 13) K (by decide) kd_0 kX6_63 dX6_look_13 ?_
    refine g_iload_n (pc := 16) K 1 dX6_look_16 rfl rfl ?_
    refine g_callVN (pc := 17) (S := []) K (qX4_bestOthers X.E a1) (by decide) (ci := 4) rfl (fun _ => ⟨_, ce_4 kd_64⟩) (by decide) (by decide) wcX4_bestOthers wiX4 kX6_199 wmX4_bestOthers weX4_bestOthers hyX4_bestOthers rfl rfl (Nat.le_of_ble_eq_true rfl) dX6_look_17 (fun r3 s4 => ?_)
    change G X 20 [.ref (X.B + 0), .int a1] [.int r3] s4 _
    exact g_ir (pc := 20) hR dX6_look_20
  · refine g_iconst (pc := 10) K (-1) dX6_look_10 (by decide) ?_
    exact g_ir (pc := 11) hR dX6_look_11
theorem qX6_look (E : Ce) (a1 : Int32) : Con E yX6_look cX6_look 2 (some .int) 4 [.ref (E.B + 0), .int a1] (M_X6_look a1) :=
  Con.of (by decide) (List.forall_mem_cons.mpr ⟨rfl, List.forall_mem_cons.mpr ⟨rfl, fun _ h => absurd h List.not_mem_nil⟩⟩) (Nat.le_of_ble_eq_true rfl) (Or.inr (Or.inl rfl)) [.ref (E.B + 0), .int a1] ⟨rfl, ⟨rfl, trivial⟩⟩ (fun X s hE hok hI hZ hV => by subst hE; exact tX6_look hok (hI rfl) a1 s)
theorem hyX6_asFarmer : yX6_asFarmer.cls ≠ "java/lang/invoke/MethodHandle" ∧ yX6_asFarmer.cls ≠ "java/lang/invoke/VarHandle" ∧ (parseMethodDescriptor yX6_asFarmer.desc).map (fun d => d.parameters.length) = some 1 := by decide +kernel
set_option maxRecDepth 20000 in
set_option maxHeartbeats 4000000 in
theorem tX6_asFarmer {X : Cx} (K : Ok X cX6_asFarmer RX6 2 1) (hR : RI X cX6_asFarmer) (a1 : Int32) (s : St) : G X 0 [.ref (X.B + 0), .int a1] [] s (M_X6_asFarmer a1 s) := by
  unfold M_X6_asFarmer
  refine g_aload_n (pc := 0) K 0 dX6_asFarmer_0 rfl rfl ?_
  refine g_dup (pc := 1) K dX6_asFarmer_1 rfl ?_
  refine gg_6_11 (pc := 2) K (by decide) kd_0 kX6_223 dX6_asFarmer_2 ?_
  refine g_lconst (pc := 5) K (1) dX6_asFarmer_5 (by decide) ?_
  refine g_ladd (pc := 6) K dX6_asFarmer_6 ?_
  refine gp_6_11 (pc := 7) K (by decide) kd_0 kX6_223 dX6_asFarmer_7 (fun s1 => ?_)
  refine g_aload_n (pc := 10) K 0 dX6_asFarmer_10 rfl rfl ?_
  refine gg_6_3 (pc := 11) K (by decide) kd_0 kX6_31 dX6_asFarmer_11 ?_
  refine gg_3_3 (pc := 14) K (by decide) kd_15 kX6_107 dX6_asFarmer_14 16 rfl ?_
  refine g_iload_n (pc := 17) K 1 dX6_asFarmer_17 rfl rfl ?_
  refine g_iaload (pc := 18) K (by decide) kd_16 ln_16 dX6_asFarmer_18 (fun v2 => ?_)
  exact g_ir (pc := 19) hR dX6_asFarmer_19
theorem qX6_asFarmer (E : Ce) (a1 : Int32) : Con E yX6_asFarmer cX6_asFarmer 2 (some .int) 1 [.ref (E.B + 0), .int a1] (M_X6_asFarmer a1) :=
  Con.of (by decide) (List.forall_mem_cons.mpr ⟨rfl, List.forall_mem_cons.mpr ⟨rfl, fun _ h => absurd h List.not_mem_nil⟩⟩) (Nat.le_of_ble_eq_true rfl) (Or.inr (Or.inl rfl)) [.ref (E.B + 0), .int a1] ⟨rfl, ⟨rfl, trivial⟩⟩ (fun X s hE hok hI hZ hV => by subst hE; exact tX6_asFarmer hok (hI rfl) a1 s)
theorem hyX6_asLate : yX6_asLate.cls ≠ "java/lang/invoke/MethodHandle" ∧ yX6_asLate.cls ≠ "java/lang/invoke/VarHandle" ∧ (parseMethodDescriptor yX6_asLate.desc).map (fun d => d.parameters.length) = some 1 := by decide +kernel
set_option maxRecDepth 20000 in
set_option maxHeartbeats 4000000 in
theorem tX6_asLate {X : Cx} (K : Ok X cX6_asLate RX6 2 2) (hR : RI X cX6_asLate) (a1 : Int32) (s : St) : G X 0 [.ref (X.B + 0), .int a1] [] s (M_X6_asLate a1 s) := by
  unfold M_X6_asLate
  refine g_aload_n (pc := 0) K 0 dX6_asLate_0 rfl rfl ?_
  refine g_dup (pc := 1) K dX6_asLate_1 rfl ?_
  refine gg_6_11 (pc := 2) K (by decide) kd_0 kX6_223 dX6_asLate_2 ?_
  refine g_ldc2 (pc := 5) K kX6_235 dX6_asLate_5 ?_
  refine g_ladd (pc := 8) K dX6_asLate_8 ?_
  refine gp_6_11 (pc := 9) K (by decide) kd_0 kX6_223 dX6_asLate_9 (fun s1 => ?_)
  refine g_aload_n (pc := 12) K 0 dX6_asLate_12 rfl rfl ?_
  refine g_iload_n (pc := 13) K 1 dX6_asLate_13 rfl rfl ?_
  refine g_callV (pc := 14) (S := []) K (qX6_asFarmer X.E a1) (by decide) (ci := 6) rfl (fun _ => ⟨_, ce_6 kd_0⟩) (by decide) (by decide) wcX6_asFarmer wiX6 kX6_203 wmX6_asFarmer weX6_asFarmer hyX6_asFarmer rfl rfl (Nat.le_of_ble_eq_true rfl) dX6_asLate_14 (fun r2 s3 => ?_)
  change G X 17 [.ref (X.B + 0), .int a1] [.int r2] s3 _
  refine g_aload_n (pc := 17) K 0 dX6_asLate_17 rfl rfl ?_
  refine gg_6_2 (pc := 18) K (by decide) kd_0 kX6_23 dX6_asLate_18 ?_
  refine gg_1_3 (pc := 21) K (by decide) kd_9 kX6_110 dX6_asLate_21 12 rfl ?_
  refine g_iload_n (pc := 24) K 1 dX6_asLate_24 rfl rfl ?_
  refine g_iaload (pc := 25) K (by decide) kd_12 ln_12 dX6_asLate_25 (fun v4 => ?_)
  refine g_isub (pc := 26) K dX6_asLate_26 ?_
  exact g_ir (pc := 27) hR dX6_asLate_27
theorem qX6_asLate (E : Ce) (a1 : Int32) : Con E yX6_asLate cX6_asLate 2 (some .int) 2 [.ref (E.B + 0), .int a1] (M_X6_asLate a1) :=
  Con.of (by decide) (List.forall_mem_cons.mpr ⟨rfl, List.forall_mem_cons.mpr ⟨rfl, fun _ h => absurd h List.not_mem_nil⟩⟩) (Nat.le_of_ble_eq_true rfl) (Or.inr (Or.inl rfl)) [.ref (E.B + 0), .int a1] ⟨rfl, ⟨rfl, trivial⟩⟩ (fun X s hE hok hI hZ hV => by subst hE; exact tX6_asLate hok (hI rfl) a1 s)
theorem hyX6_asCousin : yX6_asCousin.cls ≠ "java/lang/invoke/MethodHandle" ∧ yX6_asCousin.cls ≠ "java/lang/invoke/VarHandle" ∧ (parseMethodDescriptor yX6_asCousin.desc).map (fun d => d.parameters.length) = some 1 := by decide +kernel
set_option maxRecDepth 20000 in
set_option maxHeartbeats 4000000 in
theorem tX6_asCousin {X : Cx} (K : Ok X cX6_asCousin RX6 2 3) (hR : RI X cX6_asCousin) (a1 : Int32) (s : St) : G X 0 [.ref (X.B + 0), .int a1] [] s (M_X6_asCousin a1 s) := by
  unfold M_X6_asCousin
  refine g_aload_n (pc := 0) K 0 dX6_asCousin_0 rfl rfl ?_
  refine g_dup (pc := 1) K dX6_asCousin_1 rfl ?_
  refine gg_6_11 (pc := 2) K (by decide) kd_0 kX6_223 dX6_asCousin_2 ?_
  refine g_ldc2 (pc := 5) K kX6_239 dX6_asCousin_5 ?_
  refine g_ladd (pc := 8) K dX6_asCousin_8 ?_
  refine gp_6_11 (pc := 9) K (by decide) kd_0 kX6_223 dX6_asCousin_9 (fun s1 => ?_)
  refine g_aload_n (pc := 12) K 0 dX6_asCousin_12 rfl rfl ?_
  refine g_iload_n (pc := 13) K 1 dX6_asCousin_13 rfl rfl ?_
  refine g_callV (pc := 14) (S := []) K (qX6_asLate X.E a1) (by decide) (ci := 6) rfl (fun _ => ⟨_, ce_6 kd_0⟩) (by decide) (by decide) wcX6_asLate wiX6 kX6_209 wmX6_asLate weX6_asLate hyX6_asLate rfl rfl (Nat.le_of_ble_eq_true rfl) dX6_asCousin_14 (fun r2 s3 => ?_)
  change G X 17 [.ref (X.B + 0), .int a1] [.int r2] s3 _
  refine g_iload_n (pc := 17) K 1 dX6_asCousin_17 rfl rfl ?_
  refine g_iadd (pc := 18) K dX6_asCousin_18 ?_
  exact g_ir (pc := 19) hR dX6_asCousin_19
theorem qX6_asCousin (E : Ce) (a1 : Int32) : Con E yX6_asCousin cX6_asCousin 2 (some .int) 3 [.ref (E.B + 0), .int a1] (M_X6_asCousin a1) :=
  Con.of (by decide) (List.forall_mem_cons.mpr ⟨rfl, List.forall_mem_cons.mpr ⟨rfl, fun _ h => absurd h List.not_mem_nil⟩⟩) (Nat.le_of_ble_eq_true rfl) (Or.inr (Or.inl rfl)) [.ref (E.B + 0), .int a1] ⟨rfl, ⟨rfl, trivial⟩⟩ (fun X s hE hok hI hZ hV => by subst hE; exact tX6_asCousin hok (hI rfl) a1 s)
theorem hyX6_asMower : yX6_asMower.cls ≠ "java/lang/invoke/MethodHandle" ∧ yX6_asMower.cls ≠ "java/lang/invoke/VarHandle" ∧ (parseMethodDescriptor yX6_asMower.desc).map (fun d => d.parameters.length) = some 1 := by decide +kernel
set_option maxRecDepth 20000 in
set_option maxHeartbeats 4000000 in
theorem tX6_asMower {X : Cx} (K : Ok X cX6_asMower RX6 2 2) (hR : RI X cX6_asMower) (a1 : Int32) (s : St) : G X 0 [.ref (X.B + 0), .int a1] [] s (M_X6_asMower a1 s) := by
  unfold M_X6_asMower
  refine g_aload_n (pc := 0) K 0 dX6_asMower_0 rfl rfl ?_
  refine g_dup (pc := 1) K dX6_asMower_1 rfl ?_
  refine gg_6_11 (pc := 2) K (by decide) kd_0 kX6_223 dX6_asMower_2 ?_
  refine g_ldc2 (pc := 5) K kX6_233 dX6_asMower_5 ?_
  refine g_ladd (pc := 8) K dX6_asMower_8 ?_
  refine gp_6_11 (pc := 9) K (by decide) kd_0 kX6_223 dX6_asMower_9 (fun s1 => ?_)
  refine g_aload_n (pc := 12) K 0 dX6_asMower_12 rfl rfl ?_
  refine g_iload_n (pc := 13) K 1 dX6_asMower_13 rfl rfl ?_
  refine g_callV (pc := 14) (S := []) K (qX6_asFarmer X.E a1) (by decide) (ci := 6) rfl (fun _ => ⟨_, ce_6 kd_0⟩) (by decide) (by decide) wcX6_asFarmer wiX6 kX6_203 wmX6_asFarmer weX6_asFarmer hyX6_asFarmer rfl rfl (Nat.le_of_ble_eq_true rfl) dX6_asMower_14 (fun r2 s3 => ?_)
  change G X 17 [.ref (X.B + 0), .int a1] [.int r2] s3 _
  refine g_aload_n (pc := 17) K 0 dX6_asMower_17 rfl rfl ?_
  refine gg_6_3 (pc := 18) K (by decide) kd_0 kX6_31 dX6_asMower_18 ?_
  refine g_iload_n (pc := 21) K 1 dX6_asMower_21 rfl rfl ?_
  refine g_callVN (pc := 22) (S := [.int r2]) K (qX3_hungWith X.E 15 scn_15 a1) (by decide) (ci := 3) rfl (fun _ => ⟨_, ce_3 kd_15⟩) (by decide) (by decide) wcX3_hungWith wiX3 kX6_122 wmX3_hungWith weX3_hungWith hyX3_hungWith rfl rfl (Nat.le_of_ble_eq_true rfl) dX6_asMower_22 (fun r4 s5 => ?_)
  change G X 25 [.ref (X.B + 0), .int a1] [.int r4, .int r2] s5 _
  refine g_callS (pc := 25) (S := [.int r2]) K (qJ6_bitCount_0f7a4 X.E r4) (by decide) (by decide) wcJ6_bitCount_0f7a4 wiJ6 kX6_156 wtJ6_bitCount_0f7a4 hyJ6_bitCount_0f7a4 rfl rfl (Nat.le_of_ble_eq_true rfl) dX6_asMower_25 (fun r6 s7 => ?_)
  change G X 28 [.ref (X.B + 0), .int a1] [.int r6, .int r2] s7 _
  refine g_iadd (pc := 28) K dX6_asMower_28 ?_
  exact g_ir (pc := 29) hR dX6_asMower_29
theorem qX6_asMower (E : Ce) (a1 : Int32) : Con E yX6_asMower cX6_asMower 2 (some .int) 2 [.ref (E.B + 0), .int a1] (M_X6_asMower a1) :=
  Con.of (by decide) (List.forall_mem_cons.mpr ⟨rfl, List.forall_mem_cons.mpr ⟨rfl, fun _ h => absurd h List.not_mem_nil⟩⟩) (Nat.le_of_ble_eq_true rfl) (Or.inr (Or.inl rfl)) [.ref (E.B + 0), .int a1] ⟨rfl, ⟨rfl, trivial⟩⟩ (fun X s hE hok hI hZ hV => by subst hE; exact tX6_asMower hok (hI rfl) a1 s)
theorem hyX6_asSnow : yX6_asSnow.cls ≠ "java/lang/invoke/MethodHandle" ∧ yX6_asSnow.cls ≠ "java/lang/invoke/VarHandle" ∧ (parseMethodDescriptor yX6_asSnow.desc).map (fun d => d.parameters.length) = some 1 := by decide +kernel
set_option maxRecDepth 20000 in
set_option maxHeartbeats 4000000 in
theorem tX6_asSnow {X : Cx} (K : Ok X cX6_asSnow RX6 2 2) (hR : RI X cX6_asSnow) (a1 : Int32) (s : St) : G X 0 [.ref (X.B + 0), .int a1] [] s (M_X6_asSnow a1 s) := by
  unfold M_X6_asSnow
  refine g_aload_n (pc := 0) K 0 dX6_asSnow_0 rfl rfl ?_
  refine g_dup (pc := 1) K dX6_asSnow_1 rfl ?_
  refine gg_6_11 (pc := 2) K (by decide) kd_0 kX6_223 dX6_asSnow_2 ?_
  refine g_ldc2 (pc := 5) K kX6_241 dX6_asSnow_5 ?_
  refine g_ladd (pc := 8) K dX6_asSnow_8 ?_
  refine gp_6_11 (pc := 9) K (by decide) kd_0 kX6_223 dX6_asSnow_9 (fun s1 => ?_)
  refine g_aload_n (pc := 12) K 0 dX6_asSnow_12 rfl rfl ?_
  refine g_iload_n (pc := 13) K 1 dX6_asSnow_13 rfl rfl ?_
  refine g_callV (pc := 14) (S := []) K (qX6_asFarmer X.E a1) (by decide) (ci := 6) rfl (fun _ => ⟨_, ce_6 kd_0⟩) (by decide) (by decide) wcX6_asFarmer wiX6 kX6_203 wmX6_asFarmer weX6_asFarmer hyX6_asFarmer rfl rfl (Nat.le_of_ble_eq_true rfl) dX6_asSnow_14 (fun r2 s3 => ?_)
  change G X 17 [.ref (X.B + 0), .int a1] [.int r2] s3 _
  refine g_aload_n (pc := 17) K 0 dX6_asSnow_17 rfl rfl ?_
  refine gg_6_3 (pc := 18) K (by decide) kd_0 kX6_31 dX6_asSnow_18 ?_
  refine gg_3_1 (pc := 21) K (by decide) kd_15 kX6_135 dX6_asSnow_21 ?_
  refine g_iadd (pc := 24) K dX6_asSnow_24 ?_
  exact g_ir (pc := 25) hR dX6_asSnow_25
theorem qX6_asSnow (E : Ce) (a1 : Int32) : Con E yX6_asSnow cX6_asSnow 2 (some .int) 2 [.ref (E.B + 0), .int a1] (M_X6_asSnow a1) :=
  Con.of (by decide) (List.forall_mem_cons.mpr ⟨rfl, List.forall_mem_cons.mpr ⟨rfl, fun _ h => absurd h List.not_mem_nil⟩⟩) (Nat.le_of_ble_eq_true rfl) (Or.inr (Or.inl rfl)) [.ref (E.B + 0), .int a1] ⟨rfl, ⟨rfl, trivial⟩⟩ (fun X s hE hok hI hZ hV => by subst hE; exact tX6_asSnow hok (hI rfl) a1 s)
theorem hyX6_asSon : yX6_asSon.cls ≠ "java/lang/invoke/MethodHandle" ∧ yX6_asSon.cls ≠ "java/lang/invoke/VarHandle" ∧ (parseMethodDescriptor yX6_asSon.desc).map (fun d => d.parameters.length) = some 1 := by decide +kernel
set_option maxRecDepth 20000 in
set_option maxHeartbeats 4000000 in
theorem tX6_asSon {X : Cx} (K : Ok X cX6_asSon RX6 2 3) (hR : RI X cX6_asSon) (a1 : Int32) (s : St) : G X 0 [.ref (X.B + 0), .int a1] [] s (M_X6_asSon a1 s) := by
  unfold M_X6_asSon
  refine g_aload_n (pc := 0) K 0 dX6_asSon_0 rfl rfl ?_
  refine g_dup (pc := 1) K dX6_asSon_1 rfl ?_
  refine gg_6_11 (pc := 2) K (by decide) kd_0 kX6_223 dX6_asSon_2 ?_
  refine g_ldc2 (pc := 5) K kX6_237 dX6_asSon_5 ?_
  refine g_ladd (pc := 8) K dX6_asSon_8 ?_
  refine gp_6_11 (pc := 9) K (by decide) kd_0 kX6_223 dX6_asSon_9 (fun s1 => ?_)
  refine g_iconst (pc := 12) K (2) dX6_asSon_12 (by decide) ?_
  refine g_aload_n (pc := 13) K 0 dX6_asSon_13 rfl rfl ?_
  refine g_iload_n (pc := 14) K 1 dX6_asSon_14 rfl rfl ?_
  refine g_callV (pc := 15) (S := [.int (2)]) K (qX6_asMower X.E a1) (by decide) (ci := 6) rfl (fun _ => ⟨_, ce_6 kd_0⟩) (by decide) (by decide) wcX6_asMower wiX6 kX6_206 wmX6_asMower weX6_asMower hyX6_asMower rfl rfl (Nat.le_of_ble_eq_true rfl) dX6_asSon_15 (fun r2 s3 => ?_)
  change G X 18 [.ref (X.B + 0), .int a1] [.int r2, .int (2)] s3 _
  refine g_imul (pc := 18) K dX6_asSon_18 ?_
  exact g_ir (pc := 19) hR dX6_asSon_19
theorem qX6_asSon (E : Ce) (a1 : Int32) : Con E yX6_asSon cX6_asSon 2 (some .int) 3 [.ref (E.B + 0), .int a1] (M_X6_asSon a1) :=
  Con.of (by decide) (List.forall_mem_cons.mpr ⟨rfl, List.forall_mem_cons.mpr ⟨rfl, fun _ h => absurd h List.not_mem_nil⟩⟩) (Nat.le_of_ble_eq_true rfl) (Or.inr (Or.inl rfl)) [.ref (E.B + 0), .int a1] ⟨rfl, ⟨rfl, trivial⟩⟩ (fun X s hE hok hI hZ hV => by subst hE; exact tX6_asSon hok (hI rfl) a1 s)
theorem hyX6_rate : yX6_rate.cls ≠ "java/lang/invoke/MethodHandle" ∧ yX6_rate.cls ≠ "java/lang/invoke/VarHandle" ∧ (parseMethodDescriptor yX6_rate.desc).map (fun d => d.parameters.length) = some 2 := by decide +kernel
set_option maxRecDepth 20000 in
set_option maxHeartbeats 4000000 in
theorem tX6_rate {X : Cx} (K : Ok X cX6_rate RX6 3 4) (hR : RI X cX6_rate) (a1 : Int32) (a2 : Int32) (s : St) : G X 0 [.ref (X.B + 0), .int a1, .int a2] [] s (M_X6_rate a1 a2 s) := by
  unfold M_X6_rate
  refine g_aload_n (pc := 0) K 0 dX6_rate_0 rfl rfl ?_
  refine gg_6_2 (pc := 1) K (by decide) kd_0 kX6_23 dX6_rate_1 ?_
  refine g_iload_n (pc := 4) K 2 dX6_rate_4 rfl rfl ?_
  refine g_callVN (pc := 5) (S := []) K (qX1_has X.E 9 frm_9 a2) (by decide) (ci := 1) rfl (fun _ => ⟨_, ce_1 kd_9⟩) (by decide) (by decide) wcX1_has wiX1 kX6_101 wmX1_has weX1_has hyX1_has rfl rfl (Nat.le_of_ble_eq_true rfl) dX6_rate_5 (fun r1 s2 => ?_)
  change G X 8 [.ref (X.B + 0), .int a1, .int a2] [.int r1] s2 _
  refine g_if_ne (pc := 8) K 14 dX6_rate_8 (by decide) ?_ ?_
  · refine g_iload_n (pc := 14) K 1 dX6_rate_14 rfl rfl ?_
    refine g_case (pc := 15) (0) ?_ (fun n5 => ?_)
    · refine g_tin (pc := 15) (off := 37) K 52 dX6_rate_15 (by decide) (by decide) (by decide) (by decide) ?_
      refine g_aload_n (pc := 52) K 0 dX6_rate_52 rfl rfl ?_
      refine g_iload_n (pc := 53) K 2 dX6_rate_53 rfl rfl ?_
      refine g_callV (pc := 54) (S := []) K (qX6_asFarmer X.E a2) (by decide) (ci := 6) rfl (fun _ => ⟨_, ce_6 kd_0⟩) (by decide) (by decide) wcX6_asFarmer wiX6 kX6_203 wmX6_asFarmer weX6_asFarmer hyX6_asFarmer rfl rfl (Nat.le_of_ble_eq_true rfl) dX6_rate_54 (fun r3 s4 => ?_)
      change G X 57 [.ref (X.B + 0), .int a1, .int a2] [.int r3] s4 _
      exact g_ir (pc := 57) hR dX6_rate_57
    refine g_case (pc := 15) (1) ?_ (fun n8 => ?_)
    · refine g_tin (pc := 15) (off := 43) K 58 dX6_rate_15 (by decide) (by decide) (by decide) (by decide) ?_
      refine g_aload_n (pc := 58) K 0 dX6_rate_58 rfl rfl ?_
      refine g_iload_n (pc := 59) K 2 dX6_rate_59 rfl rfl ?_
      refine g_callV (pc := 60) (S := []) K (qX6_asMower X.E a2) (by decide) (ci := 6) rfl (fun _ => ⟨_, ce_6 kd_0⟩) (by decide) (by decide) wcX6_asMower wiX6 kX6_206 wmX6_asMower weX6_asMower hyX6_asMower rfl rfl (Nat.le_of_ble_eq_true rfl) dX6_rate_60 (fun r6 s7 => ?_)
      change G X 63 [.ref (X.B + 0), .int a1, .int a2] [.int r6] s7 _
      exact g_ir (pc := 63) hR dX6_rate_63
    refine g_case (pc := 15) (2) ?_ (fun n11 => ?_)
    · refine g_tin (pc := 15) (off := 49) K 64 dX6_rate_15 (by decide) (by decide) (by decide) (by decide) ?_
      refine g_aload_n (pc := 64) K 0 dX6_rate_64 rfl rfl ?_
      refine g_iload_n (pc := 65) K 2 dX6_rate_65 rfl rfl ?_
      refine g_callV (pc := 66) (S := []) K (qX6_asLate X.E a2) (by decide) (ci := 6) rfl (fun _ => ⟨_, ce_6 kd_0⟩) (by decide) (by decide) wcX6_asLate wiX6 kX6_209 wmX6_asLate weX6_asLate hyX6_asLate rfl rfl (Nat.le_of_ble_eq_true rfl) dX6_rate_66 (fun r9 s10 => ?_)
      change G X 69 [.ref (X.B + 0), .int a1, .int a2] [.int r9] s10 _
      exact g_ir (pc := 69) hR dX6_rate_69
    refine g_case (pc := 15) (3) ?_ (fun n14 => ?_)
    · refine g_tin (pc := 15) (off := 55) K 70 dX6_rate_15 (by decide) (by decide) (by decide) (by decide) ?_
      refine g_aload_n (pc := 70) K 0 dX6_rate_70 rfl rfl ?_
      refine g_iload_n (pc := 71) K 2 dX6_rate_71 rfl rfl ?_
      refine g_callV (pc := 72) (S := []) K (qX6_asSon X.E a2) (by decide) (ci := 6) rfl (fun _ => ⟨_, ce_6 kd_0⟩) (by decide) (by decide) wcX6_asSon wiX6 kX6_212 wmX6_asSon weX6_asSon hyX6_asSon rfl rfl (Nat.le_of_ble_eq_true rfl) dX6_rate_72 (fun r12 s13 => ?_)
      change G X 75 [.ref (X.B + 0), .int a1, .int a2] [.int r12] s13 _
      exact g_ir (pc := 75) hR dX6_rate_75
    refine g_case (pc := 15) (4) ?_ (fun n17 => ?_)
    · refine g_tin (pc := 15) (off := 61) K 76 dX6_rate_15 (by decide) (by decide) (by decide) (by decide) ?_
      refine g_aload_n (pc := 76) K 0 dX6_rate_76 rfl rfl ?_
      refine g_iload_n (pc := 77) K 2 dX6_rate_77 rfl rfl ?_
      refine g_callV (pc := 78) (S := []) K (qX6_asCousin X.E a2) (by decide) (ci := 6) rfl (fun _ => ⟨_, ce_6 kd_0⟩) (by decide) (by decide) wcX6_asCousin wiX6 kX6_215 wmX6_asCousin weX6_asCousin hyX6_asCousin rfl rfl (Nat.le_of_ble_eq_true rfl) dX6_rate_78 (fun r15 s16 => ?_)
      change G X 81 [.ref (X.B + 0), .int a1, .int a2] [.int r15] s16 _
      exact g_ir (pc := 81) hR dX6_rate_81
    refine g_case (pc := 15) (5) ?_ (fun n20 => ?_)
    · refine g_tin (pc := 15) (off := 67) K 82 dX6_rate_15 (by decide) (by decide) (by decide) (by decide) ?_
      refine g_aload_n (pc := 82) K 0 dX6_rate_82 rfl rfl ?_
      refine g_iload_n (pc := 83) K 2 dX6_rate_83 rfl rfl ?_
      refine g_callV (pc := 84) (S := []) K (qX6_asSnow X.E a2) (by decide) (ci := 6) rfl (fun _ => ⟨_, ce_6 kd_0⟩) (by decide) (by decide) wcX6_asSnow wiX6 kX6_218 wmX6_asSnow weX6_asSnow hyX6_asSnow rfl rfl (Nat.le_of_ble_eq_true rfl) dX6_rate_84 (fun r18 s19 => ?_)
      change G X 87 [.ref (X.B + 0), .int a1, .int a2] [.int r18] s19 _
      exact g_ir (pc := 87) hR dX6_rate_87
    refine g_tout (pc := 15) K 88 dX6_rate_15 (by have an5 := lv_neT n5 (a := 0) (by decide); have an8 := lv_neT n8 (a := 1) (by decide); have an11 := lv_neT n11 (a := 2) (by decide); have an14 := lv_neT n14 (a := 3) (by decide); have an17 := lv_neT n17 (a := 4) (by decide); have an20 := lv_neT n20 (a := 5) (by decide); omega) (by decide) ?_
    refine g_ldc (pc := 88) K kX6_202 dX6_rate_88 ?_
    exact g_ir (pc := 90) hR dX6_rate_90
  · refine g_ldc (pc := 11) K kX6_202 dX6_rate_11 ?_
    exact g_ir (pc := 13) hR dX6_rate_13
theorem qX6_rate (E : Ce) (a1 : Int32) (a2 : Int32) : Con E yX6_rate cX6_rate 3 (some .int) 4 [.ref (E.B + 0), .int a1, .int a2] (M_X6_rate a1 a2) :=
  Con.of (by decide) (List.forall_mem_cons.mpr ⟨rfl, List.forall_mem_cons.mpr ⟨rfl, List.forall_mem_cons.mpr ⟨rfl, fun _ h => absurd h List.not_mem_nil⟩⟩⟩) (Nat.le_of_ble_eq_true rfl) (Or.inr (Or.inl rfl)) [.ref (E.B + 0), .int a1, .int a2] ⟨rfl, ⟨rfl, ⟨rfl, trivial⟩⟩⟩ (fun X s hE hok hI hZ hV => by subst hE; exact tX6_rate hok (hI rfl) a1 a2 s)
theorem hyX6_keep : yX6_keep.cls ≠ "java/lang/invoke/MethodHandle" ∧ yX6_keep.cls ≠ "java/lang/invoke/VarHandle" ∧ (parseMethodDescriptor yX6_keep.desc).map (fun d => d.parameters.length) = some 1 := by decide +kernel
set_option maxRecDepth 20000 in
set_option maxHeartbeats 4000000 in
theorem tX6_keep {X : Cx} (K : Ok X cX6_keep RX6 2 2) (hR : RI X cX6_keep) (a1 : Int32) (s : St) : G X 0 [.ref (X.B + 0), .int a1] [] s (M_X6_keep a1 s) := by
  unfold M_X6_keep
  refine g_iload_n (pc := 0) K 1 dX6_keep_0 rfl rfl ?_
  refine g_iconst (pc := 1) K (0) dX6_keep_1 (by decide) ?_
  refine g_iconst (pc := 2) K (1) dX6_keep_2 (by decide) ?_
  refine g_callS (pc := 3) (S := []) K (qX6_within X.E a1 (0) (1)) (by decide) (by decide) wcX6_within wiX6 kX6_71 wtX6_within hyX6_within rfl rfl (Nat.le_of_ble_eq_true rfl) dX6_keep_3 (fun r1 s2 => ?_)
  change G X 6 [.ref (X.B + 0), .int a1] [.int r1] s2 _
  refine g_if_ne (pc := 6) K 11 dX6_keep_6 (by decide) ?_ ?_
  · refine g_aload_n (pc := 11) K 0 dX6_keep_11 rfl rfl ?_
    refine gg_6_6 (pc := 12) K (by decide) kd_0 kX6_45 dX6_keep_12 ?_
    refine g_iload_n (pc := 15) K 1 dX6_keep_15 rfl rfl ?_
    refine g_aald (pc := 16) K (by decide) kd_53 ln_53 Scn sc53 dX6_keep_16 (fun j3 hj3 => ?_)
    refine g_aload_n (pc := 17) K 0 dX6_keep_17 rfl rfl ?_
    refine gg_6_3 (pc := 18) K (by decide) kd_0 kX6_31 dX6_keep_18 ?_
    refine g_callVN (pc := 21) (S := []) K (qX3_copyFrom X.E j3 15 hj3 scn_15) hj3.1 (ci := 3) rfl (fun _ => ⟨_, ce_3 hj3.2.1⟩) (by decide) (by decide) wcX3_copyFrom wiX3 kX6_221 wmX3_copyFrom weX3_copyFrom hyX3_copyFrom rfl rfl (Nat.le_of_ble_eq_true rfl) dX6_keep_21 (fun r4 s5 => ?_)
    change G X 24 [.ref (X.B + 0), .int a1] [] s5 _
    refine g_aload_n (pc := 24) K 0 dX6_keep_24 rfl rfl ?_
    refine gg_6_7 (pc := 25) K (by decide) kd_0 kX6_49 dX6_keep_25 ?_
    refine g_iload_n (pc := 28) K 1 dX6_keep_28 rfl rfl ?_
    refine g_iconst (pc := 29) K (1) dX6_keep_29 (by decide) ?_
    refine g_bastore (pc := 30) K (by decide) kd_60 ln_60 dX6_keep_30 (fun s6 => ?_)
    refine g_aload_n (pc := 31) K 0 dX6_keep_31 rfl rfl ?_
    refine gg_6_3 (pc := 32) K (by decide) kd_0 kX6_31 dX6_keep_32 ?_
    refine gg_3_1 (pc := 35) K (by decide) kd_15 kX6_135 dX6_keep_35 ?_
    exact g_ir (pc := 38) hR dX6_keep_38
  · refine g_iconst (pc := 9) K (-1) dX6_keep_9 (by decide) ?_
    exact g_ir (pc := 10) hR dX6_keep_10
theorem qX6_keep (E : Ce) (a1 : Int32) : Con E yX6_keep cX6_keep 2 (some .int) 2 [.ref (E.B + 0), .int a1] (M_X6_keep a1) :=
  Con.of (by decide) (List.forall_mem_cons.mpr ⟨rfl, List.forall_mem_cons.mpr ⟨rfl, fun _ h => absurd h List.not_mem_nil⟩⟩) (Nat.le_of_ble_eq_true rfl) (Or.inr (Or.inl rfl)) [.ref (E.B + 0), .int a1] ⟨rfl, ⟨rfl, trivial⟩⟩ (fun X s hE hok hI hZ hV => by subst hE; exact tX6_keep hok (hI rfl) a1 s)
theorem hyX6_back : yX6_back.cls ≠ "java/lang/invoke/MethodHandle" ∧ yX6_back.cls ≠ "java/lang/invoke/VarHandle" ∧ (parseMethodDescriptor yX6_back.desc).map (fun d => d.parameters.length) = some 1 := by decide +kernel
set_option maxRecDepth 20000 in
set_option maxHeartbeats 4000000 in
theorem tX6_back {X : Cx} (K : Ok X cX6_back RX6 2 2) (hR : RI X cX6_back) (a1 : Int32) (s : St) : G X 0 [.ref (X.B + 0), .int a1] [] s (M_X6_back a1 s) := by
  unfold M_X6_back
  refine g_iload_n (pc := 0) K 1 dX6_back_0 rfl rfl ?_
  refine g_iconst (pc := 1) K (0) dX6_back_1 (by decide) ?_
  refine g_iconst (pc := 2) K (1) dX6_back_2 (by decide) ?_
  refine g_callS (pc := 3) (S := []) K (qX6_within X.E a1 (0) (1)) (by decide) (by decide) wcX6_within wiX6 kX6_71 wtX6_within hyX6_within rfl rfl (Nat.le_of_ble_eq_true rfl) dX6_back_3 (fun r1 s2 => ?_)
  change G X 6 [.ref (X.B + 0), .int a1] [.int r1] s2 _
  refine g_if_ne (pc := 6) K 11 dX6_back_6 (by decide) ?_ ?_
  · refine g_aload_n (pc := 11) K 0 dX6_back_11 rfl rfl ?_
    refine gg_6_7 (pc := 12) K (by decide) kd_0 kX6_49 dX6_back_12 ?_
    refine g_iload_n (pc := 15) K 1 dX6_back_15 rfl rfl ?_
    refine g_baload (pc := 16) K (by decide) kd_60 ln_60 dX6_back_16 (fun v3 => ?_)
    refine g_if_ne (pc := 17) K 23 dX6_back_17 (by decide) ?_ ?_
    · refine g_aload_n (pc := 23) K 0 dX6_back_23 rfl rfl ?_
      refine gg_6_3 (pc := 24) K (by decide) kd_0 kX6_31 dX6_back_24 ?_
      refine g_aload_n (pc := 27) K 0 dX6_back_27 rfl rfl ?_
      refine gg_6_6 (pc := 28) K (by decide) kd_0 kX6_45 dX6_back_28 ?_
      refine g_iload_n (pc := 31) K 1 dX6_back_31 rfl rfl ?_
      refine g_aald (pc := 32) K (by decide) kd_53 ln_53 Scn sc53 dX6_back_32 (fun j4 hj4 => ?_)
      refine g_callVN (pc := 33) (S := []) K (qX3_copyFrom X.E 15 j4 scn_15 hj4) (by decide) (ci := 3) rfl (fun _ => ⟨_, ce_3 kd_15⟩) (by decide) (by decide) wcX3_copyFrom wiX3 kX6_221 wmX3_copyFrom weX3_copyFrom hyX3_copyFrom rfl rfl (Nat.le_of_ble_eq_true rfl) dX6_back_33 (fun r5 s6 => ?_)
      change G X 36 [.ref (X.B + 0), .int a1] [] s6 _
      refine g_aload_n (pc := 36) K 0 dX6_back_36 rfl rfl ?_
      refine gg_6_5 (pc := 37) K (by decide) kd_0 kX6_41 dX6_back_37 ?_
      refine g_iconst (pc := 40) K (0) dX6_back_40 (by decide) ?_
      refine gp_2_2 (pc := 41) K (by decide) kd_21 kX6_96 dX6_back_41 (fun s7 => ?_)
      refine g_aload_n (pc := 44) K 0 dX6_back_44 rfl rfl ?_
      refine gg_6_3 (pc := 45) K (by decide) kd_0 kX6_31 dX6_back_45 ?_
      refine gg_3_1 (pc := 48) K (by decide) kd_15 kX6_135 dX6_back_48 ?_
      exact g_ir (pc := 51) hR dX6_back_51
    · refine g_bipush (pc := 20) K (-2) dX6_back_20 (by decide) ?_
      exact g_ir (pc := 22) hR dX6_back_22
  · refine g_iconst (pc := 9) K (-1) dX6_back_9 (by decide) ?_
    exact g_ir (pc := 10) hR dX6_back_10
theorem qX6_back (E : Ce) (a1 : Int32) : Con E yX6_back cX6_back 2 (some .int) 2 [.ref (E.B + 0), .int a1] (M_X6_back a1) :=
  Con.of (by decide) (List.forall_mem_cons.mpr ⟨rfl, List.forall_mem_cons.mpr ⟨rfl, fun _ h => absurd h List.not_mem_nil⟩⟩) (Nat.le_of_ble_eq_true rfl) (Or.inr (Or.inl rfl)) [.ref (E.B + 0), .int a1] ⟨rfl, ⟨rfl, trivial⟩⟩ (fun X s hE hok hI hZ hV => by subst hE; exact tX6_back hok (hI rfl) a1 s)
theorem hyX6_count : yX6_count.cls ≠ "java/lang/invoke/MethodHandle" ∧ yX6_count.cls ≠ "java/lang/invoke/VarHandle" ∧ (parseMethodDescriptor yX6_count.desc).map (fun d => d.parameters.length) = some 1 := by decide +kernel
set_option maxRecDepth 20000 in
set_option maxHeartbeats 4000000 in
theorem tX6_count {X : Cx} (K : Ok X cX6_count RX6 2 1) (hR : RI X cX6_count) (a1 : Int32) (s : St) : G X 0 [.ref (X.B + 0), .int a1] [] s (M_X6_count a1 s) := by
  unfold M_X6_count
  refine g_iload_n (pc := 0) K 1 dX6_count_0 rfl rfl ?_
  refine g_case (pc := 1) (0) ?_ (fun n1 => ?_)
  · refine g_tin (pc := 1) (off := 27) K 28 dX6_count_1 (by decide) (by decide) (by decide) (by decide) ?_
    refine g_aload_n (pc := 28) K 0 dX6_count_28 rfl rfl ?_
    refine gg_6_2 (pc := 29) K (by decide) kd_0 kX6_23 dX6_count_29 ?_
    refine gg_1_0 (pc := 32) K (by decide) kd_9 kX6_100 dX6_count_32 ?_
    exact g_ir (pc := 35) hR dX6_count_35
  refine g_case (pc := 1) (1) ?_ (fun n2 => ?_)
  · refine g_tin (pc := 1) (off := 35) K 36 dX6_count_1 (by decide) (by decide) (by decide) (by decide) ?_
    refine g_aload_n (pc := 36) K 0 dX6_count_36 rfl rfl ?_
    refine gg_6_9 (pc := 37) K (by decide) kd_0 kX6_63 dX6_count_37 ?_
    refine gg_4_0 (pc := 40) K (by decide) kd_64 kX6_183 dX6_count_40 ?_
    exact g_ir (pc := 43) hR dX6_count_43
  refine g_case (pc := 1) (2) ?_ (fun n3 => ?_)
  · refine g_tin (pc := 1) (off := 43) K 44 dX6_count_1 (by decide) (by decide) (by decide) (by decide) ?_
    refine g_aload_n (pc := 44) K 0 dX6_count_44 rfl rfl ?_
    refine gg_6_0 (pc := 45) K (by decide) kd_0 kX6_10 dX6_count_45 ?_
    refine gg_5_1 (pc := 48) K (by decide) kd_1 kX6_79 dX6_count_48 ?_
    exact g_ir (pc := 51) hR dX6_count_51
  refine g_tout (pc := 1) K 52 dX6_count_1 (by have an1 := lv_neT n1 (a := 0) (by decide); have an2 := lv_neT n2 (a := 1) (by decide); have an3 := lv_neT n3 (a := 2) (by decide); omega) (by decide) ?_
  refine g_iconst (pc := 52) K (-1) dX6_count_52 (by decide) ?_
  exact g_ir (pc := 53) hR dX6_count_53
theorem qX6_count (E : Ce) (a1 : Int32) : Con E yX6_count cX6_count 2 (some .int) 1 [.ref (E.B + 0), .int a1] (M_X6_count a1) :=
  Con.of (by decide) (List.forall_mem_cons.mpr ⟨rfl, List.forall_mem_cons.mpr ⟨rfl, fun _ h => absurd h List.not_mem_nil⟩⟩) (Nat.le_of_ble_eq_true rfl) (Or.inr (Or.inl rfl)) [.ref (E.B + 0), .int a1] ⟨rfl, ⟨rfl, trivial⟩⟩ (fun X s hE hok hI hZ hV => by subst hE; exact tX6_count hok (hI rfl) a1 s)
