theorem hyX7_in : yX7_in.cls ≠ "java/lang/invoke/MethodHandle" ∧ yX7_in.cls ≠ "java/lang/invoke/VarHandle" ∧ (parseMethodDescriptor yX7_in.desc).map (fun d => d.parameters.length) = some 3 := by decide +kernel
set_option maxRecDepth 20000 in
set_option maxHeartbeats 4000000 in
theorem tX7_in {X : Cx} (K : Ok X cX7_in RX7 3 1) (hR : RZ X cX7_in) (a0 : Int32) (a1 : Int32) (a2 : Int32) (s : St) : G X 0 [.int a0, .int a1, .int a2] [] s (M_X7_in a0 a1 a2 s) := by
  unfold M_X7_in
  refine g_iload_n (pc := 0) K 0 dX7_in_0 rfl rfl ?_
  refine g_iload_n (pc := 1) K 1 dX7_in_1 rfl rfl ?_
  refine g_icmp_lt (pc := 2) K 14 dX7_in_2 (by decide) ?_ ?_
  · refine g_iconst (pc := 14) K (0) dX7_in_14 (by decide) ?_
    exact g_zr0 (pc := 15) hR dX7_in_15
  · refine g_iload_n (pc := 5) K 0 dX7_in_5 rfl rfl ?_
    refine g_iload_n (pc := 6) K 2 dX7_in_6 rfl rfl ?_
    refine g_icmp_gt (pc := 7) K 14 dX7_in_7 (by decide) ?_ ?_
    · refine g_iconst (pc := 14) K (0) dX7_in_14 (by decide) ?_
      exact g_zr0 (pc := 15) hR dX7_in_15
    · refine g_iconst (pc := 10) K (1) dX7_in_10 (by decide) ?_
      refine g_goto (pc := 11) K 15 dX7_in_11 (by decide) ?_
      exact g_zr1 (pc := 15) hR dX7_in_15
theorem qX7_in (E : Ce) (a0 : Int32) (a1 : Int32) (a2 : Int32) : Con E yX7_in cX7_in 3 (some .boolean) 1 [.int a0, .int a1, .int a2] (M_X7_in a0 a1 a2) :=
  Con.of (by decide) (List.forall_mem_cons.mpr ⟨rfl, List.forall_mem_cons.mpr ⟨rfl, List.forall_mem_cons.mpr ⟨rfl, fun _ h => absurd h List.not_mem_nil⟩⟩⟩) (Nat.le_of_ble_eq_true rfl) (Or.inr (Or.inr rfl)) [.int a0, .int a1, .int a2] ⟨rfl, ⟨rfl, ⟨rfl, trivial⟩⟩⟩ (fun X s hE hok hI hZ hV => by subst hE; exact tX7_in hok (hZ rfl) a0 a1 a2 s)
theorem hyX7_has : yX7_has.cls ≠ "java/lang/invoke/MethodHandle" ∧ yX7_has.cls ≠ "java/lang/invoke/VarHandle" ∧ (parseMethodDescriptor yX7_has.desc).map (fun d => d.parameters.length) = some 2 := by decide +kernel
set_option maxRecDepth 20000 in
set_option maxHeartbeats 4000000 in
theorem tX7_has {X : Cx} (K : Ok X cX7_has RX7 2 1) (hR : RZ X cX7_has) (a0 : Int32) (a1 : Int32) (s : St) : G X 0 [.int a0, .int a1] [] s (M_X7_has a0 a1 s) := by
  unfold M_X7_has
  refine g_iload_n (pc := 0) K 0 dX7_has_0 rfl rfl ?_
  refine g_iload_n (pc := 1) K 1 dX7_has_1 rfl rfl ?_
  refine g_ishr (pc := 2) K dX7_has_2 ?_
  refine g_iconst (pc := 3) K (1) dX7_has_3 (by decide) ?_
  refine g_iand (pc := 4) K dX7_has_4 ?_
  refine g_iconst (pc := 5) K (1) dX7_has_5 (by decide) ?_
  refine g_icmp_ne (pc := 6) K 13 dX7_has_6 (by decide) ?_ ?_
  · refine g_iconst (pc := 13) K (0) dX7_has_13 (by decide) ?_
    exact g_zr0 (pc := 14) hR dX7_has_14
  · refine g_iconst (pc := 9) K (1) dX7_has_9 (by decide) ?_
    refine g_goto (pc := 10) K 14 dX7_has_10 (by decide) ?_
    exact g_zr1 (pc := 14) hR dX7_has_14
theorem qX7_has (E : Ce) (a0 : Int32) (a1 : Int32) : Con E yX7_has cX7_has 2 (some .boolean) 1 [.int a0, .int a1] (M_X7_has a0 a1) :=
  Con.of (by decide) (List.forall_mem_cons.mpr ⟨rfl, List.forall_mem_cons.mpr ⟨rfl, fun _ h => absurd h List.not_mem_nil⟩⟩) (Nat.le_of_ble_eq_true rfl) (Or.inr (Or.inr rfl)) [.int a0, .int a1] ⟨rfl, ⟨rfl, trivial⟩⟩ (fun X s hE hok hI hZ hV => by subst hE; exact tX7_has hok (hZ rfl) a0 a1 s)
theorem hyX7_bits : yX7_bits.cls ≠ "java/lang/invoke/MethodHandle" ∧ yX7_bits.cls ≠ "java/lang/invoke/VarHandle" ∧ (parseMethodDescriptor yX7_bits.desc).map (fun d => d.parameters.length) = some 1 := by decide +kernel
set_option maxRecDepth 20000 in
set_option maxHeartbeats 4000000 in
theorem tM_X7_bits_L4 {X : Cx} (K : Ok X cX7_bits RX7 3 1) (hR : RI X cX7_bits) (x0 : Int32) (kk : Int32 → St → Option (Int32 × St)) (hkk : ∀ (x1 : Int32) (s : St), G X 24 [.null, .int x1, .null] [] s (kk x1 s)) : ∀ (fu : Nat) (x1 x2 : Int32) (s : St), G X 4 [.int x0, .int x1, .int x2] [] s (M_X7_bits_L4 x0 kk fu x1 x2 s) := by
  intro fu
  induction fu with
  | zero => intro x1 x2 s; exact g_none
  | succ fu ih =>
    intro x1 x2 s
    rw [M_X7_bits_L4]
    refine g_iload_n (pc := 4) K 2 dX7_bits_4 rfl rfl ?_
    refine g_bipush (pc := 5) K (8) dX7_bits_5 (by decide) ?_
    refine g_icmp_ge (pc := 7) K 24 dX7_bits_7 (by decide) ?_ ?_
    · exact g_wk (hkk x1 s) ⟨rfl, trivial⟩
    · refine g_iload_n (pc := 10) K 1 dX7_bits_10 rfl rfl ?_
      refine g_iload_n (pc := 11) K 0 dX7_bits_11 rfl rfl ?_
      refine g_iload_n (pc := 12) K 2 dX7_bits_12 rfl rfl ?_
      refine g_ishr (pc := 13) K dX7_bits_13 ?_
      refine g_iconst (pc := 14) K (1) dX7_bits_14 (by decide) ?_
      refine g_iand (pc := 15) K dX7_bits_15 ?_
      refine g_iadd (pc := 16) K dX7_bits_16 ?_
      refine g_istore_n (pc := 17) K 1 dX7_bits_17 rfl (by decide) ?_
      change G X 18 [.int x0, .int (x1 + ((x0 >>> (x2 &&& 31)) &&& (1))), .int x2] [] s _
      refine g_iinc (pc := 18) K (1) dX7_bits_18 rfl (by decide) (by decide) ?_
      change G X 21 [.int x0, .int (x1 + ((x0 >>> (x2 &&& 31)) &&& (1))), .int (x2 + (1))] [] s _
      refine g_goto (pc := 21) K 4 dX7_bits_21 (by decide) ?_
      exact g_wk (ih (x1 + ((x0 >>> (x2 &&& 31)) &&& (1))) (x2 + (1)) s) ⟨rfl, ⟨rfl, ⟨rfl, trivial⟩⟩⟩
set_option maxRecDepth 20000 in
set_option maxHeartbeats 4000000 in
theorem tX7_bits {X : Cx} (K : Ok X cX7_bits RX7 3 1) (hR : RI X cX7_bits) (a0 : Int32) (s : St) : G X 0 [.int a0, .null, .null] [] s (M_X7_bits a0 s) := by
  unfold M_X7_bits
  refine g_iconst (pc := 0) K (0) dX7_bits_0 (by decide) ?_
  refine g_istore_n (pc := 1) K 1 dX7_bits_1 rfl (by decide) ?_
  change G X 2 [.int a0, .int (0), .null] [] s _
  refine g_iconst (pc := 2) K (0) dX7_bits_2 (by decide) ?_
  refine g_istore_n (pc := 3) K 2 dX7_bits_3 rfl (by decide) ?_
  change G X 4 [.int a0, .int (0), .int (0)] [] s _
  refine g_weak (L' := [.int a0, .int (0), .int (0)]) ⟨rfl, ⟨rfl, ⟨rfl, trivial⟩⟩⟩ ?_
  refine tM_X7_bits_L4 K hR a0 _ (fun v1 s2 => ?_) 400 (0) (0) s
  refine g_iload_n (pc := 24) K 1 dX7_bits_24 rfl rfl ?_
  exact g_ir (pc := 25) hR dX7_bits_25
theorem qX7_bits (E : Ce) (a0 : Int32) : Con E yX7_bits cX7_bits 3 (some .int) 1 [.int a0] (M_X7_bits a0) :=
  Con.of (by decide) (List.forall_mem_cons.mpr ⟨rfl, fun _ h => absurd h List.not_mem_nil⟩) (Nat.le_of_ble_eq_true rfl) (Or.inr (Or.inl rfl)) [.int a0, .null, .null] ⟨rfl, trivial⟩ (fun X s hE hok hI hZ hV => by subst hE; exact tX7_bits hok (hI rfl) a0 s)
theorem hyX7_isFarmer : yX7_isFarmer.cls ≠ "java/lang/invoke/MethodHandle" ∧ yX7_isFarmer.cls ≠ "java/lang/invoke/VarHandle" ∧ (parseMethodDescriptor yX7_isFarmer.desc).map (fun d => d.parameters.length) = some 1 := by decide +kernel
set_option maxRecDepth 20000 in
set_option maxHeartbeats 4000000 in
theorem tX7_isFarmer {X : Cx} (K : Ok X cX7_isFarmer RX7 2 2) (hR : RZ X cX7_isFarmer) (a1 : Int32) (s : St) : G X 0 [.ref (X.B + 67), .int a1] [] s (M_X7_isFarmer a1 s) := by
  unfold M_X7_isFarmer
  refine g_iload_n (pc := 0) K 1 dX7_isFarmer_0 rfl rfl ?_
  refine g_iconst (pc := 1) K (0) dX7_isFarmer_1 (by decide) ?_
  refine g_aload_n (pc := 2) K 0 dX7_isFarmer_2 rfl rfl ?_
  refine gg_7_0 (pc := 3) K (by decide) kd_67 kX7_47 dX7_isFarmer_3 ?_
  refine g_iconst (pc := 6) K (1) dX7_isFarmer_6 (by decide) ?_
  refine g_isub (pc := 7) K dX7_isFarmer_7 ?_
  refine g_callS (pc := 8) (S := []) K (qX7_in X.E a1 (0) ((s.1 67 0) - (1))) (by decide) (by decide) wcX7_in wiX7 kX7_51 wtX7_in hyX7_in rfl rfl (Nat.le_of_ble_eq_true rfl) dX7_isFarmer_8 (fun r1 s2 => ?_)
  change G X 11 [.ref (X.B + 67), .int a1] [.int r1] s2 _
  exact g_zr (pc := 11) hR dX7_isFarmer_11
theorem qX7_isFarmer (E : Ce) (a1 : Int32) : Con E yX7_isFarmer cX7_isFarmer 2 (some .boolean) 2 [.ref (E.B + 67), .int a1] (M_X7_isFarmer a1) :=
  Con.of (by decide) (List.forall_mem_cons.mpr ⟨rfl, List.forall_mem_cons.mpr ⟨rfl, fun _ h => absurd h List.not_mem_nil⟩⟩) (Nat.le_of_ble_eq_true rfl) (Or.inr (Or.inr rfl)) [.ref (E.B + 67), .int a1] ⟨rfl, ⟨rfl, trivial⟩⟩ (fun X s hE hok hI hZ hV => by subst hE; exact tX7_isFarmer hok (hZ rfl) a1 s)
theorem hyX7_copy : yX7_copy.cls ≠ "java/lang/invoke/MethodHandle" ∧ yX7_copy.cls ≠ "java/lang/invoke/VarHandle" ∧ (parseMethodDescriptor yX7_copy.desc).map (fun d => d.parameters.length) = some 4 := by decide +kernel
set_option maxRecDepth 20000 in
set_option maxHeartbeats 4000000 in
theorem tM_X7_copy_L3 {X : Cx} (K : Ok X cX7_copy RX7 5 1) (hR : RV X cX7_copy) (k0 : Nat) (k2 : Nat) (hk0 : Arr k0) (hk2 : Arr k2) (x1 : Int32) (x3 : Int32) (kk : St → Option (Int32 × St)) (hkk : ∀ (s : St), G X 28 [.null, .null, .null, .null, .null] [] s (kk s)) : ∀ (fu : Nat) (x4 : Int32) (s : St), G X 3 [.ref (X.B + k0), .int x1, .ref (X.B + k2), .int x3, .int x4] [] s (M_X7_copy_L3 k0 k2 x1 x3 kk fu x4 s) := by
  intro fu
  induction fu with
  | zero => intro x4 s; exact g_none
  | succ fu ih =>
    intro x4 s
    rw [M_X7_copy_L3]
    refine g_iload (pc := 3) K dX7_copy_3 rfl ?_
    refine g_bipush (pc := 5) K (14) dX7_copy_5 (by decide) ?_
    refine g_icmp_ge (pc := 7) K 28 dX7_copy_7 (by decide) ?_ ?_
    · exact g_wk (hkk  s) trivial
    · refine g_aload_n (pc := 10) K 0 dX7_copy_10 rfl rfl ?_
      refine g_iload_n (pc := 11) K 1 dX7_copy_11 rfl rfl ?_
      refine g_iload (pc := 12) K dX7_copy_12 rfl ?_
      refine g_iadd (pc := 14) K dX7_copy_14 ?_
      refine g_aload_n (pc := 15) K 2 dX7_copy_15 rfl rfl ?_
      refine g_iload_n (pc := 16) K 3 dX7_copy_16 rfl rfl ?_
      refine g_iload (pc := 17) K dX7_copy_17 rfl ?_
      refine g_iadd (pc := 19) K dX7_copy_19 ?_
      refine g_iaload (pc := 20) K hk2.1 hk2.2 rfl dX7_copy_20 (fun v1 => ?_)
      refine g_iastore (pc := 21) K hk0.1 hk0.2 rfl dX7_copy_21 (fun s2 => ?_)
      refine g_iinc (pc := 22) K (1) dX7_copy_22 rfl (by decide) (by decide) ?_
      change G X 25 [.ref (X.B + k0), .int x1, .ref (X.B + k2), .int x3, .int (x4 + (1))] [] s2 _
      refine g_goto (pc := 25) K 3 dX7_copy_25 (by decide) ?_
      exact g_wk (ih (x4 + (1)) s2) ⟨rfl, ⟨rfl, ⟨rfl, ⟨rfl, ⟨rfl, trivial⟩⟩⟩⟩⟩
set_option maxRecDepth 20000 in
set_option maxHeartbeats 4000000 in
theorem tX7_copy {X : Cx} (K : Ok X cX7_copy RX7 5 1) (hR : RV X cX7_copy) (k0 : Nat) (k2 : Nat) (hk0 : Arr k0) (hk2 : Arr k2) (a1 : Int32) (a3 : Int32) (s : St) : G X 0 [.ref (X.B + k0), .int a1, .ref (X.B + k2), .int a3, .null] [] s (M_X7_copy k0 k2 a1 a3 s) := by
  unfold M_X7_copy
  refine g_iconst (pc := 0) K (0) dX7_copy_0 (by decide) ?_
  refine g_istore (pc := 1) K dX7_copy_1 (by decide) ?_
  change G X 3 [.ref (X.B + k0), .int a1, .ref (X.B + k2), .int a3, .int (0)] [] s _
  refine g_weak (L' := [.ref (X.B + k0), .int a1, .ref (X.B + k2), .int a3, .int (0)]) ⟨rfl, ⟨rfl, ⟨rfl, ⟨rfl, ⟨rfl, trivial⟩⟩⟩⟩⟩ ?_
  refine tM_X7_copy_L3 K hR k0 k2 hk0 hk2 a1 a3 _ (fun s3 => ?_) 400 (0) s
  exact g_vr (pc := 28) hR dX7_copy_28
theorem qX7_copy (E : Ce) (k0 : Nat) (k2 : Nat) (hk0 : Arr k0) (hk2 : Arr k2) (a1 : Int32) (a3 : Int32) : Con E yX7_copy cX7_copy 5 none 1 [.ref (E.B + k0), .int a1, .ref (E.B + k2), .int a3] (M_X7_copy k0 k2 a1 a3) :=
  Con.of (by decide) (List.forall_mem_cons.mpr ⟨rfl, List.forall_mem_cons.mpr ⟨rfl, List.forall_mem_cons.mpr ⟨rfl, List.forall_mem_cons.mpr ⟨rfl, fun _ h => absurd h List.not_mem_nil⟩⟩⟩⟩) (Nat.le_of_ble_eq_true rfl) (Or.inl rfl) [.ref (E.B + k0), .int a1, .ref (E.B + k2), .int a3, .null] ⟨rfl, ⟨rfl, ⟨rfl, ⟨rfl, trivial⟩⟩⟩⟩ (fun X s hE hok hI hZ hV => by subst hE; exact tX7_copy hok (hV rfl) k0 k2 hk0 hk2 a1 a3 s)
theorem hyX7_type : yX7_type.cls ≠ "java/lang/invoke/MethodHandle" ∧ yX7_type.cls ≠ "java/lang/invoke/VarHandle" ∧ (parseMethodDescriptor yX7_type.desc).map (fun d => d.parameters.length) = some 1 := by decide +kernel
set_option maxRecDepth 20000 in
set_option maxHeartbeats 4000000 in
theorem tX7_type {X : Cx} (K : Ok X cX7_type RX7 2 2) (hR : RI X cX7_type) (a1 : Int32) (s : St) : G X 0 [.ref (X.B + 67), .int a1] [] s (M_X7_type a1 s) := by
  unfold M_X7_type
  refine g_iload_n (pc := 0) K 1 dX7_type_0 rfl rfl ?_
  refine g_iconst (pc := 1) K (0) dX7_type_1 (by decide) ?_
  refine g_sipush (pc := 2) K (255) dX7_type_2 (by decide) ?_
  refine g_callS (pc := 5) (S := []) K (qX7_in X.E a1 (0) (255)) (by decide) (by decide) wcX7_in wiX7 kX7_51 wtX7_in hyX7_in rfl rfl (Nat.le_of_ble_eq_true rfl) dX7_type_5 (fun r1 s2 => ?_)
  change G X 8 [.ref (X.B + 67), .int a1] [.int r1] s2 _
  refine g_if_ne (pc := 8) K 13 dX7_type_8 (by decide) ?_ ?_
  · refine g_aload_n (pc := 13) K 0 dX7_type_13 rfl rfl ?_
    refine gg_7_13 (pc := 14) K (by decide) kd_67 kX7_55 dX7_type_14 ?_
    refine g_sipush (pc := 17) K (140) dX7_type_17 (by decide) ?_
    refine g_icmp_ne (pc := 20) K 26 dX7_type_20 (by decide) ?_ ?_
    · refine g_aload_n (pc := 26) K 0 dX7_type_26 rfl rfl ?_
      refine gg_7_12 (pc := 27) K (by decide) kd_67 kX7_35 dX7_type_27 ?_
      refine g_aload_n (pc := 30) K 0 dX7_type_30 rfl rfl ?_
      refine gg_7_13 (pc := 31) K (by decide) kd_67 kX7_55 dX7_type_31 ?_
      refine g_iload_n (pc := 34) K 1 dX7_type_34 rfl rfl ?_
      refine g_iastore (pc := 35) K (by decide) kd_76 ln_76 dX7_type_35 (fun s3 => ?_)
      refine g_aload_n (pc := 36) K 0 dX7_type_36 rfl rfl ?_
      refine g_dup (pc := 37) K dX7_type_37 rfl ?_
      refine gg_7_13 (pc := 38) K (by decide) kd_67 kX7_55 dX7_type_38 ?_
      refine g_iconst (pc := 41) K (1) dX7_type_41 (by decide) ?_
      refine g_iadd (pc := 42) K dX7_type_42 ?_
      refine gp_7_13 (pc := 43) K (by decide) kd_67 kX7_55 dX7_type_43 (fun s4 => ?_)
      refine g_aload_n (pc := 46) K 0 dX7_type_46 rfl rfl ?_
      refine gg_7_13 (pc := 47) K (by decide) kd_67 kX7_55 dX7_type_47 ?_
      exact g_ir (pc := 50) hR dX7_type_50
    · refine g_bipush (pc := 23) K (-3) dX7_type_23 (by decide) ?_
      exact g_ir (pc := 25) hR dX7_type_25
  · refine g_iconst (pc := 11) K (-1) dX7_type_11 (by decide) ?_
    exact g_ir (pc := 12) hR dX7_type_12
theorem qX7_type (E : Ce) (a1 : Int32) : Con E yX7_type cX7_type 2 (some .int) 2 [.ref (E.B + 67), .int a1] (M_X7_type a1) :=
  Con.of (by decide) (List.forall_mem_cons.mpr ⟨rfl, List.forall_mem_cons.mpr ⟨rfl, fun _ h => absurd h List.not_mem_nil⟩⟩) (Nat.le_of_ble_eq_true rfl) (Or.inr (Or.inl rfl)) [.ref (E.B + 67), .int a1] ⟨rfl, ⟨rfl, trivial⟩⟩ (fun X s hE hok hI hZ hV => by subst hE; exact tX7_type hok (hI rfl) a1 s)
theorem hyX7_clear : yX7_clear.cls ≠ "java/lang/invoke/MethodHandle" ∧ yX7_clear.cls ≠ "java/lang/invoke/VarHandle" ∧ (parseMethodDescriptor yX7_clear.desc).map (fun d => d.parameters.length) = some 0 := by decide +kernel
set_option maxRecDepth 20000 in
set_option maxHeartbeats 4000000 in
theorem tX7_clear {X : Cx} (K : Ok X cX7_clear RX7 2 1) (hR : RI X cX7_clear) (s : St) : G X 0 [.ref (X.B + 67), .null] [] s (M_X7_clear s) := by
  unfold M_X7_clear
  refine g_aload_n (pc := 0) K 0 dX7_clear_0 rfl rfl ?_
  refine gg_7_13 (pc := 1) K (by decide) kd_67 kX7_55 dX7_clear_1 ?_
  refine g_istore_n (pc := 4) K 1 dX7_clear_4 rfl (by decide) ?_
  change G X 5 [.ref (X.B + 67), .int (s.1 67 13)] [] s _
  refine g_aload_n (pc := 5) K 0 dX7_clear_5 rfl rfl ?_
  refine g_iconst (pc := 6) K (0) dX7_clear_6 (by decide) ?_
  refine gp_7_13 (pc := 7) K (by decide) kd_67 kX7_55 dX7_clear_7 (fun s1 => ?_)
  refine g_iload_n (pc := 10) K 1 dX7_clear_10 rfl rfl ?_
  exact g_ir (pc := 11) hR dX7_clear_11
theorem qX7_clear (E : Ce) : Con E yX7_clear cX7_clear 2 (some .int) 1 [.ref (E.B + 67)] (M_X7_clear) :=
  Con.of (by decide) (List.forall_mem_cons.mpr ⟨rfl, fun _ h => absurd h List.not_mem_nil⟩) (Nat.le_of_ble_eq_true rfl) (Or.inr (Or.inl rfl)) [.ref (E.B + 67), .null] ⟨rfl, trivial⟩ (fun X s hE hok hI hZ hV => by subst hE; exact tX7_clear hok (hI rfl) s)
theorem hyX7_letterAt : yX7_letterAt.cls ≠ "java/lang/invoke/MethodHandle" ∧ yX7_letterAt.cls ≠ "java/lang/invoke/VarHandle" ∧ (parseMethodDescriptor yX7_letterAt.desc).map (fun d => d.parameters.length) = some 1 := by decide +kernel
set_option maxRecDepth 20000 in
set_option maxHeartbeats 4000000 in
theorem tX7_letterAt {X : Cx} (K : Ok X cX7_letterAt RX7 2 1) (hR : RI X cX7_letterAt) (a1 : Int32) (s : St) : G X 0 [.ref (X.B + 67), .int a1] [] s (M_X7_letterAt a1 s) := by
  unfold M_X7_letterAt
  refine g_iload_n (pc := 0) K 1 dX7_letterAt_0 rfl rfl ?_
  refine g_aload_n (pc := 1) K 0 dX7_letterAt_1 rfl rfl ?_
  refine gg_7_13 (pc := 2) K (by decide) kd_67 kX7_55 dX7_letterAt_2 ?_
  refine g_icmp_ge (pc := 5) K 17 dX7_letterAt_5 (by decide) ?_ ?_
  · refine g_iconst (pc := 17) K (-1) dX7_letterAt_17 (by decide) ?_
    exact g_ir (pc := 18) hR dX7_letterAt_18
  · refine g_aload_n (pc := 8) K 0 dX7_letterAt_8 rfl rfl ?_
    refine gg_7_12 (pc := 9) K (by decide) kd_67 kX7_35 dX7_letterAt_9 ?_
    refine g_iload_n (pc := 12) K 1 dX7_letterAt_12 rfl rfl ?_
    refine g_iaload (pc := 13) K (by decide) kd_76 ln_76 dX7_letterAt_13 (fun v1 => ?_)
    refine g_goto (pc := 14) K 18 dX7_letterAt_14 (by decide) ?_
    exact g_ir (pc := 18) hR dX7_letterAt_18
theorem qX7_letterAt (E : Ce) (a1 : Int32) : Con E yX7_letterAt cX7_letterAt 2 (some .int) 1 [.ref (E.B + 67), .int a1] (M_X7_letterAt a1) :=
  Con.of (by decide) (List.forall_mem_cons.mpr ⟨rfl, List.forall_mem_cons.mpr ⟨rfl, fun _ h => absurd h List.not_mem_nil⟩⟩) (Nat.le_of_ble_eq_true rfl) (Or.inr (Or.inl rfl)) [.ref (E.B + 67), .int a1] ⟨rfl, ⟨rfl, trivial⟩⟩ (fun X s hE hok hI hZ hV => by subst hE; exact tX7_letterAt hok (hI rfl) a1 s)
theorem hyX7_isFigure : yX7_isFigure.cls ≠ "java/lang/invoke/MethodHandle" ∧ yX7_isFigure.cls ≠ "java/lang/invoke/VarHandle" ∧ (parseMethodDescriptor yX7_isFigure.desc).map (fun d => d.parameters.length) = some 1 := by decide +kernel
set_option maxRecDepth 20000 in
set_option maxHeartbeats 4000000 in
theorem tX7_isFigure {X : Cx} (K : Ok X cX7_isFigure RX7 1 2) (hR : RZ X cX7_isFigure) (a0 : Int32) (s : St) : G X 0 [.int a0] [] s (M_X7_isFigure a0 s) := by
  unfold M_X7_isFigure
  refine g_iload_n (pc := 0) K 0 dX7_isFigure_0 rfl rfl ?_
  refine g_bipush (pc := 1) K (48) dX7_isFigure_1 (by decide) ?_
  refine g_bipush (pc := 3) K (57) dX7_isFigure_3 (by decide) ?_
  refine g_callS (pc := 5) (S := []) K (qX7_in X.E a0 (48) (57)) (by decide) (by decide) wcX7_in wiX7 kX7_51 wtX7_in hyX7_in rfl rfl (Nat.le_of_ble_eq_true rfl) dX7_isFigure_5 (fun r1 s2 => ?_)
  change G X 8 [.int a0] [.int r1] s2 _
  exact g_zr (pc := 8) hR dX7_isFigure_8
theorem qX7_isFigure (E : Ce) (a0 : Int32) : Con E yX7_isFigure cX7_isFigure 1 (some .boolean) 2 [.int a0] (M_X7_isFigure a0) :=
  Con.of (by decide) (List.forall_mem_cons.mpr ⟨rfl, fun _ h => absurd h List.not_mem_nil⟩) (Nat.le_of_ble_eq_true rfl) (Or.inr (Or.inr rfl)) [.int a0] ⟨rfl, trivial⟩ (fun X s hE hok hI hZ hV => by subst hE; exact tX7_isFigure hok (hZ rfl) a0 s)
theorem hyX7_next : yX7_next.cls ≠ "java/lang/invoke/MethodHandle" ∧ yX7_next.cls ≠ "java/lang/invoke/VarHandle" ∧ (parseMethodDescriptor yX7_next.desc).map (fun d => d.parameters.length) = some 0 := by decide +kernel
set_option maxRecDepth 20000 in
set_option maxHeartbeats 4000000 in
theorem tM_X7_next_L0 {X : Cx} (K : Ok X cX7_next RX7 2 3) (hR : RV X cX7_next) (kk : St → Option (Int32 × St)) (hkk : ∀ (s : St), G X 26 [.ref (X.B + 67), .null] [] s (kk s)) : ∀ (fu : Nat) (s : St), G X 0 [.ref (X.B + 67), .null] [] s (M_X7_next_L0 kk fu s) := by
  intro fu
  induction fu with
  | zero => intro  s; exact g_none
  | succ fu ih =>
    intro  s
    rw [M_X7_next_L0]
    refine g_aload_n (pc := 0) K 0 dX7_next_0 rfl rfl ?_
    refine g_aload_n (pc := 1) K 0 dX7_next_1 rfl rfl ?_
    refine gg_7_14 (pc := 2) K (by decide) kd_67 kX7_58 dX7_next_2 ?_
    refine g_callV (pc := 5) (S := []) K (qX7_letterAt X.E (s.1 67 14)) (by decide) (ci := 7) rfl (fun _ => ⟨_, ce_7 kd_67⟩) (by decide) (by decide) wcX7_letterAt wiX7 kX7_61 wmX7_letterAt weX7_letterAt hyX7_letterAt rfl rfl (Nat.le_of_ble_eq_true rfl) dX7_next_5 (fun r1 s2 => ?_)
    change G X 8 [.ref (X.B + 67), .null] [.int r1] s2 _
    refine g_bipush (pc := 8) K (32) dX7_next_8 (by decide) ?_
    refine g_icmp_ne (pc := 10) K 26 dX7_next_10 (by decide) ?_ ?_
    · exact g_wk (hkk  s2) ⟨rfl, trivial⟩
    · refine g_aload_n (pc := 13) K 0 dX7_next_13 rfl rfl ?_
      refine g_dup (pc := 14) K dX7_next_14 rfl ?_
      refine gg_7_14 (pc := 15) K (by decide) kd_67 kX7_58 dX7_next_15 ?_
      refine g_iconst (pc := 18) K (1) dX7_next_18 (by decide) ?_
      refine g_iadd (pc := 19) K dX7_next_19 ?_
      refine gp_7_14 (pc := 20) K (by decide) kd_67 kX7_58 dX7_next_20 (fun s3 => ?_)
      refine g_goto (pc := 23) K 0 dX7_next_23 (by decide) ?_
      exact g_wk (ih  s3) ⟨rfl, trivial⟩
set_option maxRecDepth 20000 in
set_option maxHeartbeats 4000000 in
theorem tM_X7_next_L67 {X : Cx} (K : Ok X cX7_next RX7 2 3) (hR : RV X cX7_next) (x1 : Int32) (kk : St → Option (Int32 × St)) (hkk : ∀ (s : St), G X 133 [.ref (X.B + 67), .int x1] [] s (kk s)) : ∀ (fu : Nat) (s : St), G X 67 [.ref (X.B + 67), .int x1] [] s (M_X7_next_L67 x1 kk fu s) := by
  intro fu
  induction fu with
  | zero => intro  s; exact g_none
  | succ fu ih =>
    intro  s
    rw [M_X7_next_L67]
    refine g_aload_n (pc := 67) K 0 dX7_next_67 rfl rfl ?_
    refine g_aload_n (pc := 68) K 0 dX7_next_68 rfl rfl ?_
    refine gg_7_14 (pc := 69) K (by decide) kd_67 kX7_58 dX7_next_69 ?_
    refine g_callV (pc := 72) (S := []) K (qX7_letterAt X.E (s.1 67 14)) (by decide) (ci := 7) rfl (fun _ => ⟨_, ce_7 kd_67⟩) (by decide) (by decide) wcX7_letterAt wiX7 kX7_61 wmX7_letterAt weX7_letterAt hyX7_letterAt rfl rfl (Nat.le_of_ble_eq_true rfl) dX7_next_72 (fun r17 s18 => ?_)
    change G X 75 [.ref (X.B + 67), .int x1] [.int r17] s18 _
    refine g_callS (pc := 75) (S := []) K (qX7_isFigure X.E r17) (by decide) (by decide) wcX7_isFigure wiX7 kX7_74 wtX7_isFigure hyX7_isFigure rfl rfl (Nat.le_of_ble_eq_true rfl) dX7_next_75 (fun r19 s20 => ?_)
    change G X 78 [.ref (X.B + 67), .int x1] [.int r19] s20 _
    refine g_if_eq (pc := 78) K 133 dX7_next_78 (by decide) ?_ ?_
    · exact g_wk (hkk  s20) ⟨rfl, ⟨rfl, trivial⟩⟩
    · refine g_aload_n (pc := 81) K 0 dX7_next_81 rfl rfl ?_
      refine g_aload_n (pc := 82) K 0 dX7_next_82 rfl rfl ?_
      refine gg_7_17 (pc := 83) K (by decide) kd_67 kX7_68 dX7_next_83 ?_
      refine g_bipush (pc := 86) K (99) dX7_next_86 (by decide) ?_
      refine g_jn (κ := Int32 → St → Option (Int32 × St)) (fun kj21 => ∀ (v22 : Int32) (s23 : St), G X 117 [.ref (X.B + 67), .int x1] [.int v22, .ref (X.B + 67)] s23 (kj21 v22 s23)) (fun v22 s23 => ?_) (fun kj21 hkj21 => ?_)
      · refine gp_7_17 (pc := 117) K (by decide) kd_67 kX7_68 dX7_next_117 (fun s24 => ?_)
        refine g_aload_n (pc := 120) K 0 dX7_next_120 rfl rfl ?_
        refine g_dup (pc := 121) K dX7_next_121 rfl ?_
        refine gg_7_14 (pc := 122) K (by decide) kd_67 kX7_58 dX7_next_122 ?_
        refine g_iconst (pc := 125) K (1) dX7_next_125 (by decide) ?_
        refine g_iadd (pc := 126) K dX7_next_126 ?_
        refine gp_7_14 (pc := 127) K (by decide) kd_67 kX7_58 dX7_next_127 (fun s25 => ?_)
        refine g_goto (pc := 130) K 67 dX7_next_130 (by decide) ?_
        exact g_wk (ih  s25) ⟨rfl, ⟨rfl, trivial⟩⟩
      · refine g_icmp_le (pc := 88) K 98 dX7_next_88 (by decide) ?_ ?_
        · refine g_bipush (pc := 98) K (10) dX7_next_98 (by decide) ?_
          refine g_aload_n (pc := 100) K 0 dX7_next_100 rfl rfl ?_
          refine gg_7_17 (pc := 101) K (by decide) kd_67 kX7_68 dX7_next_101 ?_
          refine g_imul (pc := 104) K dX7_next_104 ?_
          refine g_aload_n (pc := 105) K 0 dX7_next_105 rfl rfl ?_
          refine g_aload_n (pc := 106) K 0 dX7_next_106 rfl rfl ?_
          refine gg_7_14 (pc := 107) K (by decide) kd_67 kX7_58 dX7_next_107 ?_
          refine g_callV (pc := 110) (S := [.int ((10) * (s20.1 67 17)), .ref (X.B + 67)]) K (qX7_letterAt X.E (s20.1 67 14)) (by decide) (ci := 7) rfl (fun _ => ⟨_, ce_7 kd_67⟩) (by decide) (by decide) wcX7_letterAt wiX7 kX7_61 wmX7_letterAt weX7_letterAt hyX7_letterAt rfl rfl (Nat.le_of_ble_eq_true rfl) dX7_next_110 (fun r26 s27 => ?_)
          change G X 113 [.ref (X.B + 67), .int x1] [.int r26, .int ((10) * (s20.1 67 17)), .ref (X.B + 67)] s27 _
          refine g_iadd (pc := 113) K dX7_next_113 ?_
          refine g_bipush (pc := 114) K (48) dX7_next_114 (by decide) ?_
          refine g_isub (pc := 116) K dX7_next_116 ?_
          exact g_wk (hkj21 ((((10) * (s20.1 67 17)) + r26) - (48)) s27) ⟨rfl, ⟨rfl, trivial⟩⟩
        · refine g_aload_n (pc := 91) K 0 dX7_next_91 rfl rfl ?_
          refine gg_7_17 (pc := 92) K (by decide) kd_67 kX7_68 dX7_next_92 ?_
          refine g_goto (pc := 95) K 117 dX7_next_95 (by decide) ?_
          exact g_wk (hkj21 (s20.1 67 17) s20) ⟨rfl, ⟨rfl, trivial⟩⟩
set_option maxRecDepth 20000 in
set_option maxHeartbeats 4000000 in
theorem tX7_next {X : Cx} (K : Ok X cX7_next RX7 2 3) (hR : RV X cX7_next) (s : St) : G X 0 [.ref (X.B + 67), .null] [] s (M_X7_next s) := by
  unfold M_X7_next
  refine g_weak (L' := [.ref (X.B + 67), .null]) ⟨rfl, trivial⟩ ?_
  refine tM_X7_next_L0 K hR  _ (fun s4 => ?_) 400  s
  refine g_aload_n (pc := 26) K 0 dX7_next_26 rfl rfl ?_
  refine g_aload_n (pc := 27) K 0 dX7_next_27 rfl rfl ?_
  refine gg_7_14 (pc := 28) K (by decide) kd_67 kX7_58 dX7_next_28 ?_
  refine gp_7_15 (pc := 31) K (by decide) kd_67 kX7_65 dX7_next_31 (fun s5 => ?_)
  refine g_aload_n (pc := 34) K 0 dX7_next_34 rfl rfl ?_
  refine g_aload_n (pc := 35) K 0 dX7_next_35 rfl rfl ?_
  refine gg_7_14 (pc := 36) K (by decide) kd_67 kX7_58 dX7_next_36 ?_
  refine g_callV (pc := 39) (S := []) K (qX7_letterAt X.E (s5.1 67 14)) (by decide) (ci := 7) rfl (fun _ => ⟨_, ce_7 kd_67⟩) (by decide) (by decide) wcX7_letterAt wiX7 kX7_61 wmX7_letterAt weX7_letterAt hyX7_letterAt rfl rfl (Nat.le_of_ble_eq_true rfl) dX7_next_39 (fun r6 s7 => ?_)
  change G X 42 [.ref (X.B + 67), .null] [.int r6] s7 _
  refine g_istore_n (pc := 42) K 1 dX7_next_42 rfl (by decide) ?_
  change G X 43 [.ref (X.B + 67), .int r6] [] s7 _
  refine g_aload_n (pc := 43) K 0 dX7_next_43 rfl rfl ?_
  refine g_iconst (pc := 44) K (0) dX7_next_44 (by decide) ?_
  refine gp_7_17 (pc := 45) K (by decide) kd_67 kX7_68 dX7_next_45 (fun s8 => ?_)
  refine g_iload_n (pc := 48) K 1 dX7_next_48 rfl rfl ?_
  refine g_if_ge (pc := 49) K 60 dX7_next_49 (by decide) ?_ ?_
  · refine g_iload_n (pc := 60) K 1 dX7_next_60 rfl rfl ?_
    refine g_callS (pc := 61) (S := []) K (qX7_isFigure X.E r6) (by decide) (by decide) wcX7_isFigure wiX7 kX7_74 wtX7_isFigure hyX7_isFigure rfl rfl (Nat.le_of_ble_eq_true rfl) dX7_next_61 (fun r9 s10 => ?_)
    change G X 64 [.ref (X.B + 67), .int r6] [.int r9] s10 _
    refine g_if_eq (pc := 64) K 173 dX7_next_64 (by decide) ?_ ?_
    · refine g_aload_n (pc := 173) K 0 dX7_next_173 rfl rfl ?_
      refine g_iload_n (pc := 174) K 1 dX7_next_174 rfl rfl ?_
      refine g_bipush (pc := 175) K (102) dX7_next_175 (by decide) ?_
      refine g_jn (κ := Int32 → St → Option (Int32 × St)) (fun kj11 => ∀ (v12 : Int32) (s13 : St), G X 195 [.ref (X.B + 67), .int r6] [.int v12, .ref (X.B + 67)] s13 (kj11 v12 s13)) (fun v12 s13 => ?_) (fun kj11 hkj11 => ?_)
      · refine gp_7_16 (pc := 195) K (by decide) kd_67 kX7_71 dX7_next_195 (fun s14 => ?_)
        refine g_aload_n (pc := 198) K 0 dX7_next_198 rfl rfl ?_
        refine g_iload_n (pc := 199) K 1 dX7_next_199 rfl rfl ?_
        refine gp_7_17 (pc := 200) K (by decide) kd_67 kX7_68 dX7_next_200 (fun s15 => ?_)
        refine g_aload_n (pc := 203) K 0 dX7_next_203 rfl rfl ?_
        refine g_dup (pc := 204) K dX7_next_204 rfl ?_
        refine gg_7_14 (pc := 205) K (by decide) kd_67 kX7_58 dX7_next_205 ?_
        refine g_iconst (pc := 208) K (1) dX7_next_208 (by decide) ?_
        refine g_iadd (pc := 209) K dX7_next_209 ?_
        refine gp_7_14 (pc := 210) K (by decide) kd_67 kX7_58 dX7_next_210 (fun s16 => ?_)
        exact g_vr (pc := 213) hR dX7_next_213
      · refine g_icmp_ne (pc := 177) K 184 dX7_next_177 (by decide) ?_ ?_
        · refine g_iload_n (pc := 184) K 1 dX7_next_184 rfl rfl ?_
          refine g_bipush (pc := 185) K (59) dX7_next_185 (by decide) ?_
          refine g_icmp_ne (pc := 187) K 194 dX7_next_187 (by decide) ?_ ?_
          · refine g_iconst (pc := 194) K (4) dX7_next_194 (by decide) ?_
            exact g_wk (hkj11 (4) s10) ⟨rfl, ⟨rfl, trivial⟩⟩
          · refine g_iconst (pc := 190) K (3) dX7_next_190 (by decide) ?_
            refine g_goto (pc := 191) K 195 dX7_next_191 (by decide) ?_
            exact g_wk (hkj11 (3) s10) ⟨rfl, ⟨rfl, trivial⟩⟩
        · refine g_iconst (pc := 180) K (1) dX7_next_180 (by decide) ?_
          refine g_goto (pc := 181) K 195 dX7_next_181 (by decide) ?_
          exact g_wk (hkj11 (1) s10) ⟨rfl, ⟨rfl, trivial⟩⟩
    · refine g_weak (L' := [.ref (X.B + 67), .int r6]) ⟨rfl, ⟨rfl, trivial⟩⟩ ?_
      refine tM_X7_next_L67 K hR r6 _ (fun s28 => ?_) 400  s10
      refine g_aload_n (pc := 133) K 0 dX7_next_133 rfl rfl ?_
      refine g_aload_n (pc := 134) K 0 dX7_next_134 rfl rfl ?_
      refine gg_7_17 (pc := 135) K (by decide) kd_67 kX7_68 dX7_next_135 ?_
      refine g_bipush (pc := 138) K (99) dX7_next_138 (by decide) ?_
      refine g_jn (κ := Int32 → St → Option (Int32 × St)) (fun kj29 => ∀ (v30 : Int32) (s31 : St), G X 167 [.null, .null] [.int v30, .ref (X.B + 67)] s31 (kj29 v30 s31)) (fun v30 s31 => ?_) (fun kj29 hkj29 => ?_)
      · refine gp_7_16 (pc := 167) K (by decide) kd_67 kX7_71 dX7_next_167 (fun s32 => ?_)
        refine g_goto (pc := 170) K 213 dX7_next_170 (by decide) ?_
        exact g_vr (pc := 213) hR dX7_next_213
      · refine g_icmp_gt (pc := 140) K 162 dX7_next_140 (by decide) ?_ ?_
        · refine g_iconst (pc := 162) K (4) dX7_next_162 (by decide) ?_
          refine g_goto (pc := 163) K 167 dX7_next_163 (by decide) ?_
          exact g_wk (hkj29 (4) s28) trivial
        · refine g_iload_n (pc := 143) K 1 dX7_next_143 rfl rfl ?_
          refine g_bipush (pc := 144) K (48) dX7_next_144 (by decide) ?_
          refine g_icmp_ne (pc := 146) K 166 dX7_next_146 (by decide) ?_ ?_
          · refine g_iconst (pc := 166) K (2) dX7_next_166 (by decide) ?_
            exact g_wk (hkj29 (2) s28) trivial
          · refine g_aload_n (pc := 149) K 0 dX7_next_149 rfl rfl ?_
            refine gg_7_14 (pc := 150) K (by decide) kd_67 kX7_58 dX7_next_150 ?_
            refine g_aload_n (pc := 153) K 0 dX7_next_153 rfl rfl ?_
            refine gg_7_15 (pc := 154) K (by decide) kd_67 kX7_65 dX7_next_154 ?_
            refine g_isub (pc := 157) K dX7_next_157 ?_
            refine g_iconst (pc := 158) K (1) dX7_next_158 (by decide) ?_
            refine g_icmp_le (pc := 159) K 166 dX7_next_159 (by decide) ?_ ?_
            · refine g_iconst (pc := 166) K (2) dX7_next_166 (by decide) ?_
              exact g_wk (hkj29 (2) s28) trivial
            · refine g_iconst (pc := 162) K (4) dX7_next_162 (by decide) ?_
              refine g_goto (pc := 163) K 167 dX7_next_163 (by decide) ?_
              exact g_wk (hkj29 (4) s28) trivial
  · refine g_aload_n (pc := 52) K 0 dX7_next_52 rfl rfl ?_
    refine g_iconst (pc := 53) K (0) dX7_next_53 (by decide) ?_
    refine gp_7_16 (pc := 54) K (by decide) kd_67 kX7_71 dX7_next_54 (fun s33 => ?_)
    refine g_goto (pc := 57) K 213 dX7_next_57 (by decide) ?_
    exact g_vr (pc := 213) hR dX7_next_213
theorem qX7_next (E : Ce) : Con E yX7_next cX7_next 2 none 3 [.ref (E.B + 67)] (M_X7_next) :=
  Con.of (by decide) (List.forall_mem_cons.mpr ⟨rfl, fun _ h => absurd h List.not_mem_nil⟩) (Nat.le_of_ble_eq_true rfl) (Or.inl rfl) [.ref (E.B + 67), .null] ⟨rfl, trivial⟩ (fun X s hE hok hI hZ hV => by subst hE; exact tX7_next hok (hV rfl) s)
theorem hyX7_takesNumber : yX7_takesNumber.cls ≠ "java/lang/invoke/MethodHandle" ∧ yX7_takesNumber.cls ≠ "java/lang/invoke/VarHandle" ∧ (parseMethodDescriptor yX7_takesNumber.desc).map (fun d => d.parameters.length) = some 2 := by decide +kernel
set_option maxRecDepth 20000 in
set_option maxHeartbeats 4000000 in
theorem tX7_takesNumber {X : Cx} (K : Ok X cX7_takesNumber RX7 5 4) (hR : RI X cX7_takesNumber) (a1 : Int32) (a2 : Int32) (s : St) : G X 0 [.ref (X.B + 67), .int a1, .int a2, .null, .null] [] s (M_X7_takesNumber a1 a2 s) := by
  unfold M_X7_takesNumber
  refine g_aload_n (pc := 0) K 0 dX7_takesNumber_0 rfl rfl ?_
  refine gg_7_18 (pc := 1) K (by decide) kd_67 kX7_78 dX7_takesNumber_1 ?_
  refine g_jn (κ := Int32 → St → Option (Int32 × St)) (fun kj1 => ∀ (v2 : Int32) (s3 : St), G X 32 [.ref (X.B + 67), .null, .null, .null, .null] [.int v2] s3 (kj1 v2 s3)) (fun v2 s3 => ?_) (fun kj1 hkj1 => ?_)
  · refine g_istore_n (pc := 32) K 3 dX7_takesNumber_32 rfl (by decide) ?_
    change G X 33 [.ref (X.B + 67), .null, .null, .int v2, .null] [] s3 _
    refine g_aload_n (pc := 33) K 0 dX7_takesNumber_33 rfl rfl ?_
    refine g_iload_n (pc := 34) K 3 dX7_takesNumber_34 rfl rfl ?_
    refine g_jn (κ := Int32 → St → Option (Int32 × St)) (fun kj4 => ∀ (v5 : Int32) (s6 : St), G X 43 [.ref (X.B + 67), .null, .null, .int v2, .null] [.int v5, .ref (X.B + 67)] s6 (kj4 v5 s6)) (fun v5 s6 => ?_) (fun kj4 hkj4 => ?_)
    · refine gp_7_18 (pc := 43) K (by decide) kd_67 kX7_78 dX7_takesNumber_43 (fun s7 => ?_)
      refine g_aload_n (pc := 46) K 0 dX7_takesNumber_46 rfl rfl ?_
      refine gg_7_17 (pc := 47) K (by decide) kd_67 kX7_68 dX7_takesNumber_47 ?_
      refine g_istore (pc := 50) K dX7_takesNumber_50 (by decide) ?_
      change G X 52 [.ref (X.B + 67), .null, .null, .int v2, .int (s7.1 67 17)] [] s7 _
      refine g_iload_n (pc := 52) K 3 dX7_takesNumber_52 rfl rfl ?_
      refine g_jn (κ := St → Option (Int32 × St)) (fun kj8 => ∀ (s9 : St), G X 60 [.null, .null, .null, .int v2, .int (s7.1 67 17)] [] s9 (kj8 s9)) (fun s9 => ?_) (fun kj8 hkj8 => ?_)
      · refine g_iload_n (pc := 60) K 3 dX7_takesNumber_60 rfl rfl ?_
        refine g_if_eq (pc := 61) K 69 dX7_takesNumber_61 (by decide) ?_ ?_
        · refine g_iconst (pc := 69) K (0) dX7_takesNumber_69 (by decide) ?_
          exact g_ir (pc := 70) hR dX7_takesNumber_70
        · refine g_iload (pc := 64) K dX7_takesNumber_64 rfl ?_
          refine g_goto (pc := 66) K 70 dX7_takesNumber_66 (by decide) ?_
          exact g_ir (pc := 70) hR dX7_takesNumber_70
      · refine g_if_eq (pc := 53) K 60 dX7_takesNumber_53 (by decide) ?_ ?_
        · exact g_wk (hkj8  s7) ⟨rfl, ⟨rfl, trivial⟩⟩
        · refine g_aload_n (pc := 56) K 0 dX7_takesNumber_56 rfl rfl ?_
          refine g_callV (pc := 57) (S := []) K (qX7_next X.E ) (by decide) (ci := 7) rfl (fun _ => ⟨_, ce_7 kd_67⟩) (by decide) (by decide) wcX7_next wiX7 kX7_82 wmX7_next weX7_next hyX7_next rfl rfl (Nat.le_of_ble_eq_true rfl) dX7_takesNumber_57 (fun r10 s11 => ?_)
          change G X 60 [.ref (X.B + 67), .null, .null, .int v2, .int (s7.1 67 17)] [] s11 _
          exact g_wk (hkj8  s11) ⟨rfl, ⟨rfl, trivial⟩⟩
    · refine g_if_ne (pc := 35) K 42 dX7_takesNumber_35 (by decide) ?_ ?_
      · refine g_iconst (pc := 42) K (0) dX7_takesNumber_42 (by decide) ?_
        exact g_wk (hkj4 (0) s3) ⟨rfl, ⟨rfl, trivial⟩⟩
      · refine g_iconst (pc := 38) K (1) dX7_takesNumber_38 (by decide) ?_
        refine g_goto (pc := 39) K 43 dX7_takesNumber_39 (by decide) ?_
        exact g_wk (hkj4 (1) s3) ⟨rfl, ⟨rfl, trivial⟩⟩
  · refine g_if_ne (pc := 4) K 31 dX7_takesNumber_4 (by decide) ?_ ?_
    · refine g_iconst (pc := 31) K (0) dX7_takesNumber_31 (by decide) ?_
      exact g_wk (hkj1 (0) s) ⟨rfl, trivial⟩
    · refine g_aload_n (pc := 7) K 0 dX7_takesNumber_7 rfl rfl ?_
      refine gg_7_16 (pc := 8) K (by decide) kd_67 kX7_71 dX7_takesNumber_8 ?_
      refine g_iconst (pc := 11) K (2) dX7_takesNumber_11 (by decide) ?_
      refine g_icmp_ne (pc := 12) K 31 dX7_takesNumber_12 (by decide) ?_ ?_
      · refine g_iconst (pc := 31) K (0) dX7_takesNumber_31 (by decide) ?_
        exact g_wk (hkj1 (0) s) ⟨rfl, trivial⟩
      · refine g_aload_n (pc := 15) K 0 dX7_takesNumber_15 rfl rfl ?_
        refine gg_7_17 (pc := 16) K (by decide) kd_67 kX7_68 dX7_takesNumber_16 ?_
        refine g_iload_n (pc := 19) K 1 dX7_takesNumber_19 rfl rfl ?_
        refine g_iload_n (pc := 20) K 2 dX7_takesNumber_20 rfl rfl ?_
        refine g_callS (pc := 21) (S := []) K (qX7_in X.E (s.1 67 17) a1 a2) (by decide) (by decide) wcX7_in wiX7 kX7_51 wtX7_in hyX7_in rfl rfl (Nat.le_of_ble_eq_true rfl) dX7_takesNumber_21 (fun r12 s13 => ?_)
        change G X 24 [.ref (X.B + 67), .int a1, .int a2, .null, .null] [.int r12] s13 _
        refine g_if_eq (pc := 24) K 31 dX7_takesNumber_24 (by decide) ?_ ?_
        · refine g_iconst (pc := 31) K (0) dX7_takesNumber_31 (by decide) ?_
          exact g_wk (hkj1 (0) s13) ⟨rfl, trivial⟩
        · refine g_iconst (pc := 27) K (1) dX7_takesNumber_27 (by decide) ?_
          refine g_goto (pc := 28) K 32 dX7_takesNumber_28 (by decide) ?_
          exact g_wk (hkj1 (1) s13) ⟨rfl, trivial⟩
theorem qX7_takesNumber (E : Ce) (a1 : Int32) (a2 : Int32) : Con E yX7_takesNumber cX7_takesNumber 5 (some .int) 4 [.ref (E.B + 67), .int a1, .int a2] (M_X7_takesNumber a1 a2) :=
  Con.of (by decide) (List.forall_mem_cons.mpr ⟨rfl, List.forall_mem_cons.mpr ⟨rfl, List.forall_mem_cons.mpr ⟨rfl, fun _ h => absurd h List.not_mem_nil⟩⟩⟩) (Nat.le_of_ble_eq_true rfl) (Or.inr (Or.inl rfl)) [.ref (E.B + 67), .int a1, .int a2, .null, .null] ⟨rfl, ⟨rfl, ⟨rfl, trivial⟩⟩⟩ (fun X s hE hok hI hZ hV => by subst hE; exact tX7_takesNumber hok (hI rfl) a1 a2 s)
theorem hyX7_readFarmer : yX7_readFarmer.cls ≠ "java/lang/invoke/MethodHandle" ∧ yX7_readFarmer.cls ≠ "java/lang/invoke/VarHandle" ∧ (parseMethodDescriptor yX7_readFarmer.desc).map (fun d => d.parameters.length) = some 0 := by decide +kernel
set_option maxRecDepth 20000 in
set_option maxHeartbeats 4000000 in
theorem tX7_readFarmer {X : Cx} (K : Ok X cX7_readFarmer RX7 2 5) (hR : RV X cX7_readFarmer) (s : St) : G X 0 [.ref (X.B + 67), .null] [] s (M_X7_readFarmer s) := by
  unfold M_X7_readFarmer
  refine g_iconst (pc := 0) K (5) dX7_readFarmer_0 (by decide) ?_
  refine g_aload_n (pc := 1) K 0 dX7_readFarmer_1 rfl rfl ?_
  refine gg_7_20 (pc := 2) K (by decide) kd_67 kX7_85 dX7_readFarmer_2 ?_
  refine g_imul (pc := 5) K dX7_readFarmer_5 ?_
  refine g_istore_n (pc := 6) K 1 dX7_readFarmer_6 rfl (by decide) ?_
  change G X 7 [.ref (X.B + 67), .int ((5) * (s.1 67 20))] [] s _
  refine g_aload_n (pc := 7) K 0 dX7_readFarmer_7 rfl rfl ?_
  refine gg_7_21 (pc := 8) K (by decide) kd_67 kX7_38 dX7_readFarmer_8 ?_
  refine g_iload_n (pc := 11) K 1 dX7_readFarmer_11 rfl rfl ?_
  refine g_aload_n (pc := 12) K 0 dX7_readFarmer_12 rfl rfl ?_
  refine g_iconst (pc := 13) K (0) dX7_readFarmer_13 (by decide) ?_
  refine g_bipush (pc := 14) K (30) dX7_readFarmer_14 (by decide) ?_
  refine g_callV (pc := 16) (S := [.int ((5) * (s.1 67 20)), .ref (X.B + 77)]) K (qX7_takesNumber X.E (0) (30)) (by decide) (ci := 7) rfl (fun _ => ⟨_, ce_7 kd_67⟩) (by decide) (by decide) wcX7_takesNumber wiX7 kX7_88 wmX7_takesNumber weX7_takesNumber hyX7_takesNumber rfl rfl (Nat.le_of_ble_eq_true rfl) dX7_readFarmer_16 (fun r1 s2 => ?_)
  change G X 19 [.ref (X.B + 67), .int ((5) * (s.1 67 20))] [.int r1, .int ((5) * (s.1 67 20)), .ref (X.B + 77)] s2 _
  refine g_iastore (pc := 19) K (by decide) kd_77 ln_77 dX7_readFarmer_19 (fun s3 => ?_)
  refine g_aload_n (pc := 20) K 0 dX7_readFarmer_20 rfl rfl ?_
  refine gg_7_21 (pc := 21) K (by decide) kd_67 kX7_38 dX7_readFarmer_21 ?_
  refine g_iload_n (pc := 24) K 1 dX7_readFarmer_24 rfl rfl ?_
  refine g_iconst (pc := 25) K (1) dX7_readFarmer_25 (by decide) ?_
  refine g_iadd (pc := 26) K dX7_readFarmer_26 ?_
  refine g_aload_n (pc := 27) K 0 dX7_readFarmer_27 rfl rfl ?_
  refine g_iconst (pc := 28) K (1) dX7_readFarmer_28 (by decide) ?_
  refine g_bipush (pc := 29) K (9) dX7_readFarmer_29 (by decide) ?_
  refine g_callV (pc := 31) (S := [.int (((5) * (s.1 67 20)) + (1)), .ref (X.B + 77)]) K (qX7_takesNumber X.E (1) (9)) (by decide) (ci := 7) rfl (fun _ => ⟨_, ce_7 kd_67⟩) (by decide) (by decide) wcX7_takesNumber wiX7 kX7_88 wmX7_takesNumber weX7_takesNumber hyX7_takesNumber rfl rfl (Nat.le_of_ble_eq_true rfl) dX7_readFarmer_31 (fun r4 s5 => ?_)
  change G X 34 [.ref (X.B + 67), .int ((5) * (s.1 67 20))] [.int r4, .int (((5) * (s.1 67 20)) + (1)), .ref (X.B + 77)] s5 _
  refine g_iastore (pc := 34) K (by decide) kd_77 ln_77 dX7_readFarmer_34 (fun s6 => ?_)
  refine g_aload_n (pc := 35) K 0 dX7_readFarmer_35 rfl rfl ?_
  refine gg_7_21 (pc := 36) K (by decide) kd_67 kX7_38 dX7_readFarmer_36 ?_
  refine g_iload_n (pc := 39) K 1 dX7_readFarmer_39 rfl rfl ?_
  refine g_iconst (pc := 40) K (2) dX7_readFarmer_40 (by decide) ?_
  refine g_iadd (pc := 41) K dX7_readFarmer_41 ?_
  refine g_aload_n (pc := 42) K 0 dX7_readFarmer_42 rfl rfl ?_
  refine g_iconst (pc := 43) K (0) dX7_readFarmer_43 (by decide) ?_
  refine g_bipush (pc := 44) K (20) dX7_readFarmer_44 (by decide) ?_
  refine g_callV (pc := 46) (S := [.int (((5) * (s.1 67 20)) + (2)), .ref (X.B + 77)]) K (qX7_takesNumber X.E (0) (20)) (by decide) (ci := 7) rfl (fun _ => ⟨_, ce_7 kd_67⟩) (by decide) (by decide) wcX7_takesNumber wiX7 kX7_88 wmX7_takesNumber weX7_takesNumber hyX7_takesNumber rfl rfl (Nat.le_of_ble_eq_true rfl) dX7_readFarmer_46 (fun r7 s8 => ?_)
  change G X 49 [.ref (X.B + 67), .int ((5) * (s.1 67 20))] [.int r7, .int (((5) * (s.1 67 20)) + (2)), .ref (X.B + 77)] s8 _
  refine g_iastore (pc := 49) K (by decide) kd_77 ln_77 dX7_readFarmer_49 (fun s9 => ?_)
  refine g_aload_n (pc := 50) K 0 dX7_readFarmer_50 rfl rfl ?_
  refine gg_7_21 (pc := 51) K (by decide) kd_67 kX7_38 dX7_readFarmer_51 ?_
  refine g_iload_n (pc := 54) K 1 dX7_readFarmer_54 rfl rfl ?_
  refine g_iconst (pc := 55) K (3) dX7_readFarmer_55 (by decide) ?_
  refine g_iadd (pc := 56) K dX7_readFarmer_56 ?_
  refine g_aload_n (pc := 57) K 0 dX7_readFarmer_57 rfl rfl ?_
  refine g_iconst (pc := 58) K (0) dX7_readFarmer_58 (by decide) ?_
  refine g_bipush (pc := 59) K (6) dX7_readFarmer_59 (by decide) ?_
  refine g_callV (pc := 61) (S := [.int (((5) * (s.1 67 20)) + (3)), .ref (X.B + 77)]) K (qX7_takesNumber X.E (0) (6)) (by decide) (ci := 7) rfl (fun _ => ⟨_, ce_7 kd_67⟩) (by decide) (by decide) wcX7_takesNumber wiX7 kX7_88 wmX7_takesNumber weX7_takesNumber hyX7_takesNumber rfl rfl (Nat.le_of_ble_eq_true rfl) dX7_readFarmer_61 (fun r10 s11 => ?_)
  change G X 64 [.ref (X.B + 67), .int ((5) * (s.1 67 20))] [.int r10, .int (((5) * (s.1 67 20)) + (3)), .ref (X.B + 77)] s11 _
  refine g_iastore (pc := 64) K (by decide) kd_77 ln_77 dX7_readFarmer_64 (fun s12 => ?_)
  refine g_aload_n (pc := 65) K 0 dX7_readFarmer_65 rfl rfl ?_
  refine g_aload_n (pc := 66) K 0 dX7_readFarmer_66 rfl rfl ?_
  refine gg_7_18 (pc := 67) K (by decide) kd_67 kX7_78 dX7_readFarmer_67 ?_
  refine g_jn (κ := Int32 → St → Option (Int32 × St)) (fun kj13 => ∀ (v14 : Int32) (s15 : St), G X 97 [.ref (X.B + 67), .int ((5) * (s.1 67 20))] [.int v14, .ref (X.B + 67)] s15 (kj13 v14 s15)) (fun v14 s15 => ?_) (fun kj13 hkj13 => ?_)
  · refine gp_7_18 (pc := 97) K (by decide) kd_67 kX7_78 dX7_readFarmer_97 (fun s16 => ?_)
    refine g_aload_n (pc := 100) K 0 dX7_readFarmer_100 rfl rfl ?_
    refine gg_7_21 (pc := 101) K (by decide) kd_67 kX7_38 dX7_readFarmer_101 ?_
    refine g_iload_n (pc := 104) K 1 dX7_readFarmer_104 rfl rfl ?_
    refine g_iconst (pc := 105) K (4) dX7_readFarmer_105 (by decide) ?_
    refine g_iadd (pc := 106) K dX7_readFarmer_106 ?_
    refine g_aload_n (pc := 107) K 0 dX7_readFarmer_107 rfl rfl ?_
    refine g_iconst (pc := 108) K (0) dX7_readFarmer_108 (by decide) ?_
    refine g_iconst (pc := 109) K (5) dX7_readFarmer_109 (by decide) ?_
    refine g_callV (pc := 110) (S := [.int (((5) * (s.1 67 20)) + (4)), .ref (X.B + 77)]) K (qX7_takesNumber X.E (0) (5)) (by decide) (ci := 7) rfl (fun _ => ⟨_, ce_7 kd_67⟩) (by decide) (by decide) wcX7_takesNumber wiX7 kX7_88 wmX7_takesNumber weX7_takesNumber hyX7_takesNumber rfl rfl (Nat.le_of_ble_eq_true rfl) dX7_readFarmer_110 (fun r17 s18 => ?_)
    change G X 113 [.ref (X.B + 67), .int ((5) * (s.1 67 20))] [.int r17, .int (((5) * (s.1 67 20)) + (4)), .ref (X.B + 77)] s18 _
    refine g_iastore (pc := 113) K (by decide) kd_77 ln_77 dX7_readFarmer_113 (fun s19 => ?_)
    refine g_aload_n (pc := 114) K 0 dX7_readFarmer_114 rfl rfl ?_
    refine g_dup (pc := 115) K dX7_readFarmer_115 rfl ?_
    refine gg_7_20 (pc := 116) K (by decide) kd_67 kX7_85 dX7_readFarmer_116 ?_
    refine g_iconst (pc := 119) K (1) dX7_readFarmer_119 (by decide) ?_
    refine g_iadd (pc := 120) K dX7_readFarmer_120 ?_
    refine gp_7_20 (pc := 121) K (by decide) kd_67 kX7_85 dX7_readFarmer_121 (fun s20 => ?_)
    exact g_vr (pc := 124) hR dX7_readFarmer_124
  · refine g_if_ne (pc := 70) K 92 dX7_readFarmer_70 (by decide) ?_ ?_
    · refine g_iconst (pc := 92) K (1) dX7_readFarmer_92 (by decide) ?_
      refine g_goto (pc := 93) K 97 dX7_readFarmer_93 (by decide) ?_
      exact g_wk (hkj13 (1) s12) ⟨rfl, ⟨rfl, trivial⟩⟩
    · refine g_aload_n (pc := 73) K 0 dX7_readFarmer_73 rfl rfl ?_
      refine gg_7_16 (pc := 74) K (by decide) kd_67 kX7_71 dX7_readFarmer_74 ?_
      refine g_iconst (pc := 77) K (2) dX7_readFarmer_77 (by decide) ?_
      refine g_icmp_ne (pc := 78) K 96 dX7_readFarmer_78 (by decide) ?_ ?_
      · refine g_iconst (pc := 96) K (0) dX7_readFarmer_96 (by decide) ?_
        exact g_wk (hkj13 (0) s12) ⟨rfl, ⟨rfl, trivial⟩⟩
      · refine g_aload_n (pc := 81) K 0 dX7_readFarmer_81 rfl rfl ?_
        refine gg_7_17 (pc := 82) K (by decide) kd_67 kX7_68 dX7_readFarmer_82 ?_
        refine g_aload_n (pc := 85) K 0 dX7_readFarmer_85 rfl rfl ?_
        refine gg_7_20 (pc := 86) K (by decide) kd_67 kX7_85 dX7_readFarmer_86 ?_
        refine g_icmp_ne (pc := 89) K 96 dX7_readFarmer_89 (by decide) ?_ ?_
        · refine g_iconst (pc := 96) K (0) dX7_readFarmer_96 (by decide) ?_
          exact g_wk (hkj13 (0) s12) ⟨rfl, ⟨rfl, trivial⟩⟩
        · refine g_iconst (pc := 92) K (1) dX7_readFarmer_92 (by decide) ?_
          refine g_goto (pc := 93) K 97 dX7_readFarmer_93 (by decide) ?_
          exact g_wk (hkj13 (1) s12) ⟨rfl, ⟨rfl, trivial⟩⟩
theorem qX7_readFarmer (E : Ce) : Con E yX7_readFarmer cX7_readFarmer 2 none 5 [.ref (E.B + 67)] (M_X7_readFarmer) :=
  Con.of (by decide) (List.forall_mem_cons.mpr ⟨rfl, fun _ h => absurd h List.not_mem_nil⟩) (Nat.le_of_ble_eq_true rfl) (Or.inl rfl) [.ref (E.B + 67), .null] ⟨rfl, trivial⟩ (fun X s hE hok hI hZ hV => by subst hE; exact tX7_readFarmer hok (hV rfl) s)
theorem hyX7_readItem : yX7_readItem.cls ≠ "java/lang/invoke/MethodHandle" ∧ yX7_readItem.cls ≠ "java/lang/invoke/VarHandle" ∧ (parseMethodDescriptor yX7_readItem.desc).map (fun d => d.parameters.length) = some 0 := by decide +kernel
set_option maxRecDepth 20000 in
set_option maxHeartbeats 4000000 in
theorem tX7_readItem {X : Cx} (K : Ok X cX7_readItem RX7 1 6) (hR : RV X cX7_readItem) (s : St) : G X 0 [.ref (X.B + 67)] [] s (M_X7_readItem s) := by
  unfold M_X7_readItem
  refine g_aload_n (pc := 0) K 0 dX7_readItem_0 rfl rfl ?_
  refine gg_7_16 (pc := 1) K (by decide) kd_67 kX7_71 dX7_readItem_1 ?_
  refine g_iconst (pc := 4) K (1) dX7_readItem_4 (by decide) ?_
  refine g_jn (κ := St → Option (Int32 × St)) (fun kj1 => ∀ (s2 : St), G X 17 [.ref (X.B + 67)] [] s2 (kj1 s2)) (fun s2 => ?_) (fun kj1 hkj1 => ?_)
  · refine g_aload_n (pc := 17) K 0 dX7_readItem_17 rfl rfl ?_
    refine g_iconst (pc := 18) K (1) dX7_readItem_18 (by decide) ?_
    refine gp_7_18 (pc := 19) K (by decide) kd_67 kX7_78 dX7_readItem_19 (fun s3 => ?_)
    exact g_vr (pc := 22) hR dX7_readItem_22
  · refine g_icmp_ne (pc := 5) K 17 dX7_readItem_5 (by decide) ?_ ?_
    · exact g_wk (hkj1  s) ⟨rfl, trivial⟩
    · refine g_aload_n (pc := 8) K 0 dX7_readItem_8 rfl rfl ?_
      refine gg_7_20 (pc := 9) K (by decide) kd_67 kX7_85 dX7_readItem_9 ?_
      refine g_bipush (pc := 12) K (6) dX7_readItem_12 (by decide) ?_
      refine g_icmp_ne (pc := 14) K 23 dX7_readItem_14 (by decide) ?_ ?_
      · refine g_aload_n (pc := 23) K 0 dX7_readItem_23 rfl rfl ?_
        refine g_callV (pc := 24) (S := []) K (qX7_next X.E ) (by decide) (ci := 7) rfl (fun _ => ⟨_, ce_7 kd_67⟩) (by decide) (by decide) wcX7_next wiX7 kX7_82 wmX7_next weX7_next hyX7_next rfl rfl (Nat.le_of_ble_eq_true rfl) dX7_readItem_24 (fun r4 s5 => ?_)
        change G X 27 [.ref (X.B + 67)] [] s5 _
        refine g_aload_n (pc := 27) K 0 dX7_readItem_27 rfl rfl ?_
        refine g_callV (pc := 28) (S := []) K (qX7_readFarmer X.E ) (by decide) (ci := 7) rfl (fun _ => ⟨_, ce_7 kd_67⟩) (by decide) (by decide) wcX7_readFarmer wiX7 kX7_92 wmX7_readFarmer weX7_readFarmer hyX7_readFarmer rfl rfl (Nat.le_of_ble_eq_true rfl) dX7_readItem_28 (fun r6 s7 => ?_)
        change G X 31 [.ref (X.B + 67)] [] s7 _
        refine g_aload_n (pc := 31) K 0 dX7_readItem_31 rfl rfl ?_
        refine g_aload_n (pc := 32) K 0 dX7_readItem_32 rfl rfl ?_
        refine gg_7_18 (pc := 33) K (by decide) kd_67 kX7_78 dX7_readItem_33 ?_
        refine g_jn (κ := Int32 → St → Option (Int32 × St)) (fun kj8 => ∀ (v9 : Int32) (s10 : St), G X 52 [.ref (X.B + 67)] [.int v9, .ref (X.B + 67)] s10 (kj8 v9 s10)) (fun v9 s10 => ?_) (fun kj8 hkj8 => ?_)
        · refine gp_7_18 (pc := 52) K (by decide) kd_67 kX7_78 dX7_readItem_52 (fun s11 => ?_)
          refine g_aload_n (pc := 55) K 0 dX7_readItem_55 rfl rfl ?_
          refine gg_7_18 (pc := 56) K (by decide) kd_67 kX7_78 dX7_readItem_56 ?_
          refine g_if_ne (pc := 59) K 66 dX7_readItem_59 (by decide) ?_ ?_
          · exact g_vr (pc := 66) hR dX7_readItem_66
          · refine g_aload_n (pc := 62) K 0 dX7_readItem_62 rfl rfl ?_
            refine g_callV (pc := 63) (S := []) K (qX7_next X.E ) (by decide) (ci := 7) rfl (fun _ => ⟨_, ce_7 kd_67⟩) (by decide) (by decide) wcX7_next wiX7 kX7_82 wmX7_next weX7_next hyX7_next rfl rfl (Nat.le_of_ble_eq_true rfl) dX7_readItem_63 (fun r12 s13 => ?_)
            change G X 66 [.ref (X.B + 67)] [] s13 _
            exact g_vr (pc := 66) hR dX7_readItem_66
        · refine g_if_ne (pc := 36) K 47 dX7_readItem_36 (by decide) ?_ ?_
          · refine g_iconst (pc := 47) K (1) dX7_readItem_47 (by decide) ?_
            refine g_goto (pc := 48) K 52 dX7_readItem_48 (by decide) ?_
            exact g_wk (hkj8 (1) s7) ⟨rfl, trivial⟩
          · refine g_aload_n (pc := 39) K 0 dX7_readItem_39 rfl rfl ?_
            refine gg_7_16 (pc := 40) K (by decide) kd_67 kX7_71 dX7_readItem_40 ?_
            refine g_iconst (pc := 43) K (3) dX7_readItem_43 (by decide) ?_
            refine g_icmp_eq (pc := 44) K 51 dX7_readItem_44 (by decide) ?_ ?_
            · refine g_iconst (pc := 51) K (0) dX7_readItem_51 (by decide) ?_
              exact g_wk (hkj8 (0) s7) ⟨rfl, trivial⟩
            · refine g_iconst (pc := 47) K (1) dX7_readItem_47 (by decide) ?_
              refine g_goto (pc := 48) K 52 dX7_readItem_48 (by decide) ?_
              exact g_wk (hkj8 (1) s7) ⟨rfl, trivial⟩
      · exact g_wk (hkj1  s) ⟨rfl, trivial⟩
theorem qX7_readItem (E : Ce) : Con E yX7_readItem cX7_readItem 1 none 6 [.ref (E.B + 67)] (M_X7_readItem) :=
  Con.of (by decide) (List.forall_mem_cons.mpr ⟨rfl, fun _ h => absurd h List.not_mem_nil⟩) (Nat.le_of_ble_eq_true rfl) (Or.inl rfl) [.ref (E.B + 67)] ⟨rfl, trivial⟩ (fun X s hE hok hI hZ hV => by subst hE; exact tX7_readItem hok (hV rfl) s)
theorem hyX7_settles : yX7_settles.cls ≠ "java/lang/invoke/MethodHandle" ∧ yX7_settles.cls ≠ "java/lang/invoke/VarHandle" ∧ (parseMethodDescriptor yX7_settles.desc).map (fun d => d.parameters.length) = some 0 := by decide +kernel
set_option maxRecDepth 20000 in
set_option maxHeartbeats 4000000 in
theorem tM_X7_settles_L10 {X : Cx} (K : Ok X cX7_settles RX7 2 1) (hR : RV X cX7_settles) (kk : St → Option (Int32 × St)) (hkk : ∀ (s : St), G X 29 [.ref (X.B + 67), .null] [] s (kk s)) : ∀ (fu : Nat) (x1 : Int32) (s : St), G X 10 [.ref (X.B + 67), .int x1] [] s (M_X7_settles_L10 kk fu x1 s) := by
  intro fu
  induction fu with
  | zero => intro x1 s; exact g_none
  | succ fu ih =>
    intro x1 s
    rw [M_X7_settles_L10]
    refine g_iload_n (pc := 10) K 1 dX7_settles_10 rfl rfl ?_
    refine g_bipush (pc := 11) K (14) dX7_settles_11 (by decide) ?_
    refine g_icmp_ge (pc := 13) K 29 dX7_settles_13 (by decide) ?_ ?_
    · exact g_wk (hkk  s) ⟨rfl, trivial⟩
    · refine g_aload_n (pc := 16) K 0 dX7_settles_16 rfl rfl ?_
      refine gg_7_4 (pc := 17) K (by decide) kd_67 kX7_19 dX7_settles_17 ?_
      refine g_iload_n (pc := 20) K 1 dX7_settles_20 rfl rfl ?_
      refine g_iconst (pc := 21) K (0) dX7_settles_21 (by decide) ?_
      refine g_iastore (pc := 22) K (by decide) kd_71 ln_71 dX7_settles_22 (fun s2 => ?_)
      refine g_iinc (pc := 23) K (1) dX7_settles_23 rfl (by decide) (by decide) ?_
      change G X 26 [.ref (X.B + 67), .int (x1 + (1))] [] s2 _
      refine g_goto (pc := 26) K 10 dX7_settles_26 (by decide) ?_
      exact g_wk (ih (x1 + (1)) s2) ⟨rfl, ⟨rfl, trivial⟩⟩
set_option maxRecDepth 20000 in
set_option maxHeartbeats 4000000 in
theorem tM_X7_settles_L31 {X : Cx} (K : Ok X cX7_settles RX7 2 1) (hR : RV X cX7_settles) (kk : St → Option (Int32 × St)) (hkk : ∀ (s : St), G X 128 [.ref (X.B + 67), .null] [] s (kk s)) : ∀ (fu : Nat) (x1 : Int32) (s : St), G X 31 [.ref (X.B + 67), .int x1] [] s (M_X7_settles_L31 kk fu x1 s) := by
  intro fu
  induction fu with
  | zero => intro x1 s; exact g_none
  | succ fu ih =>
    intro x1 s
    rw [M_X7_settles_L31]
    refine g_iload_n (pc := 31) K 1 dX7_settles_31 rfl rfl ?_
    refine g_aload_n (pc := 32) K 0 dX7_settles_32 rfl rfl ?_
    refine gg_7_0 (pc := 33) K (by decide) kd_67 kX7_47 dX7_settles_33 ?_
    refine g_icmp_ge (pc := 36) K 128 dX7_settles_36 (by decide) ?_ ?_
    · exact g_wk (hkk  s) ⟨rfl, trivial⟩
    · refine g_aload_n (pc := 39) K 0 dX7_settles_39 rfl rfl ?_
      refine gg_7_1 (pc := 40) K (by decide) kd_67 kX7_7 dX7_settles_40 ?_
      refine g_iload_n (pc := 43) K 1 dX7_settles_43 rfl rfl ?_
      refine g_aload_n (pc := 44) K 0 dX7_settles_44 rfl rfl ?_
      refine gg_7_21 (pc := 45) K (by decide) kd_67 kX7_38 dX7_settles_45 ?_
      refine g_iconst (pc := 48) K (5) dX7_settles_48 (by decide) ?_
      refine g_iload_n (pc := 49) K 1 dX7_settles_49 rfl rfl ?_
      refine g_imul (pc := 50) K dX7_settles_50 ?_
      refine g_iaload (pc := 51) K (by decide) kd_77 ln_77 dX7_settles_51 (fun v4 => ?_)
      refine g_iastore (pc := 52) K (by decide) kd_68 ln_68 dX7_settles_52 (fun s5 => ?_)
      refine g_aload_n (pc := 53) K 0 dX7_settles_53 rfl rfl ?_
      refine gg_7_2 (pc := 54) K (by decide) kd_67 kX7_13 dX7_settles_54 ?_
      refine g_iload_n (pc := 57) K 1 dX7_settles_57 rfl rfl ?_
      refine g_aload_n (pc := 58) K 0 dX7_settles_58 rfl rfl ?_
      refine gg_7_21 (pc := 59) K (by decide) kd_67 kX7_38 dX7_settles_59 ?_
      refine g_iconst (pc := 62) K (5) dX7_settles_62 (by decide) ?_
      refine g_iload_n (pc := 63) K 1 dX7_settles_63 rfl rfl ?_
      refine g_imul (pc := 64) K dX7_settles_64 ?_
      refine g_iconst (pc := 65) K (2) dX7_settles_65 (by decide) ?_
      refine g_iadd (pc := 66) K dX7_settles_66 ?_
      refine g_iaload (pc := 67) K (by decide) kd_77 ln_77 dX7_settles_67 (fun v6 => ?_)
      refine g_iastore (pc := 68) K (by decide) kd_69 ln_69 dX7_settles_68 (fun s7 => ?_)
      refine g_aload_n (pc := 69) K 0 dX7_settles_69 rfl rfl ?_
      refine gg_7_3 (pc := 70) K (by decide) kd_67 kX7_16 dX7_settles_70 ?_
      refine g_iload_n (pc := 73) K 1 dX7_settles_73 rfl rfl ?_
      refine g_aload_n (pc := 74) K 0 dX7_settles_74 rfl rfl ?_
      refine gg_7_21 (pc := 75) K (by decide) kd_67 kX7_38 dX7_settles_75 ?_
      refine g_iconst (pc := 78) K (5) dX7_settles_78 (by decide) ?_
      refine g_iload_n (pc := 79) K 1 dX7_settles_79 rfl rfl ?_
      refine g_imul (pc := 80) K dX7_settles_80 ?_
      refine g_iconst (pc := 81) K (3) dX7_settles_81 (by decide) ?_
      refine g_iadd (pc := 82) K dX7_settles_82 ?_
      refine g_iaload (pc := 83) K (by decide) kd_77 ln_77 dX7_settles_83 (fun v8 => ?_)
      refine g_iastore (pc := 84) K (by decide) kd_70 ln_70 dX7_settles_84 (fun s9 => ?_)
      refine g_aload_n (pc := 85) K 0 dX7_settles_85 rfl rfl ?_
      refine gg_7_4 (pc := 86) K (by decide) kd_67 kX7_19 dX7_settles_86 ?_
      refine g_iconst (pc := 89) K (2) dX7_settles_89 (by decide) ?_
      refine g_iload_n (pc := 90) K 1 dX7_settles_90 rfl rfl ?_
      refine g_iadd (pc := 91) K dX7_settles_91 ?_
      refine g_aload_n (pc := 92) K 0 dX7_settles_92 rfl rfl ?_
      refine gg_7_21 (pc := 93) K (by decide) kd_67 kX7_38 dX7_settles_93 ?_
      refine g_iconst (pc := 96) K (5) dX7_settles_96 (by decide) ?_
      refine g_iload_n (pc := 97) K 1 dX7_settles_97 rfl rfl ?_
      refine g_imul (pc := 98) K dX7_settles_98 ?_
      refine g_iconst (pc := 99) K (1) dX7_settles_99 (by decide) ?_
      refine g_iadd (pc := 100) K dX7_settles_100 ?_
      refine g_iaload (pc := 101) K (by decide) kd_77 ln_77 dX7_settles_101 (fun v10 => ?_)
      refine g_iastore (pc := 102) K (by decide) kd_71 ln_71 dX7_settles_102 (fun s11 => ?_)
      refine g_aload_n (pc := 103) K 0 dX7_settles_103 rfl rfl ?_
      refine gg_7_4 (pc := 104) K (by decide) kd_67 kX7_19 dX7_settles_104 ?_
      refine g_bipush (pc := 107) K (8) dX7_settles_107 (by decide) ?_
      refine g_iload_n (pc := 109) K 1 dX7_settles_109 rfl rfl ?_
      refine g_iadd (pc := 110) K dX7_settles_110 ?_
      refine g_aload_n (pc := 111) K 0 dX7_settles_111 rfl rfl ?_
      refine gg_7_21 (pc := 112) K (by decide) kd_67 kX7_38 dX7_settles_112 ?_
      refine g_iconst (pc := 115) K (5) dX7_settles_115 (by decide) ?_
      refine g_iload_n (pc := 116) K 1 dX7_settles_116 rfl rfl ?_
      refine g_imul (pc := 117) K dX7_settles_117 ?_
      refine g_iconst (pc := 118) K (4) dX7_settles_118 (by decide) ?_
      refine g_iadd (pc := 119) K dX7_settles_119 ?_
      refine g_iaload (pc := 120) K (by decide) kd_77 ln_77 dX7_settles_120 (fun v12 => ?_)
      refine g_iastore (pc := 121) K (by decide) kd_71 ln_71 dX7_settles_121 (fun s13 => ?_)
      refine g_iinc (pc := 122) K (1) dX7_settles_122 rfl (by decide) (by decide) ?_
      change G X 125 [.ref (X.B + 67), .int (x1 + (1))] [] s13 _
      refine g_goto (pc := 125) K 31 dX7_settles_125 (by decide) ?_
      exact g_wk (ih (x1 + (1)) s13) ⟨rfl, ⟨rfl, trivial⟩⟩
set_option maxRecDepth 20000 in
set_option maxHeartbeats 4000000 in
theorem tX7_settles {X : Cx} (K : Ok X cX7_settles RX7 2 1) (hR : RV X cX7_settles) (s : St) : G X 0 [.ref (X.B + 67), .null] [] s (M_X7_settles s) := by
  unfold M_X7_settles
  refine g_aload_n (pc := 0) K 0 dX7_settles_0 rfl rfl ?_
  refine g_aload_n (pc := 1) K 0 dX7_settles_1 rfl rfl ?_
  refine gg_7_20 (pc := 2) K (by decide) kd_67 kX7_85 dX7_settles_2 ?_
  refine gp_7_0 (pc := 5) K (by decide) kd_67 kX7_47 dX7_settles_5 (fun s1 => ?_)
  refine g_iconst (pc := 8) K (0) dX7_settles_8 (by decide) ?_
  refine g_istore_n (pc := 9) K 1 dX7_settles_9 rfl (by decide) ?_
  change G X 10 [.ref (X.B + 67), .int (0)] [] s1 _
  refine g_weak (L' := [.ref (X.B + 67), .int (0)]) ⟨rfl, ⟨rfl, trivial⟩⟩ ?_
  refine tM_X7_settles_L10 K hR  _ (fun s3 => ?_) 400 (0) s1
  refine g_iconst (pc := 29) K (0) dX7_settles_29 (by decide) ?_
  refine g_istore_n (pc := 30) K 1 dX7_settles_30 rfl (by decide) ?_
  change G X 31 [.ref (X.B + 67), .int (0)] [] s3 _
  refine g_weak (L' := [.ref (X.B + 67), .int (0)]) ⟨rfl, ⟨rfl, trivial⟩⟩ ?_
  refine tM_X7_settles_L31 K hR  _ (fun s14 => ?_) 400 (0) s3
  refine g_aload_n (pc := 128) K 0 dX7_settles_128 rfl rfl ?_
  refine g_iconst (pc := 129) K (0) dX7_settles_129 (by decide) ?_
  refine gp_7_6 (pc := 130) K (by decide) kd_67 kX7_104 dX7_settles_130 (fun s15 => ?_)
  refine g_aload_n (pc := 133) K 0 dX7_settles_133 rfl rfl ?_
  refine g_iconst (pc := 134) K (0) dX7_settles_134 (by decide) ?_
  refine gp_7_9 (pc := 135) K (by decide) kd_67 kX7_107 dX7_settles_135 (fun s16 => ?_)
  refine g_aload_n (pc := 138) K 0 dX7_settles_138 rfl rfl ?_
  refine gg_7_8 (pc := 139) K (by decide) kd_67 kX7_28 dX7_settles_139 ?_
  refine g_iconst (pc := 142) K (0) dX7_settles_142 (by decide) ?_
  refine g_iconst (pc := 143) K (0) dX7_settles_143 (by decide) ?_
  refine g_bastore (pc := 144) K (by decide) kd_74 ln_74 dX7_settles_144 (fun s17 => ?_)
  refine g_aload_n (pc := 145) K 0 dX7_settles_145 rfl rfl ?_
  refine gg_7_8 (pc := 146) K (by decide) kd_67 kX7_28 dX7_settles_146 ?_
  refine g_iconst (pc := 149) K (1) dX7_settles_149 (by decide) ?_
  refine g_iconst (pc := 150) K (0) dX7_settles_150 (by decide) ?_
  refine g_bastore (pc := 151) K (by decide) kd_74 ln_74 dX7_settles_151 (fun s18 => ?_)
  refine g_aload_n (pc := 152) K 0 dX7_settles_152 rfl rfl ?_
  refine g_iconst (pc := 153) K (0) dX7_settles_153 (by decide) ?_
  refine gp_7_13 (pc := 154) K (by decide) kd_67 kX7_55 dX7_settles_154 (fun s19 => ?_)
  exact g_vr (pc := 157) hR dX7_settles_157
theorem qX7_settles (E : Ce) : Con E yX7_settles cX7_settles 2 none 1 [.ref (E.B + 67)] (M_X7_settles) :=
  Con.of (by decide) (List.forall_mem_cons.mpr ⟨rfl, fun _ h => absurd h List.not_mem_nil⟩) (Nat.le_of_ble_eq_true rfl) (Or.inl rfl) [.ref (E.B + 67), .null] ⟨rfl, trivial⟩ (fun X s hE hok hI hZ hV => by subst hE; exact tX7_settles hok (hV rfl) s)
theorem hyX7_valley : yX7_valley.cls ≠ "java/lang/invoke/MethodHandle" ∧ yX7_valley.cls ≠ "java/lang/invoke/VarHandle" ∧ (parseMethodDescriptor yX7_valley.desc).map (fun d => d.parameters.length) = some 0 := by decide +kernel
set_option maxRecDepth 20000 in
set_option maxHeartbeats 4000000 in
theorem tM_X7_valley_L24 {X : Cx} (K : Ok X cX7_valley RX7 2 7) (hR : RI X cX7_valley) (kk : St → Option (Int32 × St)) (hkk : ∀ (s : St), G X 55 [.ref (X.B + 67), .null] [] s (kk s)) : ∀ (fu : Nat) (s : St), G X 24 [.ref (X.B + 67), .null] [] s (M_X7_valley_L24 kk fu s) := by
  intro fu
  induction fu with
  | zero => intro  s; exact g_none
  | succ fu ih =>
    intro  s
    rw [M_X7_valley_L24]
    refine g_aload_n (pc := 24) K 0 dX7_valley_24 rfl rfl ?_
    refine gg_7_16 (pc := 25) K (by decide) kd_67 kX7_71 dX7_valley_25 ?_
    refine g_if_eq (pc := 28) K 55 dX7_valley_28 (by decide) ?_ ?_
    · exact g_wk (hkk  s) ⟨rfl, trivial⟩
    · refine g_aload_n (pc := 31) K 0 dX7_valley_31 rfl rfl ?_
      refine gg_7_18 (pc := 32) K (by decide) kd_67 kX7_78 dX7_valley_32 ?_
      refine g_if_ne (pc := 35) K 55 dX7_valley_35 (by decide) ?_ ?_
      · exact g_wk (hkk  s) ⟨rfl, trivial⟩
      · refine g_aload_n (pc := 38) K 0 dX7_valley_38 rfl rfl ?_
        refine g_callV (pc := 39) (S := []) K (qX7_readItem X.E ) (by decide) (ci := 7) rfl (fun _ => ⟨_, ce_7 kd_67⟩) (by decide) (by decide) wcX7_readItem wiX7 kX7_98 wmX7_readItem weX7_readItem hyX7_readItem rfl rfl (Nat.le_of_ble_eq_true rfl) dX7_valley_39 (fun r7 s8 => ?_)
        change G X 42 [.ref (X.B + 67), .null] [] s8 _
        refine g_aload_n (pc := 42) K 0 dX7_valley_42 rfl rfl ?_
        refine g_dup (pc := 43) K dX7_valley_43 rfl ?_
        refine gg_7_19 (pc := 44) K (by decide) kd_67 kX7_95 dX7_valley_44 ?_
        refine g_iconst (pc := 47) K (1) dX7_valley_47 (by decide) ?_
        refine g_iadd (pc := 48) K dX7_valley_48 ?_
        refine gp_7_19 (pc := 49) K (by decide) kd_67 kX7_95 dX7_valley_49 (fun s9 => ?_)
        refine g_goto (pc := 52) K 24 dX7_valley_52 (by decide) ?_
        exact g_wk (ih  s9) ⟨rfl, trivial⟩
set_option maxRecDepth 20000 in
set_option maxHeartbeats 4000000 in
theorem tM_X7_valley_L57 {X : Cx} (K : Ok X cX7_valley RX7 2 7) (hR : RI X cX7_valley) (kk : St → Option (Int32 × St)) (hkk : ∀ (s : St), G X 104 [.ref (X.B + 67), .null] [] s (kk s)) : ∀ (fu : Nat) (x1 : Int32) (s : St), G X 57 [.ref (X.B + 67), .int x1] [] s (M_X7_valley_L57 kk fu x1 s) := by
  intro fu
  induction fu with
  | zero => intro x1 s; exact g_none
  | succ fu ih =>
    intro x1 s
    rw [M_X7_valley_L57]
    refine g_iload_n (pc := 57) K 1 dX7_valley_57 rfl rfl ?_
    refine g_aload_n (pc := 58) K 0 dX7_valley_58 rfl rfl ?_
    refine gg_7_20 (pc := 59) K (by decide) kd_67 kX7_85 dX7_valley_59 ?_
    refine g_icmp_ge (pc := 62) K 104 dX7_valley_62 (by decide) ?_ ?_
    · exact g_wk (hkk  s) ⟨rfl, trivial⟩
    · refine g_aload_n (pc := 65) K 0 dX7_valley_65 rfl rfl ?_
      refine gg_7_18 (pc := 66) K (by decide) kd_67 kX7_78 dX7_valley_66 ?_
      refine g_if_ne (pc := 69) K 104 dX7_valley_69 (by decide) ?_ ?_
      · exact g_wk (hkk  s) ⟨rfl, trivial⟩
      · refine g_aload_n (pc := 72) K 0 dX7_valley_72 rfl rfl ?_
        refine g_aload_n (pc := 73) K 0 dX7_valley_73 rfl rfl ?_
        refine gg_7_21 (pc := 74) K (by decide) kd_67 kX7_38 dX7_valley_74 ?_
        refine g_iconst (pc := 77) K (5) dX7_valley_77 (by decide) ?_
        refine g_iload_n (pc := 78) K 1 dX7_valley_78 rfl rfl ?_
        refine g_imul (pc := 79) K dX7_valley_79 ?_
        refine g_iconst (pc := 80) K (4) dX7_valley_80 (by decide) ?_
        refine g_iadd (pc := 81) K dX7_valley_81 ?_
        refine g_iaload (pc := 82) K (by decide) kd_77 ln_77 dX7_valley_82 (fun v11 => ?_)
        refine g_aload_n (pc := 83) K 0 dX7_valley_83 rfl rfl ?_
        refine gg_7_20 (pc := 84) K (by decide) kd_67 kX7_85 dX7_valley_84 ?_
        refine g_jn (κ := Int32 → St → Option (Int32 × St)) (fun kj12 => ∀ (v13 : Int32) (s14 : St), G X 95 [.ref (X.B + 67), .int x1] [.int v13, .ref (X.B + 67)] s14 (kj12 v13 s14)) (fun v13 s14 => ?_) (fun kj12 hkj12 => ?_)
        · refine gp_7_18 (pc := 95) K (by decide) kd_67 kX7_78 dX7_valley_95 (fun s15 => ?_)
          refine g_iinc (pc := 98) K (1) dX7_valley_98 rfl (by decide) (by decide) ?_
          change G X 101 [.ref (X.B + 67), .int (x1 + (1))] [] s15 _
          refine g_goto (pc := 101) K 57 dX7_valley_101 (by decide) ?_
          exact g_wk (ih (x1 + (1)) s15) ⟨rfl, ⟨rfl, trivial⟩⟩
        · refine g_icmp_lt (pc := 87) K 94 dX7_valley_87 (by decide) ?_ ?_
          · refine g_iconst (pc := 94) K (0) dX7_valley_94 (by decide) ?_
            exact g_wk (hkj12 (0) s) ⟨rfl, ⟨rfl, trivial⟩⟩
          · refine g_iconst (pc := 90) K (1) dX7_valley_90 (by decide) ?_
            refine g_goto (pc := 91) K 95 dX7_valley_91 (by decide) ?_
            exact g_wk (hkj12 (1) s) ⟨rfl, ⟨rfl, trivial⟩⟩
set_option maxRecDepth 20000 in
set_option maxHeartbeats 4000000 in
theorem tX7_valley {X : Cx} (K : Ok X cX7_valley RX7 2 7) (hR : RI X cX7_valley) (s : St) : G X 0 [.ref (X.B + 67), .null] [] s (M_X7_valley s) := by
  unfold M_X7_valley
  refine g_aload_n (pc := 0) K 0 dX7_valley_0 rfl rfl ?_
  refine g_iconst (pc := 1) K (0) dX7_valley_1 (by decide) ?_
  refine gp_7_14 (pc := 2) K (by decide) kd_67 kX7_58 dX7_valley_2 (fun s1 => ?_)
  refine g_aload_n (pc := 5) K 0 dX7_valley_5 rfl rfl ?_
  refine g_iconst (pc := 6) K (0) dX7_valley_6 (by decide) ?_
  refine gp_7_18 (pc := 7) K (by decide) kd_67 kX7_78 dX7_valley_7 (fun s2 => ?_)
  refine g_aload_n (pc := 10) K 0 dX7_valley_10 rfl rfl ?_
  refine g_iconst (pc := 11) K (0) dX7_valley_11 (by decide) ?_
  refine gp_7_19 (pc := 12) K (by decide) kd_67 kX7_95 dX7_valley_12 (fun s3 => ?_)
  refine g_aload_n (pc := 15) K 0 dX7_valley_15 rfl rfl ?_
  refine g_iconst (pc := 16) K (0) dX7_valley_16 (by decide) ?_
  refine gp_7_20 (pc := 17) K (by decide) kd_67 kX7_85 dX7_valley_17 (fun s4 => ?_)
  refine g_aload_n (pc := 20) K 0 dX7_valley_20 rfl rfl ?_
  refine g_callV (pc := 21) (S := []) K (qX7_next X.E ) (by decide) (ci := 7) rfl (fun _ => ⟨_, ce_7 kd_67⟩) (by decide) (by decide) wcX7_next wiX7 kX7_82 wmX7_next weX7_next hyX7_next rfl rfl (Nat.le_of_ble_eq_true rfl) dX7_valley_21 (fun r5 s6 => ?_)
  change G X 24 [.ref (X.B + 67), .null] [] s6 _
  refine g_weak (L' := [.ref (X.B + 67), .null]) ⟨rfl, trivial⟩ ?_
  refine tM_X7_valley_L24 K hR  _ (fun s10 => ?_) 400  s6
  refine g_iconst (pc := 55) K (0) dX7_valley_55 (by decide) ?_
  refine g_istore_n (pc := 56) K 1 dX7_valley_56 rfl (by decide) ?_
  change G X 57 [.ref (X.B + 67), .int (0)] [] s10 _
  refine g_weak (L' := [.ref (X.B + 67), .int (0)]) ⟨rfl, ⟨rfl, trivial⟩⟩ ?_
  refine tM_X7_valley_L57 K hR  _ (fun s16 => ?_) 400 (0) s10
  refine g_aload_n (pc := 104) K 0 dX7_valley_104 rfl rfl ?_
  refine gg_7_18 (pc := 105) K (by decide) kd_67 kX7_78 dX7_valley_105 ?_
  refine g_if_eq (pc := 108) K 119 dX7_valley_108 (by decide) ?_ ?_
  · refine g_aload_n (pc := 119) K 0 dX7_valley_119 rfl rfl ?_
    refine g_callV (pc := 120) (S := []) K (qX7_settles X.E ) (by decide) (ci := 7) rfl (fun _ => ⟨_, ce_7 kd_67⟩) (by decide) (by decide) wcX7_settles wiX7 kX7_101 wmX7_settles weX7_settles hyX7_settles rfl rfl (Nat.le_of_ble_eq_true rfl) dX7_valley_120 (fun r17 s18 => ?_)
    change G X 123 [.ref (X.B + 67), .null] [] s18 _
    refine g_aload_n (pc := 123) K 0 dX7_valley_123 rfl rfl ?_
    refine gg_7_19 (pc := 124) K (by decide) kd_67 kX7_95 dX7_valley_124 ?_
    exact g_ir (pc := 127) hR dX7_valley_127
  · refine g_bipush (pc := 111) K (-10) dX7_valley_111 (by decide) ?_
    refine g_aload_n (pc := 113) K 0 dX7_valley_113 rfl rfl ?_
    refine gg_7_15 (pc := 114) K (by decide) kd_67 kX7_65 dX7_valley_114 ?_
    refine g_isub (pc := 117) K dX7_valley_117 ?_
    exact g_ir (pc := 118) hR dX7_valley_118
theorem qX7_valley (E : Ce) : Con E yX7_valley cX7_valley 2 (some .int) 7 [.ref (E.B + 67)] (M_X7_valley) :=
  Con.of (by decide) (List.forall_mem_cons.mpr ⟨rfl, fun _ h => absurd h List.not_mem_nil⟩) (Nat.le_of_ble_eq_true rfl) (Or.inr (Or.inl rfl)) [.ref (E.B + 67), .null] ⟨rfl, trivial⟩ (fun X s hE hok hI hZ hV => by subst hE; exact tX7_valley hok (hI rfl) s)
theorem hyX7_asItIs : yX7_asItIs.cls ≠ "java/lang/invoke/MethodHandle" ∧ yX7_asItIs.cls ≠ "java/lang/invoke/VarHandle" ∧ (parseMethodDescriptor yX7_asItIs.desc).map (fun d => d.parameters.length) = some 0 := by decide +kernel
set_option maxRecDepth 20000 in
set_option maxHeartbeats 4000000 in
theorem tX7_asItIs {X : Cx} (K : Ok X cX7_asItIs RX7 1 2) (hR : RV X cX7_asItIs) (s : St) : G X 0 [.ref (X.B + 67)] [] s (M_X7_asItIs s) := by
  unfold M_X7_asItIs
  refine g_aload_n (pc := 0) K 0 dX7_asItIs_0 rfl rfl ?_
  refine gg_7_22 (pc := 1) K (by decide) kd_67 kX7_41 dX7_asItIs_1 ?_
  refine g_iconst (pc := 4) K (0) dX7_asItIs_4 (by decide) ?_
  refine g_aload_n (pc := 5) K 0 dX7_asItIs_5 rfl rfl ?_
  refine gg_7_4 (pc := 6) K (by decide) kd_67 kX7_19 dX7_asItIs_6 ?_
  refine g_iconst (pc := 9) K (0) dX7_asItIs_9 (by decide) ?_
  refine g_callS (pc := 10) (S := []) K (qX7_copy X.E 78 71 arr_78 arr_71 (0) (0)) (by decide) (by decide) wcX7_copy wiX7 kX7_110 wtX7_copy hyX7_copy rfl rfl (Nat.le_of_ble_eq_true rfl) dX7_asItIs_10 (fun r1 s2 => ?_)
  change G X 13 [.ref (X.B + 67)] [] s2 _
  exact g_vr (pc := 13) hR dX7_asItIs_13
theorem qX7_asItIs (E : Ce) : Con E yX7_asItIs cX7_asItIs 1 none 2 [.ref (E.B + 67)] (M_X7_asItIs) :=
  Con.of (by decide) (List.forall_mem_cons.mpr ⟨rfl, fun _ h => absurd h List.not_mem_nil⟩) (Nat.le_of_ble_eq_true rfl) (Or.inl rfl) [.ref (E.B + 67)] ⟨rfl, trivial⟩ (fun X s hE hok hI hZ hV => by subst hE; exact tX7_asItIs hok (hV rfl) s)
theorem hyX7_asks : yX7_asks.cls ≠ "java/lang/invoke/MethodHandle" ∧ yX7_asks.cls ≠ "java/lang/invoke/VarHandle" ∧ (parseMethodDescriptor yX7_asks.desc).map (fun d => d.parameters.length) = some 0 := by decide +kernel
set_option maxRecDepth 20000 in
set_option maxHeartbeats 4000000 in
theorem tM_X7_asks_L9 {X : Cx} (K : Ok X cX7_asks RX7 4 2) (hR : RV X cX7_asks) (x1 : Int32) (kk : St → Option (Int32 × St)) (hkk : ∀ (s : St), G X 77 [.null, .null, .null, .null] [] s (kk s)) : ∀ (fu : Nat) (x2 : Int32) (s : St), G X 9 [.ref (X.B + 67), .int x1, .int x2, .null] [] s (M_X7_asks_L9 x1 kk fu x2 s) := by
  intro fu
  induction fu with
  | zero => intro x2 s; exact g_none
  | succ fu ih =>
    intro x2 s
    rw [M_X7_asks_L9]
    refine g_iload_n (pc := 9) K 2 dX7_asks_9 rfl rfl ?_
    refine g_aload_n (pc := 10) K 0 dX7_asks_10 rfl rfl ?_
    refine gg_7_0 (pc := 11) K (by decide) kd_67 kX7_47 dX7_asks_11 ?_
    refine g_icmp_ge (pc := 14) K 77 dX7_asks_14 (by decide) ?_ ?_
    · exact g_wk (hkk  s) trivial
    · refine g_aload_n (pc := 17) K 0 dX7_asks_17 rfl rfl ?_
      refine gg_7_2 (pc := 18) K (by decide) kd_67 kX7_13 dX7_asks_18 ?_
      refine g_iload_n (pc := 21) K 2 dX7_asks_21 rfl rfl ?_
      refine g_iaload (pc := 22) K (by decide) kd_69 ln_69 dX7_asks_22 (fun v2 => ?_)
      refine g_aload_n (pc := 23) K 0 dX7_asks_23 rfl rfl ?_
      refine gg_7_22 (pc := 24) K (by decide) kd_67 kX7_41 dX7_asks_24 ?_
      refine g_iconst (pc := 27) K (0) dX7_asks_27 (by decide) ?_
      refine g_iaload (pc := 28) K (by decide) kd_78 ln_78 dX7_asks_28 (fun v3 => ?_)
      refine g_jn (κ := Int32 → St → Option (Int32 × St)) (fun kj4 => ∀ (v5 : Int32) (s6 : St), G X 50 [.ref (X.B + 67), .int x1, .int x2, .null] [.int v5] s6 (kj4 v5 s6)) (fun v5 s6 => ?_) (fun kj4 hkj4 => ?_)
      · refine g_istore_n (pc := 50) K 3 dX7_asks_50 rfl (by decide) ?_
        change G X 51 [.ref (X.B + 67), .int x1, .int x2, .int v5] [] s6 _
        refine g_aload_n (pc := 51) K 0 dX7_asks_51 rfl rfl ?_
        refine gg_7_22 (pc := 52) K (by decide) kd_67 kX7_41 dX7_asks_52 ?_
        refine g_iconst (pc := 55) K (1) dX7_asks_55 (by decide) ?_
        refine g_dup2 (pc := 56) K dX7_asks_56 rfl rfl ?_
        refine g_iaload (pc := 57) K (by decide) kd_78 ln_78 dX7_asks_57 (fun v7 => ?_)
        refine g_iload_n (pc := 58) K 3 dX7_asks_58 rfl rfl ?_
        refine g_jn (κ := Int32 → St → Option (Int32 × St)) (fun kj8 => ∀ (v9 : Int32) (s10 : St), G X 69 [.ref (X.B + 67), .int x1, .int x2, .null] [.int v9, .int v7, .int (1), .ref (X.B + 78)] s10 (kj8 v9 s10)) (fun v9 s10 => ?_) (fun kj8 hkj8 => ?_)
        · refine g_ior (pc := 69) K dX7_asks_69 ?_
          refine g_iastore (pc := 70) K (by decide) kd_78 ln_78 dX7_asks_70 (fun s11 => ?_)
          refine g_iinc (pc := 71) K (1) dX7_asks_71 rfl (by decide) (by decide) ?_
          change G X 74 [.ref (X.B + 67), .int x1, .int (x2 + (1)), .null] [] s11 _
          refine g_goto (pc := 74) K 9 dX7_asks_74 (by decide) ?_
          exact g_wk (ih (x2 + (1)) s11) ⟨rfl, ⟨rfl, ⟨rfl, trivial⟩⟩⟩
        · refine g_if_eq (pc := 59) K 68 dX7_asks_59 (by decide) ?_ ?_
          · refine g_iconst (pc := 68) K (0) dX7_asks_68 (by decide) ?_
            exact g_wk (hkj8 (0) s6) ⟨rfl, ⟨rfl, ⟨rfl, trivial⟩⟩⟩
          · refine g_iconst (pc := 62) K (1) dX7_asks_62 (by decide) ?_
            refine g_iload_n (pc := 63) K 2 dX7_asks_63 rfl rfl ?_
            refine g_ishl (pc := 64) K dX7_asks_64 ?_
            refine g_goto (pc := 65) K 69 dX7_asks_65 (by decide) ?_
            exact g_wk (hkj8 ((1) <<< (x2 &&& 31)) s6) ⟨rfl, ⟨rfl, ⟨rfl, trivial⟩⟩⟩
      · refine g_icmp_le (pc := 29) K 45 dX7_asks_29 (by decide) ?_ ?_
        · refine g_iconst (pc := 45) K (1) dX7_asks_45 (by decide) ?_
          refine g_goto (pc := 46) K 50 dX7_asks_46 (by decide) ?_
          exact g_wk (hkj4 (1) s) ⟨rfl, ⟨rfl, ⟨rfl, trivial⟩⟩⟩
        · refine g_iload_n (pc := 32) K 1 dX7_asks_32 rfl rfl ?_
          refine g_callS (pc := 33) (S := []) K (qX7_bits X.E x1) (by decide) (by decide) wcX7_bits wiX7 kX7_114 wtX7_bits hyX7_bits rfl rfl (Nat.le_of_ble_eq_true rfl) dX7_asks_33 (fun r12 s13 => ?_)
          change G X 36 [.ref (X.B + 67), .int x1, .int x2, .null] [.int r12] s13 _
          refine g_aload_n (pc := 36) K 0 dX7_asks_36 rfl rfl ?_
          refine gg_7_3 (pc := 37) K (by decide) kd_67 kX7_16 dX7_asks_37 ?_
          refine g_iload_n (pc := 40) K 2 dX7_asks_40 rfl rfl ?_
          refine g_iaload (pc := 41) K (by decide) kd_70 ln_70 dX7_asks_41 (fun v14 => ?_)
          refine g_icmp_lt (pc := 42) K 49 dX7_asks_42 (by decide) ?_ ?_
          · refine g_iconst (pc := 49) K (0) dX7_asks_49 (by decide) ?_
            exact g_wk (hkj4 (0) s13) ⟨rfl, ⟨rfl, ⟨rfl, trivial⟩⟩⟩
          · refine g_iconst (pc := 45) K (1) dX7_asks_45 (by decide) ?_
            refine g_goto (pc := 46) K 50 dX7_asks_46 (by decide) ?_
            exact g_wk (hkj4 (1) s13) ⟨rfl, ⟨rfl, ⟨rfl, trivial⟩⟩⟩
set_option maxRecDepth 20000 in
set_option maxHeartbeats 4000000 in
theorem tX7_asks {X : Cx} (K : Ok X cX7_asks RX7 4 2) (hR : RV X cX7_asks) (s : St) : G X 0 [.ref (X.B + 67), .null, .null, .null] [] s (M_X7_asks s) := by
  unfold M_X7_asks
  refine g_aload_n (pc := 0) K 0 dX7_asks_0 rfl rfl ?_
  refine gg_7_22 (pc := 1) K (by decide) kd_67 kX7_41 dX7_asks_1 ?_
  refine g_iconst (pc := 4) K (1) dX7_asks_4 (by decide) ?_
  refine g_iaload (pc := 5) K (by decide) kd_78 ln_78 dX7_asks_5 (fun v1 => ?_)
  refine g_istore_n (pc := 6) K 1 dX7_asks_6 rfl (by decide) ?_
  change G X 7 [.ref (X.B + 67), .int v1, .null, .null] [] s _
  refine g_iconst (pc := 7) K (0) dX7_asks_7 (by decide) ?_
  refine g_istore_n (pc := 8) K 2 dX7_asks_8 rfl (by decide) ?_
  change G X 9 [.ref (X.B + 67), .int v1, .int (0), .null] [] s _
  refine g_weak (L' := [.ref (X.B + 67), .int v1, .int (0), .null]) ⟨rfl, ⟨rfl, ⟨rfl, trivial⟩⟩⟩ ?_
  refine tM_X7_asks_L9 K hR v1 _ (fun s15 => ?_) 400 (0) s
  exact g_vr (pc := 77) hR dX7_asks_77
theorem qX7_asks (E : Ce) : Con E yX7_asks cX7_asks 4 none 2 [.ref (E.B + 67)] (M_X7_asks) :=
  Con.of (by decide) (List.forall_mem_cons.mpr ⟨rfl, fun _ h => absurd h List.not_mem_nil⟩) (Nat.le_of_ble_eq_true rfl) (Or.inl rfl) [.ref (E.B + 67), .null, .null, .null] ⟨rfl, trivial⟩ (fun X s hE hok hI hZ hV => by subst hE; exact tX7_asks hok (hV rfl) s)
theorem hyX7_mowsOwn : yX7_mowsOwn.cls ≠ "java/lang/invoke/MethodHandle" ∧ yX7_mowsOwn.cls ≠ "java/lang/invoke/VarHandle" ∧ (parseMethodDescriptor yX7_mowsOwn.desc).map (fun d => d.parameters.length) = some 1 := by decide +kernel
set_option maxRecDepth 20000 in
set_option maxHeartbeats 4000000 in
theorem tX7_mowsOwn {X : Cx} (K : Ok X cX7_mowsOwn RX7 2 2) (hR : RI X cX7_mowsOwn) (a1 : Int32) (s : St) : G X 0 [.ref (X.B + 67), .int a1] [] s (M_X7_mowsOwn a1 s) := by
  unfold M_X7_mowsOwn
  refine g_aload_n (pc := 0) K 0 dX7_mowsOwn_0 rfl rfl ?_
  refine gg_7_22 (pc := 1) K (by decide) kd_67 kX7_41 dX7_mowsOwn_1 ?_
  refine g_iconst (pc := 4) K (1) dX7_mowsOwn_4 (by decide) ?_
  refine g_iaload (pc := 5) K (by decide) kd_78 ln_78 dX7_mowsOwn_5 (fun v1 => ?_)
  refine g_iload_n (pc := 6) K 1 dX7_mowsOwn_6 rfl rfl ?_
  refine g_callS (pc := 7) (S := []) K (qX7_has X.E v1 a1) (by decide) (by decide) wcX7_has wiX7 kX7_117 wtX7_has hyX7_has rfl rfl (Nat.le_of_ble_eq_true rfl) dX7_mowsOwn_7 (fun r2 s3 => ?_)
  change G X 10 [.ref (X.B + 67), .int a1] [.int r2] s3 _
  refine g_if_eq (pc := 10) K 24 dX7_mowsOwn_10 (by decide) ?_ ?_
  · refine g_iconst (pc := 24) K (0) dX7_mowsOwn_24 (by decide) ?_
    exact g_ir (pc := 25) hR dX7_mowsOwn_25
  · refine g_aload_n (pc := 13) K 0 dX7_mowsOwn_13 rfl rfl ?_
    refine gg_7_22 (pc := 14) K (by decide) kd_67 kX7_41 dX7_mowsOwn_14 ?_
    refine g_iconst (pc := 17) K (2) dX7_mowsOwn_17 (by decide) ?_
    refine g_iload_n (pc := 18) K 1 dX7_mowsOwn_18 rfl rfl ?_
    refine g_iadd (pc := 19) K dX7_mowsOwn_19 ?_
    refine g_iaload (pc := 20) K (by decide) kd_78 ln_78 dX7_mowsOwn_20 (fun v4 => ?_)
    refine g_if_ne (pc := 21) K 26 dX7_mowsOwn_21 (by decide) ?_ ?_
    · refine g_aload_n (pc := 26) K 0 dX7_mowsOwn_26 rfl rfl ?_
      refine gg_7_22 (pc := 27) K (by decide) kd_67 kX7_41 dX7_mowsOwn_27 ?_
      refine g_iconst (pc := 30) K (2) dX7_mowsOwn_30 (by decide) ?_
      refine g_iload_n (pc := 31) K 1 dX7_mowsOwn_31 rfl rfl ?_
      refine g_iadd (pc := 32) K dX7_mowsOwn_32 ?_
      refine g_dup2 (pc := 33) K dX7_mowsOwn_33 rfl rfl ?_
      refine g_iaload (pc := 34) K (by decide) kd_78 ln_78 dX7_mowsOwn_34 (fun v5 => ?_)
      refine g_iconst (pc := 35) K (1) dX7_mowsOwn_35 (by decide) ?_
      refine g_isub (pc := 36) K dX7_mowsOwn_36 ?_
      refine g_iastore (pc := 37) K (by decide) kd_78 ln_78 dX7_mowsOwn_37 (fun s6 => ?_)
      refine g_iconst (pc := 38) K (1) dX7_mowsOwn_38 (by decide) ?_
      exact g_ir (pc := 39) hR dX7_mowsOwn_39
    · refine g_iconst (pc := 24) K (0) dX7_mowsOwn_24 (by decide) ?_
      exact g_ir (pc := 25) hR dX7_mowsOwn_25
theorem qX7_mowsOwn (E : Ce) (a1 : Int32) : Con E yX7_mowsOwn cX7_mowsOwn 2 (some .int) 2 [.ref (E.B + 67), .int a1] (M_X7_mowsOwn a1) :=
  Con.of (by decide) (List.forall_mem_cons.mpr ⟨rfl, List.forall_mem_cons.mpr ⟨rfl, fun _ h => absurd h List.not_mem_nil⟩⟩) (Nat.le_of_ble_eq_true rfl) (Or.inr (Or.inl rfl)) [.ref (E.B + 67), .int a1] ⟨rfl, ⟨rfl, trivial⟩⟩ (fun X s hE hok hI hZ hV => by subst hE; exact tX7_mowsOwn hok (hI rfl) a1 s)
theorem hyX7_mowsOther : yX7_mowsOther.cls ≠ "java/lang/invoke/MethodHandle" ∧ yX7_mowsOther.cls ≠ "java/lang/invoke/VarHandle" ∧ (parseMethodDescriptor yX7_mowsOther.desc).map (fun d => d.parameters.length) = some 1 := by decide +kernel
set_option maxRecDepth 20000 in
set_option maxHeartbeats 4000000 in
theorem tM_X7_mowsOther_L28 {X : Cx} (K : Ok X cX7_mowsOther RX7 3 2) (hR : RI X cX7_mowsOther) (x1 : Int32) (kk : St → Option (Int32 × St)) (hkk : ∀ (s : St), G X 93 [.null, .null, .null] [] s (kk s)) : ∀ (fu : Nat) (x2 : Int32) (s : St), G X 28 [.ref (X.B + 67), .int x1, .int x2] [] s (M_X7_mowsOther_L28 x1 kk fu x2 s) := by
  intro fu
  induction fu with
  | zero => intro x2 s; exact g_none
  | succ fu ih =>
    intro x2 s
    rw [M_X7_mowsOther_L28]
    refine g_iload_n (pc := 28) K 2 dX7_mowsOther_28 rfl rfl ?_
    refine g_aload_n (pc := 29) K 0 dX7_mowsOther_29 rfl rfl ?_
    refine gg_7_0 (pc := 30) K (by decide) kd_67 kX7_47 dX7_mowsOther_30 ?_
    refine g_icmp_ge (pc := 33) K 93 dX7_mowsOther_33 (by decide) ?_ ?_
    · exact g_wk (hkk  s) trivial
    · refine g_aload_n (pc := 36) K 0 dX7_mowsOther_36 rfl rfl ?_
      refine gg_7_22 (pc := 37) K (by decide) kd_67 kX7_41 dX7_mowsOther_37 ?_
      refine g_bipush (pc := 40) K (8) dX7_mowsOther_40 (by decide) ?_
      refine g_iload_n (pc := 42) K 2 dX7_mowsOther_42 rfl rfl ?_
      refine g_iadd (pc := 43) K dX7_mowsOther_43 ?_
      refine g_iaload (pc := 44) K (by decide) kd_78 ln_78 dX7_mowsOther_44 (fun v6 => ?_)
      refine g_iload_n (pc := 45) K 1 dX7_mowsOther_45 rfl rfl ?_
      refine g_jn (κ := St → Option (Int32 × St)) (fun kj7 => ∀ (s8 : St), G X 87 [.ref (X.B + 67), .int x1, .int x2] [] s8 (kj7 s8)) (fun s8 => ?_) (fun kj7 hkj7 => ?_)
      · refine g_iinc (pc := 87) K (1) dX7_mowsOther_87 rfl (by decide) (by decide) ?_
        change G X 90 [.ref (X.B + 67), .int x1, .int (x2 + (1))] [] s8 _
        refine g_goto (pc := 90) K 28 dX7_mowsOther_90 (by decide) ?_
        exact g_wk (ih (x2 + (1)) s8) ⟨rfl, ⟨rfl, ⟨rfl, trivial⟩⟩⟩
      · refine g_icmp_ne (pc := 46) K 87 dX7_mowsOther_46 (by decide) ?_ ?_
        · exact g_wk (hkj7  s) ⟨rfl, ⟨rfl, ⟨rfl, trivial⟩⟩⟩
        · refine g_aload_n (pc := 49) K 0 dX7_mowsOther_49 rfl rfl ?_
          refine gg_7_22 (pc := 50) K (by decide) kd_67 kX7_41 dX7_mowsOther_50 ?_
          refine g_iconst (pc := 53) K (1) dX7_mowsOther_53 (by decide) ?_
          refine g_iaload (pc := 54) K (by decide) kd_78 ln_78 dX7_mowsOther_54 (fun v9 => ?_)
          refine g_iload_n (pc := 55) K 2 dX7_mowsOther_55 rfl rfl ?_
          refine g_callS (pc := 56) (S := []) K (qX7_has X.E v9 x2) (by decide) (by decide) wcX7_has wiX7 kX7_117 wtX7_has hyX7_has rfl rfl (Nat.le_of_ble_eq_true rfl) dX7_mowsOther_56 (fun r10 s11 => ?_)
          change G X 59 [.ref (X.B + 67), .int x1, .int x2] [.int r10] s11 _
          refine g_if_eq (pc := 59) K 87 dX7_mowsOther_59 (by decide) ?_ ?_
          · exact g_wk (hkj7  s11) ⟨rfl, ⟨rfl, ⟨rfl, trivial⟩⟩⟩
          · refine g_aload_n (pc := 62) K 0 dX7_mowsOther_62 rfl rfl ?_
            refine gg_7_22 (pc := 63) K (by decide) kd_67 kX7_41 dX7_mowsOther_63 ?_
            refine g_iconst (pc := 66) K (2) dX7_mowsOther_66 (by decide) ?_
            refine g_iload_n (pc := 67) K 2 dX7_mowsOther_67 rfl rfl ?_
            refine g_iadd (pc := 68) K dX7_mowsOther_68 ?_
            refine g_iaload (pc := 69) K (by decide) kd_78 ln_78 dX7_mowsOther_69 (fun v12 => ?_)
            refine g_if_le (pc := 70) K 87 dX7_mowsOther_70 (by decide) ?_ ?_
            · exact g_wk (hkj7  s11) ⟨rfl, ⟨rfl, ⟨rfl, trivial⟩⟩⟩
            · refine g_aload_n (pc := 73) K 0 dX7_mowsOther_73 rfl rfl ?_
              refine gg_7_22 (pc := 74) K (by decide) kd_67 kX7_41 dX7_mowsOther_74 ?_
              refine g_iconst (pc := 77) K (2) dX7_mowsOther_77 (by decide) ?_
              refine g_iload_n (pc := 78) K 2 dX7_mowsOther_78 rfl rfl ?_
              refine g_iadd (pc := 79) K dX7_mowsOther_79 ?_
              refine g_dup2 (pc := 80) K dX7_mowsOther_80 rfl rfl ?_
              refine g_iaload (pc := 81) K (by decide) kd_78 ln_78 dX7_mowsOther_81 (fun v13 => ?_)
              refine g_iconst (pc := 82) K (1) dX7_mowsOther_82 (by decide) ?_
              refine g_isub (pc := 83) K dX7_mowsOther_83 ?_
              refine g_iastore (pc := 84) K (by decide) kd_78 ln_78 dX7_mowsOther_84 (fun s14 => ?_)
              refine g_iconst (pc := 85) K (1) dX7_mowsOther_85 (by decide) ?_
              exact g_ir (pc := 86) hR dX7_mowsOther_86
set_option maxRecDepth 20000 in
set_option maxHeartbeats 4000000 in
theorem tX7_mowsOther {X : Cx} (K : Ok X cX7_mowsOther RX7 3 2) (hR : RI X cX7_mowsOther) (a1 : Int32) (s : St) : G X 0 [.ref (X.B + 67), .int a1, .null] [] s (M_X7_mowsOther a1 s) := by
  unfold M_X7_mowsOther
  refine g_aload_n (pc := 0) K 0 dX7_mowsOther_0 rfl rfl ?_
  refine gg_7_22 (pc := 1) K (by decide) kd_67 kX7_41 dX7_mowsOther_1 ?_
  refine g_iconst (pc := 4) K (1) dX7_mowsOther_4 (by decide) ?_
  refine g_iaload (pc := 5) K (by decide) kd_78 ln_78 dX7_mowsOther_5 (fun v1 => ?_)
  refine g_iload_n (pc := 6) K 1 dX7_mowsOther_6 rfl rfl ?_
  refine g_callS (pc := 7) (S := []) K (qX7_has X.E v1 a1) (by decide) (by decide) wcX7_has wiX7 kX7_117 wtX7_has hyX7_has rfl rfl (Nat.le_of_ble_eq_true rfl) dX7_mowsOther_7 (fun r2 s3 => ?_)
  change G X 10 [.ref (X.B + 67), .int a1, .null] [.int r2] s3 _
  refine g_if_eq (pc := 10) K 24 dX7_mowsOther_10 (by decide) ?_ ?_
  · refine g_iconst (pc := 24) K (0) dX7_mowsOther_24 (by decide) ?_
    exact g_ir (pc := 25) hR dX7_mowsOther_25
  · refine g_aload_n (pc := 13) K 0 dX7_mowsOther_13 rfl rfl ?_
    refine gg_7_23 (pc := 14) K (by decide) kd_67 kX7_121 dX7_mowsOther_14 ?_
    refine g_iload_n (pc := 17) K 1 dX7_mowsOther_17 rfl rfl ?_
    refine g_callS (pc := 18) (S := []) K (qX7_has X.E (s3.1 67 23) a1) (by decide) (by decide) wcX7_has wiX7 kX7_117 wtX7_has hyX7_has rfl rfl (Nat.le_of_ble_eq_true rfl) dX7_mowsOther_18 (fun r4 s5 => ?_)
    change G X 21 [.ref (X.B + 67), .int a1, .null] [.int r4] s5 _
    refine g_if_ne (pc := 21) K 26 dX7_mowsOther_21 (by decide) ?_ ?_
    · refine g_iconst (pc := 26) K (0) dX7_mowsOther_26 (by decide) ?_
      refine g_istore_n (pc := 27) K 2 dX7_mowsOther_27 rfl (by decide) ?_
      change G X 28 [.ref (X.B + 67), .int a1, .int (0)] [] s5 _
      refine g_weak (L' := [.ref (X.B + 67), .int a1, .int (0)]) ⟨rfl, ⟨rfl, ⟨rfl, trivial⟩⟩⟩ ?_
      refine tM_X7_mowsOther_L28 K hR a1 _ (fun s15 => ?_) 400 (0) s5
      refine g_iconst (pc := 93) K (0) dX7_mowsOther_93 (by decide) ?_
      exact g_ir (pc := 94) hR dX7_mowsOther_94
    · refine g_iconst (pc := 24) K (0) dX7_mowsOther_24 (by decide) ?_
      exact g_ir (pc := 25) hR dX7_mowsOther_25
theorem qX7_mowsOther (E : Ce) (a1 : Int32) : Con E yX7_mowsOther cX7_mowsOther 3 (some .int) 2 [.ref (E.B + 67), .int a1] (M_X7_mowsOther a1) :=
  Con.of (by decide) (List.forall_mem_cons.mpr ⟨rfl, List.forall_mem_cons.mpr ⟨rfl, fun _ h => absurd h List.not_mem_nil⟩⟩) (Nat.le_of_ble_eq_true rfl) (Or.inr (Or.inl rfl)) [.ref (E.B + 67), .int a1, .null] ⟨rfl, ⟨rfl, trivial⟩⟩ (fun X s hE hok hI hZ hV => by subst hE; exact tX7_mowsOther hok (hI rfl) a1 s)
theorem hyX7_goesBy : yX7_goesBy.cls ≠ "java/lang/invoke/MethodHandle" ∧ yX7_goesBy.cls ≠ "java/lang/invoke/VarHandle" ∧ (parseMethodDescriptor yX7_goesBy.desc).map (fun d => d.parameters.length) = some 1 := by decide +kernel
set_option maxRecDepth 20000 in
set_option maxHeartbeats 4000000 in
theorem tM_X7_goesBy_L18 {X : Cx} (K : Ok X cX7_goesBy RX7 4 3) (hR : RI X cX7_goesBy) (x2 : Int32) (kk : St → Option (Int32 × St)) (hkk : ∀ (s : St), G X 59 [.ref (X.B + 67), .null, .int x2, .null] [] s (kk s)) : ∀ (fu : Nat) (x3 : Int32) (s : St), G X 18 [.ref (X.B + 67), .null, .int x2, .int x3] [] s (M_X7_goesBy_L18 x2 kk fu x3 s) := by
  intro fu
  induction fu with
  | zero => intro x3 s; exact g_none
  | succ fu ih =>
    intro x3 s
    rw [M_X7_goesBy_L18]
    refine g_iload_n (pc := 18) K 3 dX7_goesBy_18 rfl rfl ?_
    refine g_aload_n (pc := 19) K 0 dX7_goesBy_19 rfl rfl ?_
    refine gg_7_0 (pc := 20) K (by decide) kd_67 kX7_47 dX7_goesBy_20 ?_
    refine g_icmp_ge (pc := 23) K 59 dX7_goesBy_23 (by decide) ?_ ?_
    · exact g_wk (hkk  s) ⟨rfl, ⟨rfl, trivial⟩⟩
    · refine g_aload_n (pc := 26) K 0 dX7_goesBy_26 rfl rfl ?_
      refine g_dup (pc := 27) K dX7_goesBy_27 rfl ?_
      refine gg_7_23 (pc := 28) K (by decide) kd_67 kX7_121 dX7_goesBy_28 ?_
      refine g_aload_n (pc := 31) K 0 dX7_goesBy_31 rfl rfl ?_
      refine gg_7_22 (pc := 32) K (by decide) kd_67 kX7_41 dX7_goesBy_32 ?_
      refine g_iconst (pc := 35) K (2) dX7_goesBy_35 (by decide) ?_
      refine g_iload_n (pc := 36) K 3 dX7_goesBy_36 rfl rfl ?_
      refine g_iadd (pc := 37) K dX7_goesBy_37 ?_
      refine g_iaload (pc := 38) K (by decide) kd_78 ln_78 dX7_goesBy_38 (fun v9 => ?_)
      refine g_jn (κ := Int32 → St → Option (Int32 × St)) (fun kj10 => ∀ (v11 : Int32) (s12 : St), G X 49 [.ref (X.B + 67), .null, .int x2, .int x3] [.int v11, .int (s.1 67 23), .ref (X.B + 67)] s12 (kj10 v11 s12)) (fun v11 s12 => ?_) (fun kj10 hkj10 => ?_)
      · refine g_ior (pc := 49) K dX7_goesBy_49 ?_
        refine gp_7_23 (pc := 50) K (by decide) kd_67 kX7_121 dX7_goesBy_50 (fun s13 => ?_)
        refine g_iinc (pc := 53) K (1) dX7_goesBy_53 rfl (by decide) (by decide) ?_
        change G X 56 [.ref (X.B + 67), .null, .int x2, .int (x3 + (1))] [] s13 _
        refine g_goto (pc := 56) K 18 dX7_goesBy_56 (by decide) ?_
        exact g_wk (ih (x3 + (1)) s13) ⟨rfl, ⟨rfl, ⟨rfl, trivial⟩⟩⟩
      · refine g_if_ne (pc := 39) K 48 dX7_goesBy_39 (by decide) ?_ ?_
        · refine g_iconst (pc := 48) K (0) dX7_goesBy_48 (by decide) ?_
          exact g_wk (hkj10 (0) s) ⟨rfl, ⟨rfl, ⟨rfl, trivial⟩⟩⟩
        · refine g_iconst (pc := 42) K (1) dX7_goesBy_42 (by decide) ?_
          refine g_iload_n (pc := 43) K 3 dX7_goesBy_43 rfl rfl ?_
          refine g_ishl (pc := 44) K dX7_goesBy_44 ?_
          refine g_goto (pc := 45) K 49 dX7_goesBy_45 (by decide) ?_
          exact g_wk (hkj10 ((1) <<< (x3 &&& 31)) s) ⟨rfl, ⟨rfl, ⟨rfl, trivial⟩⟩⟩
set_option maxRecDepth 20000 in
set_option maxHeartbeats 4000000 in
theorem tM_X7_goesBy_L61 {X : Cx} (K : Ok X cX7_goesBy RX7 4 3) (hR : RI X cX7_goesBy) (kk : Int32 → St → Option (Int32 × St)) (hkk : ∀ (x2 : Int32) (s : St), G X 83 [.ref (X.B + 67), .null, .int x2, .null] [] s (kk x2 s)) : ∀ (fu : Nat) (x2 x3 : Int32) (s : St), G X 61 [.ref (X.B + 67), .null, .int x2, .int x3] [] s (M_X7_goesBy_L61 kk fu x2 x3 s) := by
  intro fu
  induction fu with
  | zero => intro x2 x3 s; exact g_none
  | succ fu ih =>
    intro x2 x3 s
    rw [M_X7_goesBy_L61]
    refine g_iload_n (pc := 61) K 3 dX7_goesBy_61 rfl rfl ?_
    refine g_aload_n (pc := 62) K 0 dX7_goesBy_62 rfl rfl ?_
    refine gg_7_0 (pc := 63) K (by decide) kd_67 kX7_47 dX7_goesBy_63 ?_
    refine g_icmp_ge (pc := 66) K 83 dX7_goesBy_66 (by decide) ?_ ?_
    · exact g_wk (hkk x2 s) ⟨rfl, ⟨rfl, trivial⟩⟩
    · refine g_iload_n (pc := 69) K 2 dX7_goesBy_69 rfl rfl ?_
      refine g_aload_n (pc := 70) K 0 dX7_goesBy_70 rfl rfl ?_
      refine g_iload_n (pc := 71) K 3 dX7_goesBy_71 rfl rfl ?_
      refine g_callV (pc := 72) (S := [.int x2]) K (qX7_mowsOwn X.E x3) (by decide) (ci := 7) rfl (fun _ => ⟨_, ce_7 kd_67⟩) (by decide) (by decide) wcX7_mowsOwn wiX7 kX7_127 wmX7_mowsOwn weX7_mowsOwn hyX7_mowsOwn rfl rfl (Nat.le_of_ble_eq_true rfl) dX7_goesBy_72 (fun r15 s16 => ?_)
      change G X 75 [.ref (X.B + 67), .null, .int x2, .int x3] [.int r15, .int x2] s16 _
      refine g_iadd (pc := 75) K dX7_goesBy_75 ?_
      refine g_istore_n (pc := 76) K 2 dX7_goesBy_76 rfl (by decide) ?_
      change G X 77 [.ref (X.B + 67), .null, .int (x2 + r15), .int x3] [] s16 _
      refine g_iinc (pc := 77) K (1) dX7_goesBy_77 rfl (by decide) (by decide) ?_
      change G X 80 [.ref (X.B + 67), .null, .int (x2 + r15), .int (x3 + (1))] [] s16 _
      refine g_goto (pc := 80) K 61 dX7_goesBy_80 (by decide) ?_
      exact g_wk (ih (x2 + r15) (x3 + (1)) s16) ⟨rfl, ⟨rfl, ⟨rfl, trivial⟩⟩⟩
set_option maxRecDepth 20000 in
set_option maxHeartbeats 4000000 in
theorem tM_X7_goesBy_L85 {X : Cx} (K : Ok X cX7_goesBy RX7 4 3) (hR : RI X cX7_goesBy) (kk : Int32 → St → Option (Int32 × St)) (hkk : ∀ (x2 : Int32) (s : St), G X 107 [.ref (X.B + 67), .null, .int x2, .null] [] s (kk x2 s)) : ∀ (fu : Nat) (x2 x3 : Int32) (s : St), G X 85 [.ref (X.B + 67), .null, .int x2, .int x3] [] s (M_X7_goesBy_L85 kk fu x2 x3 s) := by
  intro fu
  induction fu with
  | zero => intro x2 x3 s; exact g_none
  | succ fu ih =>
    intro x2 x3 s
    rw [M_X7_goesBy_L85]
    refine g_iload_n (pc := 85) K 3 dX7_goesBy_85 rfl rfl ?_
    refine g_aload_n (pc := 86) K 0 dX7_goesBy_86 rfl rfl ?_
    refine gg_7_0 (pc := 87) K (by decide) kd_67 kX7_47 dX7_goesBy_87 ?_
    refine g_icmp_ge (pc := 90) K 107 dX7_goesBy_90 (by decide) ?_ ?_
    · exact g_wk (hkk x2 s) ⟨rfl, ⟨rfl, trivial⟩⟩
    · refine g_iload_n (pc := 93) K 2 dX7_goesBy_93 rfl rfl ?_
      refine g_aload_n (pc := 94) K 0 dX7_goesBy_94 rfl rfl ?_
      refine g_iload_n (pc := 95) K 3 dX7_goesBy_95 rfl rfl ?_
      refine g_callV (pc := 96) (S := [.int x2]) K (qX7_mowsOther X.E x3) (by decide) (ci := 7) rfl (fun _ => ⟨_, ce_7 kd_67⟩) (by decide) (by decide) wcX7_mowsOther wiX7 kX7_130 wmX7_mowsOther weX7_mowsOther hyX7_mowsOther rfl rfl (Nat.le_of_ble_eq_true rfl) dX7_goesBy_96 (fun r19 s20 => ?_)
      change G X 99 [.ref (X.B + 67), .null, .int x2, .int x3] [.int r19, .int x2] s20 _
      refine g_iadd (pc := 99) K dX7_goesBy_99 ?_
      refine g_istore_n (pc := 100) K 2 dX7_goesBy_100 rfl (by decide) ?_
      change G X 101 [.ref (X.B + 67), .null, .int (x2 + r19), .int x3] [] s20 _
      refine g_iinc (pc := 101) K (1) dX7_goesBy_101 rfl (by decide) (by decide) ?_
      change G X 104 [.ref (X.B + 67), .null, .int (x2 + r19), .int (x3 + (1))] [] s20 _
      refine g_goto (pc := 104) K 85 dX7_goesBy_104 (by decide) ?_
      exact g_wk (ih (x2 + r19) (x3 + (1)) s20) ⟨rfl, ⟨rfl, ⟨rfl, trivial⟩⟩⟩
set_option maxRecDepth 20000 in
set_option maxHeartbeats 4000000 in
theorem tX7_goesBy {X : Cx} (K : Ok X cX7_goesBy RX7 4 3) (hR : RI X cX7_goesBy) (a1 : Int32) (s : St) : G X 0 [.ref (X.B + 67), .int a1, .null, .null] [] s (M_X7_goesBy a1 s) := by
  unfold M_X7_goesBy
  refine g_iconst (pc := 0) K (0) dX7_goesBy_0 (by decide) ?_
  refine g_istore_n (pc := 1) K 2 dX7_goesBy_1 rfl (by decide) ?_
  change G X 2 [.ref (X.B + 67), .int a1, .int (0), .null] [] s _
  refine g_aload_n (pc := 2) K 0 dX7_goesBy_2 rfl rfl ?_
  refine g_callV (pc := 3) (S := []) K (qX7_asks X.E ) (by decide) (ci := 7) rfl (fun _ => ⟨_, ce_7 kd_67⟩) (by decide) (by decide) wcX7_asks wiX7 kX7_124 wmX7_asks weX7_asks hyX7_asks rfl rfl (Nat.le_of_ble_eq_true rfl) dX7_goesBy_3 (fun r1 s2 => ?_)
  change G X 6 [.ref (X.B + 67), .int a1, .int (0), .null] [] s2 _
  refine g_iload_n (pc := 6) K 1 dX7_goesBy_6 rfl rfl ?_
  refine g_iconst (pc := 7) K (1) dX7_goesBy_7 (by decide) ?_
  refine g_jn (κ := Int32 → St → Option (Int32 × St)) (fun kj3 => ∀ (v4 : Int32) (s5 : St), G X 107 [.ref (X.B + 67), .null, .int v4, .null] [] s5 (kj3 v4 s5)) (fun v4 s5 => ?_) (fun kj3 hkj3 => ?_)
  · refine g_aload_n (pc := 107) K 0 dX7_goesBy_107 rfl rfl ?_
    refine gg_7_22 (pc := 108) K (by decide) kd_67 kX7_41 dX7_goesBy_108 ?_
    refine g_iconst (pc := 111) K (0) dX7_goesBy_111 (by decide) ?_
    refine g_dup2 (pc := 112) K dX7_goesBy_112 rfl rfl ?_
    refine g_iaload (pc := 113) K (by decide) kd_78 ln_78 dX7_goesBy_113 (fun v6 => ?_)
    refine g_iconst (pc := 114) K (1) dX7_goesBy_114 (by decide) ?_
    refine g_iadd (pc := 115) K dX7_goesBy_115 ?_
    refine g_iastore (pc := 116) K (by decide) kd_78 ln_78 dX7_goesBy_116 (fun s7 => ?_)
    refine g_iload_n (pc := 117) K 2 dX7_goesBy_117 rfl rfl ?_
    exact g_ir (pc := 118) hR dX7_goesBy_118
  · refine g_icmp_ne (pc := 8) K 107 dX7_goesBy_8 (by decide) ?_ ?_
    · exact g_wk (hkj3 (0) s2) ⟨rfl, ⟨rfl, trivial⟩⟩
    · refine g_aload_n (pc := 11) K 0 dX7_goesBy_11 rfl rfl ?_
      refine g_iconst (pc := 12) K (0) dX7_goesBy_12 (by decide) ?_
      refine gp_7_23 (pc := 13) K (by decide) kd_67 kX7_121 dX7_goesBy_13 (fun s8 => ?_)
      refine g_iconst (pc := 16) K (0) dX7_goesBy_16 (by decide) ?_
      refine g_istore_n (pc := 17) K 3 dX7_goesBy_17 rfl (by decide) ?_
      change G X 18 [.ref (X.B + 67), .int a1, .int (0), .int (0)] [] s8 _
      refine g_weak (L' := [.ref (X.B + 67), .null, .int (0), .int (0)]) ⟨rfl, ⟨rfl, ⟨rfl, trivial⟩⟩⟩ ?_
      refine tM_X7_goesBy_L18 K hR (0) _ (fun s14 => ?_) 400 (0) s8
      refine g_iconst (pc := 59) K (0) dX7_goesBy_59 (by decide) ?_
      refine g_istore_n (pc := 60) K 3 dX7_goesBy_60 rfl (by decide) ?_
      change G X 61 [.ref (X.B + 67), .null, .int (0), .int (0)] [] s14 _
      refine g_weak (L' := [.ref (X.B + 67), .null, .int (0), .int (0)]) ⟨rfl, ⟨rfl, ⟨rfl, trivial⟩⟩⟩ ?_
      refine tM_X7_goesBy_L61 K hR  _ (fun v17 s18 => ?_) 400 (0) (0) s14
      refine g_iconst (pc := 83) K (0) dX7_goesBy_83 (by decide) ?_
      refine g_istore_n (pc := 84) K 3 dX7_goesBy_84 rfl (by decide) ?_
      change G X 85 [.ref (X.B + 67), .null, .int v17, .int (0)] [] s18 _
      refine g_weak (L' := [.ref (X.B + 67), .null, .int v17, .int (0)]) ⟨rfl, ⟨rfl, ⟨rfl, trivial⟩⟩⟩ ?_
      refine tM_X7_goesBy_L85 K hR  _ (fun v21 s22 => ?_) 400 v17 (0) s18
      exact g_wk (hkj3 v21 s22) ⟨rfl, ⟨rfl, trivial⟩⟩
theorem qX7_goesBy (E : Ce) (a1 : Int32) : Con E yX7_goesBy cX7_goesBy 4 (some .int) 3 [.ref (E.B + 67), .int a1] (M_X7_goesBy a1) :=
  Con.of (by decide) (List.forall_mem_cons.mpr ⟨rfl, List.forall_mem_cons.mpr ⟨rfl, fun _ h => absurd h List.not_mem_nil⟩⟩) (Nat.le_of_ble_eq_true rfl) (Or.inr (Or.inl rfl)) [.ref (E.B + 67), .int a1, .null, .null] ⟨rfl, ⟨rfl, trivial⟩⟩ (fun X s hE hok hI hZ hV => by subst hE; exact tX7_goesBy hok (hI rfl) a1 s)
theorem hyX7_leftAll : yX7_leftAll.cls ≠ "java/lang/invoke/MethodHandle" ∧ yX7_leftAll.cls ≠ "java/lang/invoke/VarHandle" ∧ (parseMethodDescriptor yX7_leftAll.desc).map (fun d => d.parameters.length) = some 0 := by decide +kernel
set_option maxRecDepth 20000 in
set_option maxHeartbeats 4000000 in
theorem tM_X7_leftAll_L4 {X : Cx} (K : Ok X cX7_leftAll RX7 3 1) (hR : RI X cX7_leftAll) (kk : Int32 → St → Option (Int32 × St)) (hkk : ∀ (x1 : Int32) (s : St), G X 29 [.null, .int x1, .null] [] s (kk x1 s)) : ∀ (fu : Nat) (x1 x2 : Int32) (s : St), G X 4 [.ref (X.B + 67), .int x1, .int x2] [] s (M_X7_leftAll_L4 kk fu x1 x2 s) := by
  intro fu
  induction fu with
  | zero => intro x1 x2 s; exact g_none
  | succ fu ih =>
    intro x1 x2 s
    rw [M_X7_leftAll_L4]
    refine g_iload_n (pc := 4) K 2 dX7_leftAll_4 rfl rfl ?_
    refine g_aload_n (pc := 5) K 0 dX7_leftAll_5 rfl rfl ?_
    refine gg_7_0 (pc := 6) K (by decide) kd_67 kX7_47 dX7_leftAll_6 ?_
    refine g_icmp_ge (pc := 9) K 29 dX7_leftAll_9 (by decide) ?_ ?_
    · exact g_wk (hkk x1 s) ⟨rfl, trivial⟩
    · refine g_iload_n (pc := 12) K 1 dX7_leftAll_12 rfl rfl ?_
      refine g_aload_n (pc := 13) K 0 dX7_leftAll_13 rfl rfl ?_
      refine gg_7_22 (pc := 14) K (by decide) kd_67 kX7_41 dX7_leftAll_14 ?_
      refine g_iconst (pc := 17) K (2) dX7_leftAll_17 (by decide) ?_
      refine g_iload_n (pc := 18) K 2 dX7_leftAll_18 rfl rfl ?_
      refine g_iadd (pc := 19) K dX7_leftAll_19 ?_
      refine g_iaload (pc := 20) K (by decide) kd_78 ln_78 dX7_leftAll_20 (fun v1 => ?_)
      refine g_iadd (pc := 21) K dX7_leftAll_21 ?_
      refine g_istore_n (pc := 22) K 1 dX7_leftAll_22 rfl (by decide) ?_
      change G X 23 [.ref (X.B + 67), .int (x1 + v1), .int x2] [] s _
      refine g_iinc (pc := 23) K (1) dX7_leftAll_23 rfl (by decide) (by decide) ?_
      change G X 26 [.ref (X.B + 67), .int (x1 + v1), .int (x2 + (1))] [] s _
      refine g_goto (pc := 26) K 4 dX7_leftAll_26 (by decide) ?_
      exact g_wk (ih (x1 + v1) (x2 + (1)) s) ⟨rfl, ⟨rfl, ⟨rfl, trivial⟩⟩⟩
set_option maxRecDepth 20000 in
set_option maxHeartbeats 4000000 in
theorem tX7_leftAll {X : Cx} (K : Ok X cX7_leftAll RX7 3 1) (hR : RI X cX7_leftAll) (s : St) : G X 0 [.ref (X.B + 67), .null, .null] [] s (M_X7_leftAll s) := by
  unfold M_X7_leftAll
  refine g_iconst (pc := 0) K (0) dX7_leftAll_0 (by decide) ?_
  refine g_istore_n (pc := 1) K 1 dX7_leftAll_1 rfl (by decide) ?_
  change G X 2 [.ref (X.B + 67), .int (0), .null] [] s _
  refine g_iconst (pc := 2) K (0) dX7_leftAll_2 (by decide) ?_
  refine g_istore_n (pc := 3) K 2 dX7_leftAll_3 rfl (by decide) ?_
  change G X 4 [.ref (X.B + 67), .int (0), .int (0)] [] s _
  refine g_weak (L' := [.ref (X.B + 67), .int (0), .int (0)]) ⟨rfl, ⟨rfl, ⟨rfl, trivial⟩⟩⟩ ?_
  refine tM_X7_leftAll_L4 K hR  _ (fun v2 s3 => ?_) 400 (0) (0) s
  refine g_iload_n (pc := 29) K 1 dX7_leftAll_29 rfl rfl ?_
  exact g_ir (pc := 30) hR dX7_leftAll_30
theorem qX7_leftAll (E : Ce) : Con E yX7_leftAll cX7_leftAll 3 (some .int) 1 [.ref (E.B + 67)] (M_X7_leftAll) :=
  Con.of (by decide) (List.forall_mem_cons.mpr ⟨rfl, fun _ h => absurd h List.not_mem_nil⟩) (Nat.le_of_ble_eq_true rfl) (Or.inr (Or.inl rfl)) [.ref (E.B + 67), .null, .null] ⟨rfl, trivial⟩ (fun X s hE hok hI hZ hV => by subst hE; exact tX7_leftAll hok (hI rfl) s)
theorem hyX7_daysTillAsked : yX7_daysTillAsked.cls ≠ "java/lang/invoke/MethodHandle" ∧ yX7_daysTillAsked.cls ≠ "java/lang/invoke/VarHandle" ∧ (parseMethodDescriptor yX7_daysTillAsked.desc).map (fun d => d.parameters.length) = some 1 := by decide +kernel
set_option maxRecDepth 20000 in
set_option maxHeartbeats 4000000 in
theorem tM_X7_daysTillAsked_L6 {X : Cx} (K : Ok X cX7_daysTillAsked RX7 3 4) (hR : RI X cX7_daysTillAsked) (x1 : Int32) (kk : St → Option (Int32 × St)) (hkk : ∀ (s : St), G X 39 [.null, .null, .null] [] s (kk s)) : ∀ (fu : Nat) (x2 : Int32) (s : St), G X 6 [.ref (X.B + 67), .int x1, .int x2] [] s (M_X7_daysTillAsked_L6 x1 kk fu x2 s) := by
  intro fu
  induction fu with
  | zero => intro x2 s; exact g_none
  | succ fu ih =>
    intro x2 s
    rw [M_X7_daysTillAsked_L6]
    refine g_iload_n (pc := 6) K 2 dX7_daysTillAsked_6 rfl rfl ?_
    refine g_bipush (pc := 7) K (60) dX7_daysTillAsked_7 (by decide) ?_
    refine g_icmp_gt (pc := 9) K 39 dX7_daysTillAsked_9 (by decide) ?_ ?_
    · exact g_wk (hkk  s) trivial
    · refine g_aload_n (pc := 12) K 0 dX7_daysTillAsked_12 rfl rfl ?_
      refine gg_7_22 (pc := 13) K (by decide) kd_67 kX7_41 dX7_daysTillAsked_13 ?_
      refine g_iconst (pc := 16) K (1) dX7_daysTillAsked_16 (by decide) ?_
      refine g_iaload (pc := 17) K (by decide) kd_78 ln_78 dX7_daysTillAsked_17 (fun v3 => ?_)
      refine g_iload_n (pc := 18) K 1 dX7_daysTillAsked_18 rfl rfl ?_
      refine g_callS (pc := 19) (S := []) K (qX7_has X.E v3 x1) (by decide) (by decide) wcX7_has wiX7 kX7_117 wtX7_has hyX7_has rfl rfl (Nat.le_of_ble_eq_true rfl) dX7_daysTillAsked_19 (fun r4 s5 => ?_)
      change G X 22 [.ref (X.B + 67), .int x1, .int x2] [.int r4] s5 _
      refine g_if_eq (pc := 22) K 27 dX7_daysTillAsked_22 (by decide) ?_ ?_
      · refine g_aload_n (pc := 27) K 0 dX7_daysTillAsked_27 rfl rfl ?_
        refine g_iconst (pc := 28) K (1) dX7_daysTillAsked_28 (by decide) ?_
        refine g_callV (pc := 29) (S := []) K (qX7_goesBy X.E (1)) (by decide) (ci := 7) rfl (fun _ => ⟨_, ce_7 kd_67⟩) (by decide) (by decide) wcX7_goesBy wiX7 kX7_136 wmX7_goesBy weX7_goesBy hyX7_goesBy rfl rfl (Nat.le_of_ble_eq_true rfl) dX7_daysTillAsked_29 (fun r6 s7 => ?_)
        change G X 32 [.ref (X.B + 67), .int x1, .int x2] [.int r6] s7 _
        refine g_pop (pc := 32) K dX7_daysTillAsked_32 rfl ?_
        refine g_iinc (pc := 33) K (1) dX7_daysTillAsked_33 rfl (by decide) (by decide) ?_
        change G X 36 [.ref (X.B + 67), .int x1, .int (x2 + (1))] [] s7 _
        refine g_goto (pc := 36) K 6 dX7_daysTillAsked_36 (by decide) ?_
        exact g_wk (ih (x2 + (1)) s7) ⟨rfl, ⟨rfl, ⟨rfl, trivial⟩⟩⟩
      · refine g_iload_n (pc := 25) K 2 dX7_daysTillAsked_25 rfl rfl ?_
        exact g_ir (pc := 26) hR dX7_daysTillAsked_26
set_option maxRecDepth 20000 in
set_option maxHeartbeats 4000000 in
theorem tX7_daysTillAsked {X : Cx} (K : Ok X cX7_daysTillAsked RX7 3 4) (hR : RI X cX7_daysTillAsked) (a1 : Int32) (s : St) : G X 0 [.ref (X.B + 67), .int a1, .null] [] s (M_X7_daysTillAsked a1 s) := by
  unfold M_X7_daysTillAsked
  refine g_aload_n (pc := 0) K 0 dX7_daysTillAsked_0 rfl rfl ?_
  refine g_callV (pc := 1) (S := []) K (qX7_asItIs X.E ) (by decide) (ci := 7) rfl (fun _ => ⟨_, ce_7 kd_67⟩) (by decide) (by decide) wcX7_asItIs wiX7 kX7_133 wmX7_asItIs weX7_asItIs hyX7_asItIs rfl rfl (Nat.le_of_ble_eq_true rfl) dX7_daysTillAsked_1 (fun r1 s2 => ?_)
  change G X 4 [.ref (X.B + 67), .int a1, .null] [] s2 _
  refine g_iconst (pc := 4) K (0) dX7_daysTillAsked_4 (by decide) ?_
  refine g_istore_n (pc := 5) K 2 dX7_daysTillAsked_5 rfl (by decide) ?_
  change G X 6 [.ref (X.B + 67), .int a1, .int (0)] [] s2 _
  refine g_weak (L' := [.ref (X.B + 67), .int a1, .int (0)]) ⟨rfl, ⟨rfl, ⟨rfl, trivial⟩⟩⟩ ?_
  refine tM_X7_daysTillAsked_L6 K hR a1 _ (fun s8 => ?_) 400 (0) s2
  refine g_bipush (pc := 39) K (-9) dX7_daysTillAsked_39 (by decide) ?_
  exact g_ir (pc := 41) hR dX7_daysTillAsked_41
theorem qX7_daysTillAsked (E : Ce) (a1 : Int32) : Con E yX7_daysTillAsked cX7_daysTillAsked 3 (some .int) 4 [.ref (E.B + 67), .int a1] (M_X7_daysTillAsked a1) :=
  Con.of (by decide) (List.forall_mem_cons.mpr ⟨rfl, List.forall_mem_cons.mpr ⟨rfl, fun _ h => absurd h List.not_mem_nil⟩⟩) (Nat.le_of_ble_eq_true rfl) (Or.inr (Or.inl rfl)) [.ref (E.B + 67), .int a1, .null] ⟨rfl, ⟨rfl, trivial⟩⟩ (fun X s hE hok hI hZ hV => by subst hE; exact tX7_daysTillAsked hok (hI rfl) a1 s)
theorem hyX7_daysTillDone : yX7_daysTillDone.cls ≠ "java/lang/invoke/MethodHandle" ∧ yX7_daysTillDone.cls ≠ "java/lang/invoke/VarHandle" ∧ (parseMethodDescriptor yX7_daysTillDone.desc).map (fun d => d.parameters.length) = some 1 := by decide +kernel
set_option maxRecDepth 20000 in
set_option maxHeartbeats 4000000 in
theorem tM_X7_daysTillDone_L6 {X : Cx} (K : Ok X cX7_daysTillDone RX7 3 4) (hR : RI X cX7_daysTillDone) (x1 : Int32) (kk : St → Option (Int32 × St)) (hkk : ∀ (s : St), G X 48 [.null, .null, .null] [] s (kk s)) : ∀ (fu : Nat) (x2 : Int32) (s : St), G X 6 [.ref (X.B + 67), .int x1, .int x2] [] s (M_X7_daysTillDone_L6 x1 kk fu x2 s) := by
  intro fu
  induction fu with
  | zero => intro x2 s; exact g_none
  | succ fu ih =>
    intro x2 s
    rw [M_X7_daysTillDone_L6]
    refine g_iload_n (pc := 6) K 2 dX7_daysTillDone_6 rfl rfl ?_
    refine g_bipush (pc := 7) K (60) dX7_daysTillDone_7 (by decide) ?_
    refine g_icmp_gt (pc := 9) K 48 dX7_daysTillDone_9 (by decide) ?_ ?_
    · exact g_wk (hkk  s) trivial
    · refine g_iload_n (pc := 12) K 1 dX7_daysTillDone_12 rfl rfl ?_
      refine g_jn (κ := Int32 → St → Option (Int32 × St)) (fun kj3 => ∀ (v4 : Int32) (s5 : St), G X 31 [.ref (X.B + 67), .int x1, .int x2] [.int v4] s5 (kj3 v4 s5)) (fun v4 s5 => ?_) (fun kj3 hkj3 => ?_)
      · refine g_if_ne (pc := 31) K 36 dX7_daysTillDone_31 (by decide) ?_ ?_
        · refine g_aload_n (pc := 36) K 0 dX7_daysTillDone_36 rfl rfl ?_
          refine g_iconst (pc := 37) K (1) dX7_daysTillDone_37 (by decide) ?_
          refine g_callV (pc := 38) (S := []) K (qX7_goesBy X.E (1)) (by decide) (ci := 7) rfl (fun _ => ⟨_, ce_7 kd_67⟩) (by decide) (by decide) wcX7_goesBy wiX7 kX7_136 wmX7_goesBy weX7_goesBy hyX7_goesBy rfl rfl (Nat.le_of_ble_eq_true rfl) dX7_daysTillDone_38 (fun r6 s7 => ?_)
          change G X 41 [.ref (X.B + 67), .int x1, .int x2] [.int r6] s7 _
          refine g_pop (pc := 41) K dX7_daysTillDone_41 rfl ?_
          refine g_iinc (pc := 42) K (1) dX7_daysTillDone_42 rfl (by decide) (by decide) ?_
          change G X 45 [.ref (X.B + 67), .int x1, .int (x2 + (1))] [] s7 _
          refine g_goto (pc := 45) K 6 dX7_daysTillDone_45 (by decide) ?_
          exact g_wk (ih (x2 + (1)) s7) ⟨rfl, ⟨rfl, ⟨rfl, trivial⟩⟩⟩
        · refine g_iload_n (pc := 34) K 2 dX7_daysTillDone_34 rfl rfl ?_
          exact g_ir (pc := 35) hR dX7_daysTillDone_35
      · refine g_if_ge (pc := 13) K 23 dX7_daysTillDone_13 (by decide) ?_ ?_
        · refine g_aload_n (pc := 23) K 0 dX7_daysTillDone_23 rfl rfl ?_
          refine gg_7_22 (pc := 24) K (by decide) kd_67 kX7_41 dX7_daysTillDone_24 ?_
          refine g_iconst (pc := 27) K (2) dX7_daysTillDone_27 (by decide) ?_
          refine g_iload_n (pc := 28) K 1 dX7_daysTillDone_28 rfl rfl ?_
          refine g_iadd (pc := 29) K dX7_daysTillDone_29 ?_
          refine g_iaload (pc := 30) K (by decide) kd_78 ln_78 dX7_daysTillDone_30 (fun v8 => ?_)
          exact g_wk (hkj3 v8 s) ⟨rfl, ⟨rfl, ⟨rfl, trivial⟩⟩⟩
        · refine g_aload_n (pc := 16) K 0 dX7_daysTillDone_16 rfl rfl ?_
          refine g_callV (pc := 17) (S := []) K (qX7_leftAll X.E ) (by decide) (ci := 7) rfl (fun _ => ⟨_, ce_7 kd_67⟩) (by decide) (by decide) wcX7_leftAll wiX7 kX7_139 wmX7_leftAll weX7_leftAll hyX7_leftAll rfl rfl (Nat.le_of_ble_eq_true rfl) dX7_daysTillDone_17 (fun r9 s10 => ?_)
          change G X 20 [.ref (X.B + 67), .int x1, .int x2] [.int r9] s10 _
          refine g_goto (pc := 20) K 31 dX7_daysTillDone_20 (by decide) ?_
          exact g_wk (hkj3 r9 s10) ⟨rfl, ⟨rfl, ⟨rfl, trivial⟩⟩⟩
set_option maxRecDepth 20000 in
set_option maxHeartbeats 4000000 in
theorem tX7_daysTillDone {X : Cx} (K : Ok X cX7_daysTillDone RX7 3 4) (hR : RI X cX7_daysTillDone) (a1 : Int32) (s : St) : G X 0 [.ref (X.B + 67), .int a1, .null] [] s (M_X7_daysTillDone a1 s) := by
  unfold M_X7_daysTillDone
  refine g_aload_n (pc := 0) K 0 dX7_daysTillDone_0 rfl rfl ?_
  refine g_callV (pc := 1) (S := []) K (qX7_asItIs X.E ) (by decide) (ci := 7) rfl (fun _ => ⟨_, ce_7 kd_67⟩) (by decide) (by decide) wcX7_asItIs wiX7 kX7_133 wmX7_asItIs weX7_asItIs hyX7_asItIs rfl rfl (Nat.le_of_ble_eq_true rfl) dX7_daysTillDone_1 (fun r1 s2 => ?_)
  change G X 4 [.ref (X.B + 67), .int a1, .null] [] s2 _
  refine g_iconst (pc := 4) K (0) dX7_daysTillDone_4 (by decide) ?_
  refine g_istore_n (pc := 5) K 2 dX7_daysTillDone_5 rfl (by decide) ?_
  change G X 6 [.ref (X.B + 67), .int a1, .int (0)] [] s2 _
  refine g_weak (L' := [.ref (X.B + 67), .int a1, .int (0)]) ⟨rfl, ⟨rfl, ⟨rfl, trivial⟩⟩⟩ ?_
  refine tM_X7_daysTillDone_L6 K hR a1 _ (fun s11 => ?_) 400 (0) s2
  refine g_bipush (pc := 48) K (-9) dX7_daysTillDone_48 (by decide) ?_
  exact g_ir (pc := 50) hR dX7_daysTillDone_50
theorem qX7_daysTillDone (E : Ce) (a1 : Int32) : Con E yX7_daysTillDone cX7_daysTillDone 3 (some .int) 4 [.ref (E.B + 67), .int a1] (M_X7_daysTillDone a1) :=
  Con.of (by decide) (List.forall_mem_cons.mpr ⟨rfl, List.forall_mem_cons.mpr ⟨rfl, fun _ h => absurd h List.not_mem_nil⟩⟩) (Nat.le_of_ble_eq_true rfl) (Or.inr (Or.inl rfl)) [.ref (E.B + 67), .int a1, .null] ⟨rfl, ⟨rfl, trivial⟩⟩ (fun X s hE hok hI hZ hV => by subst hE; exact tX7_daysTillDone hok (hI rfl) a1 s)
theorem hyX7_hangWith : yX7_hangWith.cls ≠ "java/lang/invoke/MethodHandle" ∧ yX7_hangWith.cls ≠ "java/lang/invoke/VarHandle" ∧ (parseMethodDescriptor yX7_hangWith.desc).map (fun d => d.parameters.length) = some 1 := by decide +kernel
set_option maxRecDepth 20000 in
set_option maxHeartbeats 4000000 in
theorem tM_X7_hangWith_L4 {X : Cx} (K : Ok X cX7_hangWith RX7 4 1) (hR : RI X cX7_hangWith) (x1 : Int32) (kk : Int32 → St → Option (Int32 × St)) (hkk : ∀ (x2 : Int32) (s : St), G X 41 [.null, .null, .int x2, .null] [] s (kk x2 s)) : ∀ (fu : Nat) (x2 x3 : Int32) (s : St), G X 4 [.ref (X.B + 67), .int x1, .int x2, .int x3] [] s (M_X7_hangWith_L4 x1 kk fu x2 x3 s) := by
  intro fu
  induction fu with
  | zero => intro x2 x3 s; exact g_none
  | succ fu ih =>
    intro x2 x3 s
    rw [M_X7_hangWith_L4]
    refine g_iload_n (pc := 4) K 3 dX7_hangWith_4 rfl rfl ?_
    refine g_aload_n (pc := 5) K 0 dX7_hangWith_5 rfl rfl ?_
    refine gg_7_0 (pc := 6) K (by decide) kd_67 kX7_47 dX7_hangWith_6 ?_
    refine g_icmp_ge (pc := 9) K 41 dX7_hangWith_9 (by decide) ?_ ?_
    · exact g_wk (hkk x2 s) ⟨rfl, trivial⟩
    · refine g_iload_n (pc := 12) K 2 dX7_hangWith_12 rfl rfl ?_
      refine g_aload_n (pc := 13) K 0 dX7_hangWith_13 rfl rfl ?_
      refine gg_7_4 (pc := 14) K (by decide) kd_67 kX7_19 dX7_hangWith_14 ?_
      refine g_bipush (pc := 17) K (8) dX7_hangWith_17 (by decide) ?_
      refine g_iload_n (pc := 19) K 3 dX7_hangWith_19 rfl rfl ?_
      refine g_iadd (pc := 20) K dX7_hangWith_20 ?_
      refine g_iaload (pc := 21) K (by decide) kd_71 ln_71 dX7_hangWith_21 (fun v1 => ?_)
      refine g_iload_n (pc := 22) K 1 dX7_hangWith_22 rfl rfl ?_
      refine g_jn (κ := Int32 → St → Option (Int32 × St)) (fun kj2 => ∀ (v3 : Int32) (s4 : St), G X 33 [.ref (X.B + 67), .int x1, .null, .int x3] [.int v3, .int x2] s4 (kj2 v3 s4)) (fun v3 s4 => ?_) (fun kj2 hkj2 => ?_)
      · refine g_ior (pc := 33) K dX7_hangWith_33 ?_
        refine g_istore_n (pc := 34) K 2 dX7_hangWith_34 rfl (by decide) ?_
        change G X 35 [.ref (X.B + 67), .int x1, .int (x2 ||| v3), .int x3] [] s4 _
        refine g_iinc (pc := 35) K (1) dX7_hangWith_35 rfl (by decide) (by decide) ?_
        change G X 38 [.ref (X.B + 67), .int x1, .int (x2 ||| v3), .int (x3 + (1))] [] s4 _
        refine g_goto (pc := 38) K 4 dX7_hangWith_38 (by decide) ?_
        exact g_wk (ih (x2 ||| v3) (x3 + (1)) s4) ⟨rfl, ⟨rfl, ⟨rfl, ⟨rfl, trivial⟩⟩⟩⟩
      · refine g_icmp_ne (pc := 23) K 32 dX7_hangWith_23 (by decide) ?_ ?_
        · refine g_iconst (pc := 32) K (0) dX7_hangWith_32 (by decide) ?_
          exact g_wk (hkj2 (0) s) ⟨rfl, ⟨rfl, ⟨rfl, trivial⟩⟩⟩
        · refine g_iconst (pc := 26) K (1) dX7_hangWith_26 (by decide) ?_
          refine g_iload_n (pc := 27) K 3 dX7_hangWith_27 rfl rfl ?_
          refine g_ishl (pc := 28) K dX7_hangWith_28 ?_
          refine g_goto (pc := 29) K 33 dX7_hangWith_29 (by decide) ?_
          exact g_wk (hkj2 ((1) <<< (x3 &&& 31)) s) ⟨rfl, ⟨rfl, ⟨rfl, trivial⟩⟩⟩
set_option maxRecDepth 20000 in
set_option maxHeartbeats 4000000 in
theorem tX7_hangWith {X : Cx} (K : Ok X cX7_hangWith RX7 4 1) (hR : RI X cX7_hangWith) (a1 : Int32) (s : St) : G X 0 [.ref (X.B + 67), .int a1, .null, .null] [] s (M_X7_hangWith a1 s) := by
  unfold M_X7_hangWith
  refine g_iconst (pc := 0) K (0) dX7_hangWith_0 (by decide) ?_
  refine g_istore_n (pc := 1) K 2 dX7_hangWith_1 rfl (by decide) ?_
  change G X 2 [.ref (X.B + 67), .int a1, .int (0), .null] [] s _
  refine g_iconst (pc := 2) K (0) dX7_hangWith_2 (by decide) ?_
  refine g_istore_n (pc := 3) K 3 dX7_hangWith_3 rfl (by decide) ?_
  change G X 4 [.ref (X.B + 67), .int a1, .int (0), .int (0)] [] s _
  refine g_weak (L' := [.ref (X.B + 67), .int a1, .int (0), .int (0)]) ⟨rfl, ⟨rfl, ⟨rfl, ⟨rfl, trivial⟩⟩⟩⟩ ?_
  refine tM_X7_hangWith_L4 K hR a1 _ (fun v5 s6 => ?_) 400 (0) (0) s
  refine g_iload_n (pc := 41) K 2 dX7_hangWith_41 rfl rfl ?_
  exact g_ir (pc := 42) hR dX7_hangWith_42
theorem qX7_hangWith (E : Ce) (a1 : Int32) : Con E yX7_hangWith cX7_hangWith 4 (some .int) 1 [.ref (E.B + 67), .int a1] (M_X7_hangWith a1) :=
  Con.of (by decide) (List.forall_mem_cons.mpr ⟨rfl, List.forall_mem_cons.mpr ⟨rfl, fun _ h => absurd h List.not_mem_nil⟩⟩) (Nat.le_of_ble_eq_true rfl) (Or.inr (Or.inl rfl)) [.ref (E.B + 67), .int a1, .null, .null] ⟨rfl, ⟨rfl, trivial⟩⟩ (fun X s hE hok hI hZ hV => by subst hE; exact tX7_hangWith hok (hI rfl) a1 s)
theorem hyX7_ring : yX7_ring.cls ≠ "java/lang/invoke/MethodHandle" ∧ yX7_ring.cls ≠ "java/lang/invoke/VarHandle" ∧ (parseMethodDescriptor yX7_ring.desc).map (fun d => d.parameters.length) = some 1 := by decide +kernel
set_option maxRecDepth 20000 in
set_option maxHeartbeats 4000000 in
theorem tM_X7_ring_L4 {X : Cx} (K : Ok X cX7_ring RX7 4 1) (hR : RI X cX7_ring) (x1 : Int32) (kk : St → Option (Int32 × St)) (hkk : ∀ (s : St), G X 35 [.null, .null, .null, .null] [] s (kk s)) : ∀ (fu : Nat) (x2 x3 : Int32) (s : St), G X 4 [.ref (X.B + 67), .int x1, .int x2, .int x3] [] s (M_X7_ring_L4 x1 kk fu x2 x3 s) := by
  intro fu
  induction fu with
  | zero => intro x2 x3 s; exact g_none
  | succ fu ih =>
    intro x2 x3 s
    rw [M_X7_ring_L4]
    refine g_iload_n (pc := 4) K 3 dX7_ring_4 rfl rfl ?_
    refine g_aload_n (pc := 5) K 0 dX7_ring_5 rfl rfl ?_
    refine gg_7_0 (pc := 6) K (by decide) kd_67 kX7_47 dX7_ring_6 ?_
    refine g_icmp_gt (pc := 9) K 35 dX7_ring_9 (by decide) ?_ ?_
    · exact g_wk (hkk  s) trivial
    · refine g_aload_n (pc := 12) K 0 dX7_ring_12 rfl rfl ?_
      refine gg_7_4 (pc := 13) K (by decide) kd_67 kX7_19 dX7_ring_13 ?_
      refine g_bipush (pc := 16) K (8) dX7_ring_16 (by decide) ?_
      refine g_iload_n (pc := 18) K 2 dX7_ring_18 rfl rfl ?_
      refine g_iadd (pc := 19) K dX7_ring_19 ?_
      refine g_iaload (pc := 20) K (by decide) kd_71 ln_71 dX7_ring_20 (fun v1 => ?_)
      refine g_istore_n (pc := 21) K 2 dX7_ring_21 rfl (by decide) ?_
      change G X 22 [.ref (X.B + 67), .int x1, .int v1, .int x3] [] s _
      refine g_iload_n (pc := 22) K 2 dX7_ring_22 rfl rfl ?_
      refine g_iload_n (pc := 23) K 1 dX7_ring_23 rfl rfl ?_
      refine g_icmp_ne (pc := 24) K 29 dX7_ring_24 (by decide) ?_ ?_
      · refine g_iinc (pc := 29) K (1) dX7_ring_29 rfl (by decide) (by decide) ?_
        change G X 32 [.ref (X.B + 67), .int x1, .int v1, .int (x3 + (1))] [] s _
        refine g_goto (pc := 32) K 4 dX7_ring_32 (by decide) ?_
        exact g_wk (ih v1 (x3 + (1)) s) ⟨rfl, ⟨rfl, ⟨rfl, ⟨rfl, trivial⟩⟩⟩⟩
      · refine g_iload_n (pc := 27) K 3 dX7_ring_27 rfl rfl ?_
        exact g_ir (pc := 28) hR dX7_ring_28
set_option maxRecDepth 20000 in
set_option maxHeartbeats 4000000 in
theorem tX7_ring {X : Cx} (K : Ok X cX7_ring RX7 4 1) (hR : RI X cX7_ring) (a1 : Int32) (s : St) : G X 0 [.ref (X.B + 67), .int a1, .null, .null] [] s (M_X7_ring a1 s) := by
  unfold M_X7_ring
  refine g_iload_n (pc := 0) K 1 dX7_ring_0 rfl rfl ?_
  refine g_istore_n (pc := 1) K 2 dX7_ring_1 rfl (by decide) ?_
  change G X 2 [.ref (X.B + 67), .int a1, .int a1, .null] [] s _
  refine g_iconst (pc := 2) K (1) dX7_ring_2 (by decide) ?_
  refine g_istore_n (pc := 3) K 3 dX7_ring_3 rfl (by decide) ?_
  change G X 4 [.ref (X.B + 67), .int a1, .int a1, .int (1)] [] s _
  refine g_weak (L' := [.ref (X.B + 67), .int a1, .int a1, .int (1)]) ⟨rfl, ⟨rfl, ⟨rfl, ⟨rfl, trivial⟩⟩⟩⟩ ?_
  refine tM_X7_ring_L4 K hR a1 _ (fun s2 => ?_) 400 a1 (1) s
  refine g_iconst (pc := 35) K (0) dX7_ring_35 (by decide) ?_
  exact g_ir (pc := 36) hR dX7_ring_36
theorem qX7_ring (E : Ce) (a1 : Int32) : Con E yX7_ring cX7_ring 4 (some .int) 1 [.ref (E.B + 67), .int a1] (M_X7_ring a1) :=
  Con.of (by decide) (List.forall_mem_cons.mpr ⟨rfl, List.forall_mem_cons.mpr ⟨rfl, fun _ h => absurd h List.not_mem_nil⟩⟩) (Nat.le_of_ble_eq_true rfl) (Or.inr (Or.inl rfl)) [.ref (E.B + 67), .int a1, .null, .null] ⟨rfl, ⟨rfl, trivial⟩⟩ (fun X s hE hok hI hZ hV => by subst hE; exact tX7_ring hok (hI rfl) a1 s)
theorem hyX7_farmer : yX7_farmer.cls ≠ "java/lang/invoke/MethodHandle" ∧ yX7_farmer.cls ≠ "java/lang/invoke/VarHandle" ∧ (parseMethodDescriptor yX7_farmer.desc).map (fun d => d.parameters.length) = some 2 := by decide +kernel
set_option maxRecDepth 20000 in
set_option maxHeartbeats 4000000 in
theorem tX7_farmer {X : Cx} (K : Ok X cX7_farmer RX7 3 5) (hR : RI X cX7_farmer) (a1 : Int32) (a2 : Int32) (s : St) : G X 0 [.ref (X.B + 67), .int a1, .int a2] [] s (M_X7_farmer a1 a2 s) := by
  unfold M_X7_farmer
  refine g_aload_n (pc := 0) K 0 dX7_farmer_0 rfl rfl ?_
  refine g_iload_n (pc := 1) K 1 dX7_farmer_1 rfl rfl ?_
  refine g_callV (pc := 2) (S := []) K (qX7_isFarmer X.E a1) (by decide) (ci := 7) rfl (fun _ => ⟨_, ce_7 kd_67⟩) (by decide) (by decide) wcX7_isFarmer wiX7 kX7_143 wmX7_isFarmer weX7_isFarmer hyX7_isFarmer rfl rfl (Nat.le_of_ble_eq_true rfl) dX7_farmer_2 (fun r1 s2 => ?_)
  change G X 5 [.ref (X.B + 67), .int a1, .int a2] [.int r1] s2 _
  refine g_if_ne (pc := 5) K 10 dX7_farmer_5 (by decide) ?_ ?_
  · refine g_iload_n (pc := 10) K 2 dX7_farmer_10 rfl rfl ?_
    refine g_case (pc := 11) (0) ?_ (fun n4 => ?_)
    · refine g_tin (pc := 11) (off := 53) K 64 dX7_farmer_11 (by decide) (by decide) (by decide) (by decide) ?_
      refine g_aload_n (pc := 64) K 0 dX7_farmer_64 rfl rfl ?_
      refine gg_7_1 (pc := 65) K (by decide) kd_67 kX7_7 dX7_farmer_65 ?_
      refine g_iload_n (pc := 68) K 1 dX7_farmer_68 rfl rfl ?_
      refine g_iaload (pc := 69) K (by decide) kd_68 ln_68 dX7_farmer_69 (fun v3 => ?_)
      exact g_ir (pc := 70) hR dX7_farmer_70
    refine g_case (pc := 11) (1) ?_ (fun n6 => ?_)
    · refine g_tin (pc := 11) (off := 60) K 71 dX7_farmer_11 (by decide) (by decide) (by decide) (by decide) ?_
      refine g_aload_n (pc := 71) K 0 dX7_farmer_71 rfl rfl ?_
      refine gg_7_4 (pc := 72) K (by decide) kd_67 kX7_19 dX7_farmer_72 ?_
      refine g_iconst (pc := 75) K (2) dX7_farmer_75 (by decide) ?_
      refine g_iload_n (pc := 76) K 1 dX7_farmer_76 rfl rfl ?_
      refine g_iadd (pc := 77) K dX7_farmer_77 ?_
      refine g_iaload (pc := 78) K (by decide) kd_71 ln_71 dX7_farmer_78 (fun v5 => ?_)
      exact g_ir (pc := 79) hR dX7_farmer_79
    refine g_case (pc := 11) (2) ?_ (fun n8 => ?_)
    · refine g_tin (pc := 11) (off := 69) K 80 dX7_farmer_11 (by decide) (by decide) (by decide) (by decide) ?_
      refine g_aload_n (pc := 80) K 0 dX7_farmer_80 rfl rfl ?_
      refine gg_7_2 (pc := 81) K (by decide) kd_67 kX7_13 dX7_farmer_81 ?_
      refine g_iload_n (pc := 84) K 1 dX7_farmer_84 rfl rfl ?_
      refine g_iaload (pc := 85) K (by decide) kd_69 ln_69 dX7_farmer_85 (fun v7 => ?_)
      exact g_ir (pc := 86) hR dX7_farmer_86
    refine g_case (pc := 11) (3) ?_ (fun n10 => ?_)
    · refine g_tin (pc := 11) (off := 76) K 87 dX7_farmer_11 (by decide) (by decide) (by decide) (by decide) ?_
      refine g_aload_n (pc := 87) K 0 dX7_farmer_87 rfl rfl ?_
      refine gg_7_3 (pc := 88) K (by decide) kd_67 kX7_16 dX7_farmer_88 ?_
      refine g_iload_n (pc := 91) K 1 dX7_farmer_91 rfl rfl ?_
      refine g_iaload (pc := 92) K (by decide) kd_70 ln_70 dX7_farmer_92 (fun v9 => ?_)
      exact g_ir (pc := 93) hR dX7_farmer_93
    refine g_case (pc := 11) (4) ?_ (fun n12 => ?_)
    · refine g_tin (pc := 11) (off := 83) K 94 dX7_farmer_11 (by decide) (by decide) (by decide) (by decide) ?_
      refine g_aload_n (pc := 94) K 0 dX7_farmer_94 rfl rfl ?_
      refine gg_7_4 (pc := 95) K (by decide) kd_67 kX7_19 dX7_farmer_95 ?_
      refine g_bipush (pc := 98) K (8) dX7_farmer_98 (by decide) ?_
      refine g_iload_n (pc := 100) K 1 dX7_farmer_100 rfl rfl ?_
      refine g_iadd (pc := 101) K dX7_farmer_101 ?_
      refine g_iaload (pc := 102) K (by decide) kd_71 ln_71 dX7_farmer_102 (fun v11 => ?_)
      exact g_ir (pc := 103) hR dX7_farmer_103
    refine g_case (pc := 11) (5) ?_ (fun n14 => ?_)
    · refine g_tin (pc := 11) (off := 93) K 104 dX7_farmer_11 (by decide) (by decide) (by decide) (by decide) ?_
      refine g_aload_n (pc := 104) K 0 dX7_farmer_104 rfl rfl ?_
      refine gg_7_4 (pc := 105) K (by decide) kd_67 kX7_19 dX7_farmer_105 ?_
      refine g_iconst (pc := 108) K (1) dX7_farmer_108 (by decide) ?_
      refine g_iaload (pc := 109) K (by decide) kd_71 ln_71 dX7_farmer_109 (fun v13 => ?_)
      refine g_iload_n (pc := 110) K 1 dX7_farmer_110 rfl rfl ?_
      refine g_ishr (pc := 111) K dX7_farmer_111 ?_
      refine g_iconst (pc := 112) K (1) dX7_farmer_112 (by decide) ?_
      refine g_iand (pc := 113) K dX7_farmer_113 ?_
      exact g_ir (pc := 114) hR dX7_farmer_114
    refine g_case (pc := 11) (6) ?_ (fun n17 => ?_)
    · refine g_tin (pc := 11) (off := 104) K 115 dX7_farmer_11 (by decide) (by decide) (by decide) (by decide) ?_
      refine g_aload_n (pc := 115) K 0 dX7_farmer_115 rfl rfl ?_
      refine g_iload_n (pc := 116) K 1 dX7_farmer_116 rfl rfl ?_
      refine g_callV (pc := 117) (S := []) K (qX7_hangWith X.E a1) (by decide) (ci := 7) rfl (fun _ => ⟨_, ce_7 kd_67⟩) (by decide) (by decide) wcX7_hangWith wiX7 kX7_146 wmX7_hangWith weX7_hangWith hyX7_hangWith rfl rfl (Nat.le_of_ble_eq_true rfl) dX7_farmer_117 (fun r15 s16 => ?_)
      change G X 120 [.ref (X.B + 67), .int a1, .int a2] [.int r15] s16 _
      exact g_ir (pc := 120) hR dX7_farmer_120
    refine g_case (pc := 11) (7) ?_ (fun n20 => ?_)
    · refine g_tin (pc := 11) (off := 110) K 121 dX7_farmer_11 (by decide) (by decide) (by decide) (by decide) ?_
      refine g_aload_n (pc := 121) K 0 dX7_farmer_121 rfl rfl ?_
      refine g_iload_n (pc := 122) K 1 dX7_farmer_122 rfl rfl ?_
      refine g_callV (pc := 123) (S := []) K (qX7_ring X.E a1) (by decide) (ci := 7) rfl (fun _ => ⟨_, ce_7 kd_67⟩) (by decide) (by decide) wcX7_ring wiX7 kX7_149 wmX7_ring weX7_ring hyX7_ring rfl rfl (Nat.le_of_ble_eq_true rfl) dX7_farmer_123 (fun r18 s19 => ?_)
      change G X 126 [.ref (X.B + 67), .int a1, .int a2] [.int r18] s19 _
      exact g_ir (pc := 126) hR dX7_farmer_126
    refine g_case (pc := 11) (8) ?_ (fun n23 => ?_)
    · refine g_tin (pc := 11) (off := 116) K 127 dX7_farmer_11 (by decide) (by decide) (by decide) (by decide) ?_
      refine g_aload_n (pc := 127) K 0 dX7_farmer_127 rfl rfl ?_
      refine g_iload_n (pc := 128) K 1 dX7_farmer_128 rfl rfl ?_
      refine g_callV (pc := 129) (S := []) K (qX7_daysTillAsked X.E a1) (by decide) (ci := 7) rfl (fun _ => ⟨_, ce_7 kd_67⟩) (by decide) (by decide) wcX7_daysTillAsked wiX7 kX7_152 wmX7_daysTillAsked weX7_daysTillAsked hyX7_daysTillAsked rfl rfl (Nat.le_of_ble_eq_true rfl) dX7_farmer_129 (fun r21 s22 => ?_)
      change G X 132 [.ref (X.B + 67), .int a1, .int a2] [.int r21] s22 _
      exact g_ir (pc := 132) hR dX7_farmer_132
    refine g_case (pc := 11) (9) ?_ (fun n26 => ?_)
    · refine g_tin (pc := 11) (off := 122) K 133 dX7_farmer_11 (by decide) (by decide) (by decide) (by decide) ?_
      refine g_aload_n (pc := 133) K 0 dX7_farmer_133 rfl rfl ?_
      refine g_iload_n (pc := 134) K 1 dX7_farmer_134 rfl rfl ?_
      refine g_callV (pc := 135) (S := []) K (qX7_daysTillDone X.E a1) (by decide) (ci := 7) rfl (fun _ => ⟨_, ce_7 kd_67⟩) (by decide) (by decide) wcX7_daysTillDone wiX7 kX7_155 wmX7_daysTillDone weX7_daysTillDone hyX7_daysTillDone rfl rfl (Nat.le_of_ble_eq_true rfl) dX7_farmer_135 (fun r24 s25 => ?_)
      change G X 138 [.ref (X.B + 67), .int a1, .int a2] [.int r24] s25 _
      exact g_ir (pc := 138) hR dX7_farmer_138
    refine g_tout (pc := 11) K 139 dX7_farmer_11 (by have an4 := lv_neT n4 (a := 0) (by decide); have an6 := lv_neT n6 (a := 1) (by decide); have an8 := lv_neT n8 (a := 2) (by decide); have an10 := lv_neT n10 (a := 3) (by decide); have an12 := lv_neT n12 (a := 4) (by decide); have an14 := lv_neT n14 (a := 5) (by decide); have an17 := lv_neT n17 (a := 6) (by decide); have an20 := lv_neT n20 (a := 7) (by decide); have an23 := lv_neT n23 (a := 8) (by decide); have an26 := lv_neT n26 (a := 9) (by decide); omega) (by decide) ?_
    refine g_iconst (pc := 139) K (-1) dX7_farmer_139 (by decide) ?_
    exact g_ir (pc := 140) hR dX7_farmer_140
  · refine g_iconst (pc := 8) K (-1) dX7_farmer_8 (by decide) ?_
    exact g_ir (pc := 9) hR dX7_farmer_9
theorem qX7_farmer (E : Ce) (a1 : Int32) (a2 : Int32) : Con E yX7_farmer cX7_farmer 3 (some .int) 5 [.ref (E.B + 67), .int a1, .int a2] (M_X7_farmer a1 a2) :=
  Con.of (by decide) (List.forall_mem_cons.mpr ⟨rfl, List.forall_mem_cons.mpr ⟨rfl, List.forall_mem_cons.mpr ⟨rfl, fun _ h => absurd h List.not_mem_nil⟩⟩⟩) (Nat.le_of_ble_eq_true rfl) (Or.inr (Or.inl rfl)) [.ref (E.B + 67), .int a1, .int a2] ⟨rfl, ⟨rfl, ⟨rfl, trivial⟩⟩⟩ (fun X s hE hok hI hZ hV => by subst hE; exact tX7_farmer hok (hI rfl) a1 a2 s)
theorem hyX7_now : yX7_now.cls ≠ "java/lang/invoke/MethodHandle" ∧ yX7_now.cls ≠ "java/lang/invoke/VarHandle" ∧ (parseMethodDescriptor yX7_now.desc).map (fun d => d.parameters.length) = some 1 := by decide +kernel
set_option maxRecDepth 20000 in
set_option maxHeartbeats 4000000 in
theorem tX7_now {X : Cx} (K : Ok X cX7_now RX7 2 5) (hR : RI X cX7_now) (a1 : Int32) (s : St) : G X 0 [.ref (X.B + 67), .int a1] [] s (M_X7_now a1 s) := by
  unfold M_X7_now
  refine g_aload_n (pc := 0) K 0 dX7_now_0 rfl rfl ?_
  refine g_callV (pc := 1) (S := []) K (qX7_asItIs X.E ) (by decide) (ci := 7) rfl (fun _ => ⟨_, ce_7 kd_67⟩) (by decide) (by decide) wcX7_asItIs wiX7 kX7_133 wmX7_asItIs weX7_asItIs hyX7_asItIs rfl rfl (Nat.le_of_ble_eq_true rfl) dX7_now_1 (fun r1 s2 => ?_)
  change G X 4 [.ref (X.B + 67), .int a1] [] s2 _
  refine g_iload_n (pc := 4) K 1 dX7_now_4 rfl rfl ?_
  refine g_case (pc := 5) (0) ?_ (fun n4 => ?_)
  · refine g_tin (pc := 5) (off := 35) K 40 dX7_now_5 (by decide) (by decide) (by decide) (by decide) ?_
    refine g_aload_n (pc := 40) K 0 dX7_now_40 rfl rfl ?_
    refine gg_7_4 (pc := 41) K (by decide) kd_67 kX7_19 dX7_now_41 ?_
    refine g_iconst (pc := 44) K (0) dX7_now_44 (by decide) ?_
    refine g_iaload (pc := 45) K (by decide) kd_71 ln_71 dX7_now_45 (fun v3 => ?_)
    exact g_ir (pc := 46) hR dX7_now_46
  refine g_case (pc := 5) (1) ?_ (fun n6 => ?_)
  · refine g_tin (pc := 5) (off := 42) K 47 dX7_now_5 (by decide) (by decide) (by decide) (by decide) ?_
    refine g_aload_n (pc := 47) K 0 dX7_now_47 rfl rfl ?_
    refine gg_7_4 (pc := 48) K (by decide) kd_67 kX7_19 dX7_now_48 ?_
    refine g_iconst (pc := 51) K (1) dX7_now_51 (by decide) ?_
    refine g_iaload (pc := 52) K (by decide) kd_71 ln_71 dX7_now_52 (fun v5 => ?_)
    exact g_ir (pc := 53) hR dX7_now_53
  refine g_case (pc := 5) (2) ?_ (fun n9 => ?_)
  · refine g_tin (pc := 5) (off := 49) K 54 dX7_now_5 (by decide) (by decide) (by decide) (by decide) ?_
    refine g_aload_n (pc := 54) K 0 dX7_now_54 rfl rfl ?_
    refine g_callV (pc := 55) (S := []) K (qX7_leftAll X.E ) (by decide) (ci := 7) rfl (fun _ => ⟨_, ce_7 kd_67⟩) (by decide) (by decide) wcX7_leftAll wiX7 kX7_139 wmX7_leftAll weX7_leftAll hyX7_leftAll rfl rfl (Nat.le_of_ble_eq_true rfl) dX7_now_55 (fun r7 s8 => ?_)
    change G X 58 [.ref (X.B + 67), .int a1] [.int r7] s8 _
    exact g_ir (pc := 58) hR dX7_now_58
  refine g_case (pc := 5) (3) ?_ (fun n12 => ?_)
  · refine g_tin (pc := 5) (off := 54) K 59 dX7_now_5 (by decide) (by decide) (by decide) (by decide) ?_
    refine g_aload_n (pc := 59) K 0 dX7_now_59 rfl rfl ?_
    refine g_iconst (pc := 60) K (-1) dX7_now_60 (by decide) ?_
    refine g_callV (pc := 61) (S := []) K (qX7_daysTillDone X.E (-1)) (by decide) (ci := 7) rfl (fun _ => ⟨_, ce_7 kd_67⟩) (by decide) (by decide) wcX7_daysTillDone wiX7 kX7_155 wmX7_daysTillDone weX7_daysTillDone hyX7_daysTillDone rfl rfl (Nat.le_of_ble_eq_true rfl) dX7_now_61 (fun r10 s11 => ?_)
    change G X 64 [.ref (X.B + 67), .int a1] [.int r10] s11 _
    exact g_ir (pc := 64) hR dX7_now_64
  refine g_case (pc := 5) (4) ?_ (fun n13 => ?_)
  · refine g_tin (pc := 5) (off := 60) K 65 dX7_now_5 (by decide) (by decide) (by decide) (by decide) ?_
    refine g_aload_n (pc := 65) K 0 dX7_now_65 rfl rfl ?_
    refine gg_7_6 (pc := 66) K (by decide) kd_67 kX7_104 dX7_now_66 ?_
    exact g_ir (pc := 69) hR dX7_now_69
  refine g_tout (pc := 5) K 70 dX7_now_5 (by have an4 := lv_neT n4 (a := 0) (by decide); have an6 := lv_neT n6 (a := 1) (by decide); have an9 := lv_neT n9 (a := 2) (by decide); have an12 := lv_neT n12 (a := 3) (by decide); have an13 := lv_neT n13 (a := 4) (by decide); omega) (by decide) ?_
  refine g_iconst (pc := 70) K (-1) dX7_now_70 (by decide) ?_
  exact g_ir (pc := 71) hR dX7_now_71
theorem qX7_now (E : Ce) (a1 : Int32) : Con E yX7_now cX7_now 2 (some .int) 5 [.ref (E.B + 67), .int a1] (M_X7_now a1) :=
  Con.of (by decide) (List.forall_mem_cons.mpr ⟨rfl, List.forall_mem_cons.mpr ⟨rfl, fun _ h => absurd h List.not_mem_nil⟩⟩) (Nat.le_of_ble_eq_true rfl) (Or.inr (Or.inl rfl)) [.ref (E.B + 67), .int a1] ⟨rfl, ⟨rfl, trivial⟩⟩ (fun X s hE hok hI hZ hV => by subst hE; exact tX7_now hok (hI rfl) a1 s)
theorem hyX7_remembers : yX7_remembers.cls ≠ "java/lang/invoke/MethodHandle" ∧ yX7_remembers.cls ≠ "java/lang/invoke/VarHandle" ∧ (parseMethodDescriptor yX7_remembers.desc).map (fun d => d.parameters.length) = some 0 := by decide +kernel
set_option maxRecDepth 20000 in
set_option maxHeartbeats 4000000 in
theorem tM_X7_remembers_L11 {X : Cx} (K : Ok X cX7_remembers RX7 2 2) (hR : RV X cX7_remembers) (kk : St → Option (Int32 × St)) (hkk : ∀ (s : St), G X 38 [.ref (X.B + 67), .null] [] s (kk s)) : ∀ (fu : Nat) (x1 : Int32) (s : St), G X 11 [.ref (X.B + 67), .int x1] [] s (M_X7_remembers_L11 kk fu x1 s) := by
  intro fu
  induction fu with
  | zero => intro x1 s; exact g_none
  | succ fu ih =>
    intro x1 s
    rw [M_X7_remembers_L11]
    refine g_iload_n (pc := 11) K 1 dX7_remembers_11 rfl rfl ?_
    refine g_bipush (pc := 12) K (126) dX7_remembers_12 (by decide) ?_
    refine g_icmp_ge (pc := 14) K 38 dX7_remembers_14 (by decide) ?_ ?_
    · exact g_wk (hkk  s) ⟨rfl, trivial⟩
    · refine g_aload_n (pc := 17) K 0 dX7_remembers_17 rfl rfl ?_
      refine gg_7_5 (pc := 18) K (by decide) kd_67 kX7_22 dX7_remembers_18 ?_
      refine g_iload_n (pc := 21) K 1 dX7_remembers_21 rfl rfl ?_
      refine g_aload_n (pc := 22) K 0 dX7_remembers_22 rfl rfl ?_
      refine gg_7_5 (pc := 23) K (by decide) kd_67 kX7_22 dX7_remembers_23 ?_
      refine g_iload_n (pc := 26) K 1 dX7_remembers_26 rfl rfl ?_
      refine g_bipush (pc := 27) K (14) dX7_remembers_27 (by decide) ?_
      refine g_iadd (pc := 29) K dX7_remembers_29 ?_
      refine g_iaload (pc := 30) K (by decide) kd_72 ln_72 dX7_remembers_30 (fun v6 => ?_)
      refine g_iastore (pc := 31) K (by decide) kd_72 ln_72 dX7_remembers_31 (fun s7 => ?_)
      refine g_iinc (pc := 32) K (1) dX7_remembers_32 rfl (by decide) (by decide) ?_
      change G X 35 [.ref (X.B + 67), .int (x1 + (1))] [] s7 _
      refine g_goto (pc := 35) K 11 dX7_remembers_35 (by decide) ?_
      exact g_wk (ih (x1 + (1)) s7) ⟨rfl, ⟨rfl, trivial⟩⟩
set_option maxRecDepth 20000 in
set_option maxHeartbeats 4000000 in
theorem tX7_remembers {X : Cx} (K : Ok X cX7_remembers RX7 2 2) (hR : RV X cX7_remembers) (s : St) : G X 0 [.ref (X.B + 67), .null] [] s (M_X7_remembers s) := by
  unfold M_X7_remembers
  refine g_aload_n (pc := 0) K 0 dX7_remembers_0 rfl rfl ?_
  refine gg_7_6 (pc := 1) K (by decide) kd_67 kX7_104 dX7_remembers_1 ?_
  refine g_bipush (pc := 4) K (10) dX7_remembers_4 (by decide) ?_
  refine g_jn (κ := St → Option (Int32 × St)) (fun kj1 => ∀ (s2 : St), G X 48 [.ref (X.B + 67), .null] [] s2 (kj1 s2)) (fun s2 => ?_) (fun kj1 hkj1 => ?_)
  · refine g_aload_n (pc := 48) K 0 dX7_remembers_48 rfl rfl ?_
    refine gg_7_5 (pc := 49) K (by decide) kd_67 kX7_22 dX7_remembers_49 ?_
    refine g_bipush (pc := 52) K (14) dX7_remembers_52 (by decide) ?_
    refine g_aload_n (pc := 54) K 0 dX7_remembers_54 rfl rfl ?_
    refine gg_7_6 (pc := 55) K (by decide) kd_67 kX7_104 dX7_remembers_55 ?_
    refine g_imul (pc := 58) K dX7_remembers_58 ?_
    refine g_aload_n (pc := 59) K 0 dX7_remembers_59 rfl rfl ?_
    refine gg_7_4 (pc := 60) K (by decide) kd_67 kX7_19 dX7_remembers_60 ?_
    refine g_iconst (pc := 63) K (0) dX7_remembers_63 (by decide) ?_
    refine g_callS (pc := 64) (S := []) K (qX7_copy X.E 72 71 arr_72 arr_71 ((14) * (s2.1 67 6)) (0)) (by decide) (by decide) wcX7_copy wiX7 kX7_110 wtX7_copy hyX7_copy rfl rfl (Nat.le_of_ble_eq_true rfl) dX7_remembers_64 (fun r3 s4 => ?_)
    change G X 67 [.ref (X.B + 67), .null] [] s4 _
    refine g_aload_n (pc := 67) K 0 dX7_remembers_67 rfl rfl ?_
    refine g_dup (pc := 68) K dX7_remembers_68 rfl ?_
    refine gg_7_6 (pc := 69) K (by decide) kd_67 kX7_104 dX7_remembers_69 ?_
    refine g_iconst (pc := 72) K (1) dX7_remembers_72 (by decide) ?_
    refine g_iadd (pc := 73) K dX7_remembers_73 ?_
    refine gp_7_6 (pc := 74) K (by decide) kd_67 kX7_104 dX7_remembers_74 (fun s5 => ?_)
    exact g_vr (pc := 77) hR dX7_remembers_77
  · refine g_icmp_ne (pc := 6) K 48 dX7_remembers_6 (by decide) ?_ ?_
    · exact g_wk (hkj1  s) ⟨rfl, trivial⟩
    · refine g_iconst (pc := 9) K (0) dX7_remembers_9 (by decide) ?_
      refine g_istore_n (pc := 10) K 1 dX7_remembers_10 rfl (by decide) ?_
      change G X 11 [.ref (X.B + 67), .int (0)] [] s _
      refine g_weak (L' := [.ref (X.B + 67), .int (0)]) ⟨rfl, ⟨rfl, trivial⟩⟩ ?_
      refine tM_X7_remembers_L11 K hR  _ (fun s8 => ?_) 400 (0) s
      refine g_aload_n (pc := 38) K 0 dX7_remembers_38 rfl rfl ?_
      refine g_dup (pc := 39) K dX7_remembers_39 rfl ?_
      refine gg_7_6 (pc := 40) K (by decide) kd_67 kX7_104 dX7_remembers_40 ?_
      refine g_iconst (pc := 43) K (1) dX7_remembers_43 (by decide) ?_
      refine g_isub (pc := 44) K dX7_remembers_44 ?_
      refine gp_7_6 (pc := 45) K (by decide) kd_67 kX7_104 dX7_remembers_45 (fun s9 => ?_)
      exact g_wk (hkj1  s9) ⟨rfl, trivial⟩
theorem qX7_remembers (E : Ce) : Con E yX7_remembers cX7_remembers 2 none 2 [.ref (E.B + 67)] (M_X7_remembers) :=
  Con.of (by decide) (List.forall_mem_cons.mpr ⟨rfl, fun _ h => absurd h List.not_mem_nil⟩) (Nat.le_of_ble_eq_true rfl) (Or.inl rfl) [.ref (E.B + 67), .null] ⟨rfl, trivial⟩ (fun X s hE hok hI hZ hV => by subst hE; exact tX7_remembers hok (hV rfl) s)
theorem hyX7_day : yX7_day.cls ≠ "java/lang/invoke/MethodHandle" ∧ yX7_day.cls ≠ "java/lang/invoke/VarHandle" ∧ (parseMethodDescriptor yX7_day.desc).map (fun d => d.parameters.length) = some 1 := by decide +kernel
set_option maxRecDepth 20000 in
set_option maxHeartbeats 4000000 in
theorem tX7_day {X : Cx} (K : Ok X cX7_day RX7 3 4) (hR : RI X cX7_day) (a1 : Int32) (s : St) : G X 0 [.ref (X.B + 67), .int a1, .null] [] s (M_X7_day a1 s) := by
  unfold M_X7_day
  refine g_iload_n (pc := 0) K 1 dX7_day_0 rfl rfl ?_
  refine g_iconst (pc := 1) K (0) dX7_day_1 (by decide) ?_
  refine g_iconst (pc := 2) K (1) dX7_day_2 (by decide) ?_
  refine g_callS (pc := 3) (S := []) K (qX7_in X.E a1 (0) (1)) (by decide) (by decide) wcX7_in wiX7 kX7_51 wtX7_in hyX7_in rfl rfl (Nat.le_of_ble_eq_true rfl) dX7_day_3 (fun r1 s2 => ?_)
  change G X 6 [.ref (X.B + 67), .int a1, .null] [.int r1] s2 _
  refine g_if_ne (pc := 6) K 11 dX7_day_6 (by decide) ?_ ?_
  · refine g_aload_n (pc := 11) K 0 dX7_day_11 rfl rfl ?_
    refine gg_7_4 (pc := 12) K (by decide) kd_67 kX7_19 dX7_day_12 ?_
    refine g_iconst (pc := 15) K (0) dX7_day_15 (by decide) ?_
    refine g_iaload (pc := 16) K (by decide) kd_71 ln_71 dX7_day_16 (fun v3 => ?_)
    refine g_sipush (pc := 17) K (999) dX7_day_17 (by decide) ?_
    refine g_icmp_ne (pc := 20) K 26 dX7_day_20 (by decide) ?_ ?_
    · refine g_aload_n (pc := 26) K 0 dX7_day_26 rfl rfl ?_
      refine g_callV (pc := 27) (S := []) K (qX7_remembers X.E ) (by decide) (ci := 7) rfl (fun _ => ⟨_, ce_7 kd_67⟩) (by decide) (by decide) wcX7_remembers wiX7 kX7_158 wmX7_remembers weX7_remembers hyX7_remembers rfl rfl (Nat.le_of_ble_eq_true rfl) dX7_day_27 (fun r4 s5 => ?_)
      change G X 30 [.ref (X.B + 67), .int a1, .null] [] s5 _
      refine g_aload_n (pc := 30) K 0 dX7_day_30 rfl rfl ?_
      refine g_callV (pc := 31) (S := []) K (qX7_asItIs X.E ) (by decide) (ci := 7) rfl (fun _ => ⟨_, ce_7 kd_67⟩) (by decide) (by decide) wcX7_asItIs wiX7 kX7_133 wmX7_asItIs weX7_asItIs hyX7_asItIs rfl rfl (Nat.le_of_ble_eq_true rfl) dX7_day_31 (fun r6 s7 => ?_)
      change G X 34 [.ref (X.B + 67), .int a1, .null] [] s7 _
      refine g_aload_n (pc := 34) K 0 dX7_day_34 rfl rfl ?_
      refine g_iload_n (pc := 35) K 1 dX7_day_35 rfl rfl ?_
      refine g_callV (pc := 36) (S := []) K (qX7_goesBy X.E a1) (by decide) (ci := 7) rfl (fun _ => ⟨_, ce_7 kd_67⟩) (by decide) (by decide) wcX7_goesBy wiX7 kX7_136 wmX7_goesBy weX7_goesBy hyX7_goesBy rfl rfl (Nat.le_of_ble_eq_true rfl) dX7_day_36 (fun r8 s9 => ?_)
      change G X 39 [.ref (X.B + 67), .int a1, .null] [.int r8] s9 _
      refine g_istore_n (pc := 39) K 2 dX7_day_39 rfl (by decide) ?_
      change G X 40 [.ref (X.B + 67), .int a1, .int r8] [] s9 _
      refine g_aload_n (pc := 40) K 0 dX7_day_40 rfl rfl ?_
      refine gg_7_4 (pc := 41) K (by decide) kd_67 kX7_19 dX7_day_41 ?_
      refine g_iconst (pc := 44) K (0) dX7_day_44 (by decide) ?_
      refine g_aload_n (pc := 45) K 0 dX7_day_45 rfl rfl ?_
      refine gg_7_22 (pc := 46) K (by decide) kd_67 kX7_41 dX7_day_46 ?_
      refine g_iconst (pc := 49) K (0) dX7_day_49 (by decide) ?_
      refine g_callS (pc := 50) (S := []) K (qX7_copy X.E 71 78 arr_71 arr_78 (0) (0)) (by decide) (by decide) wcX7_copy wiX7 kX7_110 wtX7_copy hyX7_copy rfl rfl (Nat.le_of_ble_eq_true rfl) dX7_day_50 (fun r10 s11 => ?_)
      change G X 53 [.ref (X.B + 67), .int a1, .int r8] [] s11 _
      refine g_iload_n (pc := 53) K 2 dX7_day_53 rfl rfl ?_
      exact g_ir (pc := 54) hR dX7_day_54
    · refine g_bipush (pc := 23) K (-2) dX7_day_23 (by decide) ?_
      exact g_ir (pc := 25) hR dX7_day_25
  · refine g_iconst (pc := 9) K (-1) dX7_day_9 (by decide) ?_
    exact g_ir (pc := 10) hR dX7_day_10
theorem qX7_day (E : Ce) (a1 : Int32) : Con E yX7_day cX7_day 3 (some .int) 4 [.ref (E.B + 67), .int a1] (M_X7_day a1) :=
  Con.of (by decide) (List.forall_mem_cons.mpr ⟨rfl, List.forall_mem_cons.mpr ⟨rfl, fun _ h => absurd h List.not_mem_nil⟩⟩) (Nat.le_of_ble_eq_true rfl) (Or.inr (Or.inl rfl)) [.ref (E.B + 67), .int a1, .null] ⟨rfl, ⟨rfl, trivial⟩⟩ (fun X s hE hok hI hZ hV => by subst hE; exact tX7_day hok (hI rfl) a1 s)
theorem hyX7_brings : yX7_brings.cls ≠ "java/lang/invoke/MethodHandle" ∧ yX7_brings.cls ≠ "java/lang/invoke/VarHandle" ∧ (parseMethodDescriptor yX7_brings.desc).map (fun d => d.parameters.length) = some 1 := by decide +kernel
set_option maxRecDepth 20000 in
set_option maxHeartbeats 4000000 in
theorem tX7_brings {X : Cx} (K : Ok X cX7_brings RX7 2 3) (hR : RI X cX7_brings) (a1 : Int32) (s : St) : G X 0 [.ref (X.B + 67), .int a1] [] s (M_X7_brings a1 s) := by
  unfold M_X7_brings
  refine g_aload_n (pc := 0) K 0 dX7_brings_0 rfl rfl ?_
  refine g_iload_n (pc := 1) K 1 dX7_brings_1 rfl rfl ?_
  refine g_callV (pc := 2) (S := []) K (qX7_isFarmer X.E a1) (by decide) (ci := 7) rfl (fun _ => ⟨_, ce_7 kd_67⟩) (by decide) (by decide) wcX7_isFarmer wiX7 kX7_143 wmX7_isFarmer weX7_isFarmer hyX7_isFarmer rfl rfl (Nat.le_of_ble_eq_true rfl) dX7_brings_2 (fun r1 s2 => ?_)
  change G X 5 [.ref (X.B + 67), .int a1] [.int r1] s2 _
  refine g_if_ne (pc := 5) K 10 dX7_brings_5 (by decide) ?_ ?_
  · refine g_aload_n (pc := 10) K 0 dX7_brings_10 rfl rfl ?_
    refine gg_7_4 (pc := 11) K (by decide) kd_67 kX7_19 dX7_brings_11 ?_
    refine g_iconst (pc := 14) K (1) dX7_brings_14 (by decide) ?_
    refine g_iaload (pc := 15) K (by decide) kd_71 ln_71 dX7_brings_15 (fun v3 => ?_)
    refine g_iload_n (pc := 16) K 1 dX7_brings_16 rfl rfl ?_
    refine g_callS (pc := 17) (S := []) K (qX7_has X.E v3 a1) (by decide) (by decide) wcX7_has wiX7 kX7_117 wtX7_has hyX7_has rfl rfl (Nat.le_of_ble_eq_true rfl) dX7_brings_17 (fun r4 s5 => ?_)
    change G X 20 [.ref (X.B + 67), .int a1] [.int r4] s5 _
    refine g_if_eq (pc := 20) K 26 dX7_brings_20 (by decide) ?_ ?_
    · refine g_aload_n (pc := 26) K 0 dX7_brings_26 rfl rfl ?_
      refine g_callV (pc := 27) (S := []) K (qX7_remembers X.E ) (by decide) (ci := 7) rfl (fun _ => ⟨_, ce_7 kd_67⟩) (by decide) (by decide) wcX7_remembers wiX7 kX7_158 wmX7_remembers weX7_remembers hyX7_remembers rfl rfl (Nat.le_of_ble_eq_true rfl) dX7_brings_27 (fun r6 s7 => ?_)
      change G X 30 [.ref (X.B + 67), .int a1] [] s7 _
      refine g_aload_n (pc := 30) K 0 dX7_brings_30 rfl rfl ?_
      refine gg_7_4 (pc := 31) K (by decide) kd_67 kX7_19 dX7_brings_31 ?_
      refine g_iconst (pc := 34) K (1) dX7_brings_34 (by decide) ?_
      refine g_dup2 (pc := 35) K dX7_brings_35 rfl rfl ?_
      refine g_iaload (pc := 36) K (by decide) kd_71 ln_71 dX7_brings_36 (fun v8 => ?_)
      refine g_iconst (pc := 37) K (1) dX7_brings_37 (by decide) ?_
      refine g_iload_n (pc := 38) K 1 dX7_brings_38 rfl rfl ?_
      refine g_ishl (pc := 39) K dX7_brings_39 ?_
      refine g_ior (pc := 40) K dX7_brings_40 ?_
      refine g_iastore (pc := 41) K (by decide) kd_71 ln_71 dX7_brings_41 (fun s9 => ?_)
      refine g_aload_n (pc := 42) K 0 dX7_brings_42 rfl rfl ?_
      refine gg_7_4 (pc := 43) K (by decide) kd_67 kX7_19 dX7_brings_43 ?_
      refine g_iconst (pc := 46) K (1) dX7_brings_46 (by decide) ?_
      refine g_iaload (pc := 47) K (by decide) kd_71 ln_71 dX7_brings_47 (fun v10 => ?_)
      refine g_callS (pc := 48) (S := []) K (qX7_bits X.E v10) (by decide) (by decide) wcX7_bits wiX7 kX7_114 wtX7_bits hyX7_bits rfl rfl (Nat.le_of_ble_eq_true rfl) dX7_brings_48 (fun r11 s12 => ?_)
      change G X 51 [.ref (X.B + 67), .int a1] [.int r11] s12 _
      exact g_ir (pc := 51) hR dX7_brings_51
    · refine g_bipush (pc := 23) K (-2) dX7_brings_23 (by decide) ?_
      exact g_ir (pc := 25) hR dX7_brings_25
  · refine g_iconst (pc := 8) K (-1) dX7_brings_8 (by decide) ?_
    exact g_ir (pc := 9) hR dX7_brings_9
theorem qX7_brings (E : Ce) (a1 : Int32) : Con E yX7_brings cX7_brings 2 (some .int) 3 [.ref (E.B + 67), .int a1] (M_X7_brings a1) :=
  Con.of (by decide) (List.forall_mem_cons.mpr ⟨rfl, List.forall_mem_cons.mpr ⟨rfl, fun _ h => absurd h List.not_mem_nil⟩⟩) (Nat.le_of_ble_eq_true rfl) (Or.inr (Or.inl rfl)) [.ref (E.B + 67), .int a1] ⟨rfl, ⟨rfl, trivial⟩⟩ (fun X s hE hok hI hZ hV => by subst hE; exact tX7_brings hok (hI rfl) a1 s)
theorem hyX7_hangs : yX7_hangs.cls ≠ "java/lang/invoke/MethodHandle" ∧ yX7_hangs.cls ≠ "java/lang/invoke/VarHandle" ∧ (parseMethodDescriptor yX7_hangs.desc).map (fun d => d.parameters.length) = some 2 := by decide +kernel
set_option maxRecDepth 20000 in
set_option maxHeartbeats 4000000 in
theorem tX7_hangs {X : Cx} (K : Ok X cX7_hangs RX7 4 3) (hR : RI X cX7_hangs) (a1 : Int32) (a2 : Int32) (s : St) : G X 0 [.ref (X.B + 67), .int a1, .int a2, .null] [] s (M_X7_hangs a1 a2 s) := by
  unfold M_X7_hangs
  refine g_aload_n (pc := 0) K 0 dX7_hangs_0 rfl rfl ?_
  refine g_iload_n (pc := 1) K 1 dX7_hangs_1 rfl rfl ?_
  refine g_callV (pc := 2) (S := []) K (qX7_isFarmer X.E a1) (by decide) (ci := 7) rfl (fun _ => ⟨_, ce_7 kd_67⟩) (by decide) (by decide) wcX7_isFarmer wiX7 kX7_143 wmX7_isFarmer weX7_isFarmer hyX7_isFarmer rfl rfl (Nat.le_of_ble_eq_true rfl) dX7_hangs_2 (fun r1 s2 => ?_)
  change G X 5 [.ref (X.B + 67), .int a1, .int a2, .null] [.int r1] s2 _
  refine g_if_eq (pc := 5) K 21 dX7_hangs_5 (by decide) ?_ ?_
  · refine g_iconst (pc := 21) K (-1) dX7_hangs_21 (by decide) ?_
    exact g_ir (pc := 22) hR dX7_hangs_22
  · refine g_aload_n (pc := 8) K 0 dX7_hangs_8 rfl rfl ?_
    refine g_iload_n (pc := 9) K 2 dX7_hangs_9 rfl rfl ?_
    refine g_callV (pc := 10) (S := []) K (qX7_isFarmer X.E a2) (by decide) (ci := 7) rfl (fun _ => ⟨_, ce_7 kd_67⟩) (by decide) (by decide) wcX7_isFarmer wiX7 kX7_143 wmX7_isFarmer weX7_isFarmer hyX7_isFarmer rfl rfl (Nat.le_of_ble_eq_true rfl) dX7_hangs_10 (fun r3 s4 => ?_)
    change G X 13 [.ref (X.B + 67), .int a1, .int a2, .null] [.int r3] s4 _
    refine g_if_eq (pc := 13) K 21 dX7_hangs_13 (by decide) ?_ ?_
    · refine g_iconst (pc := 21) K (-1) dX7_hangs_21 (by decide) ?_
      exact g_ir (pc := 22) hR dX7_hangs_22
    · refine g_iload_n (pc := 16) K 1 dX7_hangs_16 rfl rfl ?_
      refine g_iload_n (pc := 17) K 2 dX7_hangs_17 rfl rfl ?_
      refine g_icmp_ne (pc := 18) K 23 dX7_hangs_18 (by decide) ?_ ?_
      · refine g_aload_n (pc := 23) K 0 dX7_hangs_23 rfl rfl ?_
        refine gg_7_4 (pc := 24) K (by decide) kd_67 kX7_19 dX7_hangs_24 ?_
        refine g_bipush (pc := 27) K (8) dX7_hangs_27 (by decide) ?_
        refine g_iload_n (pc := 29) K 1 dX7_hangs_29 rfl rfl ?_
        refine g_iadd (pc := 30) K dX7_hangs_30 ?_
        refine g_iaload (pc := 31) K (by decide) kd_71 ln_71 dX7_hangs_31 (fun v5 => ?_)
        refine g_istore_n (pc := 32) K 3 dX7_hangs_32 rfl (by decide) ?_
        change G X 33 [.ref (X.B + 67), .int a1, .int a2, .int v5] [] s4 _
        refine g_aload_n (pc := 33) K 0 dX7_hangs_33 rfl rfl ?_
        refine gg_7_4 (pc := 34) K (by decide) kd_67 kX7_19 dX7_hangs_34 ?_
        refine g_iconst (pc := 37) K (1) dX7_hangs_37 (by decide) ?_
        refine g_iaload (pc := 38) K (by decide) kd_71 ln_71 dX7_hangs_38 (fun v6 => ?_)
        refine g_iload_n (pc := 39) K 1 dX7_hangs_39 rfl rfl ?_
        refine g_callS (pc := 40) (S := []) K (qX7_has X.E v6 a1) (by decide) (by decide) wcX7_has wiX7 kX7_117 wtX7_has hyX7_has rfl rfl (Nat.le_of_ble_eq_true rfl) dX7_hangs_40 (fun r7 s8 => ?_)
        change G X 43 [.ref (X.B + 67), .int a1, .int a2, .int v5] [.int r7] s8 _
        refine g_if_ne (pc := 43) K 51 dX7_hangs_43 (by decide) ?_ ?_
        · refine g_bipush (pc := 51) K (-2) dX7_hangs_51 (by decide) ?_
          exact g_ir (pc := 53) hR dX7_hangs_53
        · refine g_iload_n (pc := 46) K 3 dX7_hangs_46 rfl rfl ?_
          refine g_iload_n (pc := 47) K 2 dX7_hangs_47 rfl rfl ?_
          refine g_icmp_ne (pc := 48) K 54 dX7_hangs_48 (by decide) ?_ ?_
          · refine g_aload_n (pc := 54) K 0 dX7_hangs_54 rfl rfl ?_
            refine g_callV (pc := 55) (S := []) K (qX7_remembers X.E ) (by decide) (ci := 7) rfl (fun _ => ⟨_, ce_7 kd_67⟩) (by decide) (by decide) wcX7_remembers wiX7 kX7_158 wmX7_remembers weX7_remembers hyX7_remembers rfl rfl (Nat.le_of_ble_eq_true rfl) dX7_hangs_55 (fun r9 s10 => ?_)
            change G X 58 [.ref (X.B + 67), .int a1, .int a2, .int v5] [] s10 _
            refine g_aload_n (pc := 58) K 0 dX7_hangs_58 rfl rfl ?_
            refine gg_7_4 (pc := 59) K (by decide) kd_67 kX7_19 dX7_hangs_59 ?_
            refine g_bipush (pc := 62) K (8) dX7_hangs_62 (by decide) ?_
            refine g_iload_n (pc := 64) K 1 dX7_hangs_64 rfl rfl ?_
            refine g_iadd (pc := 65) K dX7_hangs_65 ?_
            refine g_iload_n (pc := 66) K 2 dX7_hangs_66 rfl rfl ?_
            refine g_iastore (pc := 67) K (by decide) kd_71 ln_71 dX7_hangs_67 (fun s11 => ?_)
            refine g_iload_n (pc := 68) K 3 dX7_hangs_68 rfl rfl ?_
            exact g_ir (pc := 69) hR dX7_hangs_69
          · refine g_bipush (pc := 51) K (-2) dX7_hangs_51 (by decide) ?_
            exact g_ir (pc := 53) hR dX7_hangs_53
      · refine g_iconst (pc := 21) K (-1) dX7_hangs_21 (by decide) ?_
        exact g_ir (pc := 22) hR dX7_hangs_22
theorem qX7_hangs (E : Ce) (a1 : Int32) (a2 : Int32) : Con E yX7_hangs cX7_hangs 4 (some .int) 3 [.ref (E.B + 67), .int a1, .int a2] (M_X7_hangs a1 a2) :=
  Con.of (by decide) (List.forall_mem_cons.mpr ⟨rfl, List.forall_mem_cons.mpr ⟨rfl, List.forall_mem_cons.mpr ⟨rfl, fun _ h => absurd h List.not_mem_nil⟩⟩⟩) (Nat.le_of_ble_eq_true rfl) (Or.inr (Or.inl rfl)) [.ref (E.B + 67), .int a1, .int a2, .null] ⟨rfl, ⟨rfl, ⟨rfl, trivial⟩⟩⟩ (fun X s hE hok hI hZ hV => by subst hE; exact tX7_hangs hok (hI rfl) a1 a2 s)
theorem hyX7_undo : yX7_undo.cls ≠ "java/lang/invoke/MethodHandle" ∧ yX7_undo.cls ≠ "java/lang/invoke/VarHandle" ∧ (parseMethodDescriptor yX7_undo.desc).map (fun d => d.parameters.length) = some 0 := by decide +kernel
set_option maxRecDepth 20000 in
set_option maxHeartbeats 4000000 in
theorem tX7_undo {X : Cx} (K : Ok X cX7_undo RX7 1 2) (hR : RI X cX7_undo) (s : St) : G X 0 [.ref (X.B + 67)] [] s (M_X7_undo s) := by
  unfold M_X7_undo
  refine g_aload_n (pc := 0) K 0 dX7_undo_0 rfl rfl ?_
  refine gg_7_6 (pc := 1) K (by decide) kd_67 kX7_104 dX7_undo_1 ?_
  refine g_if_ne (pc := 4) K 10 dX7_undo_4 (by decide) ?_ ?_
  · refine g_aload_n (pc := 10) K 0 dX7_undo_10 rfl rfl ?_
    refine g_dup (pc := 11) K dX7_undo_11 rfl ?_
    refine gg_7_6 (pc := 12) K (by decide) kd_67 kX7_104 dX7_undo_12 ?_
    refine g_iconst (pc := 15) K (1) dX7_undo_15 (by decide) ?_
    refine g_isub (pc := 16) K dX7_undo_16 ?_
    refine gp_7_6 (pc := 17) K (by decide) kd_67 kX7_104 dX7_undo_17 (fun s1 => ?_)
    refine g_aload_n (pc := 20) K 0 dX7_undo_20 rfl rfl ?_
    refine gg_7_4 (pc := 21) K (by decide) kd_67 kX7_19 dX7_undo_21 ?_
    refine g_iconst (pc := 24) K (0) dX7_undo_24 (by decide) ?_
    refine g_aload_n (pc := 25) K 0 dX7_undo_25 rfl rfl ?_
    refine gg_7_5 (pc := 26) K (by decide) kd_67 kX7_22 dX7_undo_26 ?_
    refine g_bipush (pc := 29) K (14) dX7_undo_29 (by decide) ?_
    refine g_aload_n (pc := 31) K 0 dX7_undo_31 rfl rfl ?_
    refine gg_7_6 (pc := 32) K (by decide) kd_67 kX7_104 dX7_undo_32 ?_
    refine g_imul (pc := 35) K dX7_undo_35 ?_
    refine g_callS (pc := 36) (S := []) K (qX7_copy X.E 71 72 arr_71 arr_72 (0) ((14) * (s1.1 67 6))) (by decide) (by decide) wcX7_copy wiX7 kX7_110 wtX7_copy hyX7_copy rfl rfl (Nat.le_of_ble_eq_true rfl) dX7_undo_36 (fun r2 s3 => ?_)
    change G X 39 [.ref (X.B + 67)] [] s3 _
    refine g_aload_n (pc := 39) K 0 dX7_undo_39 rfl rfl ?_
    refine gg_7_6 (pc := 40) K (by decide) kd_67 kX7_104 dX7_undo_40 ?_
    exact g_ir (pc := 43) hR dX7_undo_43
  · refine g_bipush (pc := 7) K (-2) dX7_undo_7 (by decide) ?_
    exact g_ir (pc := 9) hR dX7_undo_9
theorem qX7_undo (E : Ce) : Con E yX7_undo cX7_undo 1 (some .int) 2 [.ref (E.B + 67)] (M_X7_undo) :=
  Con.of (by decide) (List.forall_mem_cons.mpr ⟨rfl, fun _ h => absurd h List.not_mem_nil⟩) (Nat.le_of_ble_eq_true rfl) (Or.inr (Or.inl rfl)) [.ref (E.B + 67)] ⟨rfl, trivial⟩ (fun X s hE hok hI hZ hV => by subst hE; exact tX7_undo hok (hI rfl) s)
theorem hyX7_allAskedBy : yX7_allAskedBy.cls ≠ "java/lang/invoke/MethodHandle" ∧ yX7_allAskedBy.cls ≠ "java/lang/invoke/VarHandle" ∧ (parseMethodDescriptor yX7_allAskedBy.desc).map (fun d => d.parameters.length) = some 2 := by decide +kernel
set_option maxRecDepth 20000 in
set_option maxHeartbeats 4000000 in
theorem tM_X7_allAskedBy_L16 {X : Cx} (K : Ok X cX7_allAskedBy RX7 4 4) (hR : RZ X cX7_allAskedBy) (x2 : Int32) (kk : St → Option (Int32 × St)) (hkk : ∀ (s : St), G X 33 [.ref (X.B + 67), .null, .null, .null] [] s (kk s)) : ∀ (fu : Nat) (x3 : Int32) (s : St), G X 16 [.ref (X.B + 67), .null, .int x2, .int x3] [] s (M_X7_allAskedBy_L16 x2 kk fu x3 s) := by
  intro fu
  induction fu with
  | zero => intro x3 s; exact g_none
  | succ fu ih =>
    intro x3 s
    rw [M_X7_allAskedBy_L16]
    refine g_iload_n (pc := 16) K 3 dX7_allAskedBy_16 rfl rfl ?_
    refine g_iload_n (pc := 17) K 2 dX7_allAskedBy_17 rfl rfl ?_
    refine g_icmp_ge (pc := 18) K 33 dX7_allAskedBy_18 (by decide) ?_ ?_
    · exact g_wk (hkk  s) ⟨rfl, trivial⟩
    · refine g_aload_n (pc := 21) K 0 dX7_allAskedBy_21 rfl rfl ?_
      refine g_iconst (pc := 22) K (1) dX7_allAskedBy_22 (by decide) ?_
      refine g_callV (pc := 23) (S := []) K (qX7_goesBy X.E (1)) (by decide) (ci := 7) rfl (fun _ => ⟨_, ce_7 kd_67⟩) (by decide) (by decide) wcX7_goesBy wiX7 kX7_136 wmX7_goesBy weX7_goesBy hyX7_goesBy rfl rfl (Nat.le_of_ble_eq_true rfl) dX7_allAskedBy_23 (fun r5 s6 => ?_)
      change G X 26 [.ref (X.B + 67), .null, .int x2, .int x3] [.int r5] s6 _
      refine g_pop (pc := 26) K dX7_allAskedBy_26 rfl ?_
      refine g_iinc (pc := 27) K (1) dX7_allAskedBy_27 rfl (by decide) (by decide) ?_
      change G X 30 [.ref (X.B + 67), .null, .int x2, .int (x3 + (1))] [] s6 _
      refine g_goto (pc := 30) K 16 dX7_allAskedBy_30 (by decide) ?_
      exact g_wk (ih (x3 + (1)) s6) ⟨rfl, ⟨rfl, ⟨rfl, trivial⟩⟩⟩
set_option maxRecDepth 20000 in
set_option maxHeartbeats 4000000 in
theorem tX7_allAskedBy {X : Cx} (K : Ok X cX7_allAskedBy RX7 4 4) (hR : RZ X cX7_allAskedBy) (a1 : Int32) (a2 : Int32) (s : St) : G X 0 [.ref (X.B + 67), .int a1, .int a2, .null] [] s (M_X7_allAskedBy a1 a2 s) := by
  unfold M_X7_allAskedBy
  refine g_aload_n (pc := 0) K 0 dX7_allAskedBy_0 rfl rfl ?_
  refine g_callV (pc := 1) (S := []) K (qX7_asItIs X.E ) (by decide) (ci := 7) rfl (fun _ => ⟨_, ce_7 kd_67⟩) (by decide) (by decide) wcX7_asItIs wiX7 kX7_133 wmX7_asItIs weX7_asItIs hyX7_asItIs rfl rfl (Nat.le_of_ble_eq_true rfl) dX7_allAskedBy_1 (fun r1 s2 => ?_)
  change G X 4 [.ref (X.B + 67), .int a1, .int a2, .null] [] s2 _
  refine g_aload_n (pc := 4) K 0 dX7_allAskedBy_4 rfl rfl ?_
  refine gg_7_22 (pc := 5) K (by decide) kd_67 kX7_41 dX7_allAskedBy_5 ?_
  refine g_iconst (pc := 8) K (1) dX7_allAskedBy_8 (by decide) ?_
  refine g_dup2 (pc := 9) K dX7_allAskedBy_9 rfl rfl ?_
  refine g_iaload (pc := 10) K (by decide) kd_78 ln_78 dX7_allAskedBy_10 (fun v3 => ?_)
  refine g_iload_n (pc := 11) K 1 dX7_allAskedBy_11 rfl rfl ?_
  refine g_ior (pc := 12) K dX7_allAskedBy_12 ?_
  refine g_iastore (pc := 13) K (by decide) kd_78 ln_78 dX7_allAskedBy_13 (fun s4 => ?_)
  refine g_iconst (pc := 14) K (0) dX7_allAskedBy_14 (by decide) ?_
  refine g_istore_n (pc := 15) K 3 dX7_allAskedBy_15 rfl (by decide) ?_
  change G X 16 [.ref (X.B + 67), .int a1, .int a2, .int (0)] [] s4 _
  refine g_weak (L' := [.ref (X.B + 67), .null, .int a2, .int (0)]) ⟨rfl, ⟨rfl, ⟨rfl, trivial⟩⟩⟩ ?_
  refine tM_X7_allAskedBy_L16 K hR a2 _ (fun s7 => ?_) 400 (0) s4
  refine g_aload_n (pc := 33) K 0 dX7_allAskedBy_33 rfl rfl ?_
  refine gg_7_22 (pc := 34) K (by decide) kd_67 kX7_41 dX7_allAskedBy_34 ?_
  refine g_iconst (pc := 37) K (1) dX7_allAskedBy_37 (by decide) ?_
  refine g_iaload (pc := 38) K (by decide) kd_78 ln_78 dX7_allAskedBy_38 (fun v8 => ?_)
  refine g_iconst (pc := 39) K (1) dX7_allAskedBy_39 (by decide) ?_
  refine g_aload_n (pc := 40) K 0 dX7_allAskedBy_40 rfl rfl ?_
  refine gg_7_0 (pc := 41) K (by decide) kd_67 kX7_47 dX7_allAskedBy_41 ?_
  refine g_ishl (pc := 44) K dX7_allAskedBy_44 ?_
  refine g_iconst (pc := 45) K (1) dX7_allAskedBy_45 (by decide) ?_
  refine g_isub (pc := 46) K dX7_allAskedBy_46 ?_
  refine g_icmp_ne (pc := 47) K 54 dX7_allAskedBy_47 (by decide) ?_ ?_
  · refine g_iconst (pc := 54) K (0) dX7_allAskedBy_54 (by decide) ?_
    exact g_zr0 (pc := 55) hR dX7_allAskedBy_55
  · refine g_iconst (pc := 50) K (1) dX7_allAskedBy_50 (by decide) ?_
    refine g_goto (pc := 51) K 55 dX7_allAskedBy_51 (by decide) ?_
    exact g_zr1 (pc := 55) hR dX7_allAskedBy_55
theorem qX7_allAskedBy (E : Ce) (a1 : Int32) (a2 : Int32) : Con E yX7_allAskedBy cX7_allAskedBy 4 (some .boolean) 4 [.ref (E.B + 67), .int a1, .int a2] (M_X7_allAskedBy a1 a2) :=
  Con.of (by decide) (List.forall_mem_cons.mpr ⟨rfl, List.forall_mem_cons.mpr ⟨rfl, List.forall_mem_cons.mpr ⟨rfl, fun _ h => absurd h List.not_mem_nil⟩⟩⟩) (Nat.le_of_ble_eq_true rfl) (Or.inr (Or.inr rfl)) [.ref (E.B + 67), .int a1, .int a2, .null] ⟨rfl, ⟨rfl, ⟨rfl, trivial⟩⟩⟩ (fun X s hE hok hI hZ hV => by subst hE; exact tX7_allAskedBy hok (hZ rfl) a1 a2 s)
theorem hyX7_start : yX7_start.cls ≠ "java/lang/invoke/MethodHandle" ∧ yX7_start.cls ≠ "java/lang/invoke/VarHandle" ∧ (parseMethodDescriptor yX7_start.desc).map (fun d => d.parameters.length) = some 1 := by decide +kernel
set_option maxRecDepth 20000 in
set_option maxHeartbeats 4000000 in
theorem tM_X7_start_L32 {X : Cx} (K : Ok X cX7_start RX7 6 5) (hR : RI X cX7_start) (x1 : Int32) (kk : Int32 → St → Option (Int32 × St)) (hkk : ∀ (x2 : Int32) (s : St), G X 112 [.null, .null, .int x2, .null, .null, .null] [] s (kk x2 s)) : ∀ (fu : Nat) (x2 x3 : Int32) (s : St), G X 32 [.ref (X.B + 67), .int x1, .int x2, .int x3, .null, .null] [] s (M_X7_start_L32 x1 kk fu x2 x3 s) := by
  intro fu
  induction fu with
  | zero => intro x2 x3 s; exact g_none
  | succ fu ih =>
    intro x2 x3 s
    rw [M_X7_start_L32]
    refine g_iload_n (pc := 32) K 3 dX7_start_32 rfl rfl ?_
    refine g_iconst (pc := 33) K (1) dX7_start_33 (by decide) ?_
    refine g_aload_n (pc := 34) K 0 dX7_start_34 rfl rfl ?_
    refine gg_7_0 (pc := 35) K (by decide) kd_67 kX7_47 dX7_start_35 ?_
    refine g_ishl (pc := 38) K dX7_start_38 ?_
    refine g_icmp_ge (pc := 39) K 112 dX7_start_39 (by decide) ?_ ?_
    · exact g_wk (hkk x2 s) ⟨rfl, trivial⟩
    · refine g_iload_n (pc := 42) K 3 dX7_start_42 rfl rfl ?_
      refine g_callS (pc := 43) (S := []) K (qX7_bits X.E x3) (by decide) (by decide) wcX7_bits wiX7 kX7_114 wtX7_bits hyX7_bits rfl rfl (Nat.le_of_ble_eq_true rfl) dX7_start_43 (fun r4 s5 => ?_)
      change G X 46 [.ref (X.B + 67), .int x1, .int x2, .int x3, .null, .null] [.int r4] s5 _
      refine g_iload_n (pc := 46) K 2 dX7_start_46 rfl rfl ?_
      refine g_callS (pc := 47) (S := [.int r4]) K (qX7_bits X.E x2) (by decide) (by decide) wcX7_bits wiX7 kX7_114 wtX7_bits hyX7_bits rfl rfl (Nat.le_of_ble_eq_true rfl) dX7_start_47 (fun r6 s7 => ?_)
      change G X 50 [.ref (X.B + 67), .int x1, .int x2, .int x3, .null, .null] [.int r6, .int r4] s7 _
      refine g_isub (pc := 50) K dX7_start_50 ?_
      refine g_istore (pc := 51) K dX7_start_51 (by decide) ?_
      change G X 53 [.ref (X.B + 67), .int x1, .int x2, .int x3, .int (r4 - r6), .null] [] s7 _
      refine g_iload (pc := 53) K dX7_start_53 rfl ?_
      refine g_jn (κ := Int32 → St → Option (Int32 × St)) (fun kj8 => ∀ (v9 : Int32) (s10 : St), G X 73 [.ref (X.B + 67), .int x1, .int x2, .int x3, .null, .null] [.int v9] s10 (kj8 v9 s10)) (fun v9 s10 => ?_) (fun kj8 hkj8 => ?_)
      · refine g_istore (pc := 73) K dX7_start_73 (by decide) ?_
        change G X 75 [.ref (X.B + 67), .int x1, .int x2, .int x3, .null, .int v9] [] s10 _
        refine g_iload (pc := 75) K dX7_start_75 rfl ?_
        refine g_jn (κ := Int32 → St → Option (Int32 × St)) (fun kj11 => ∀ (v12 : Int32) (s13 : St), G X 105 [.ref (X.B + 67), .int x1, .null, .int x3, .null, .null] [.int v12] s13 (kj11 v12 s13)) (fun v12 s13 => ?_) (fun kj11 hkj11 => ?_)
        · refine g_istore_n (pc := 105) K 2 dX7_start_105 rfl (by decide) ?_
          change G X 106 [.ref (X.B + 67), .int x1, .int v12, .int x3, .null, .null] [] s13 _
          refine g_iinc (pc := 106) K (1) dX7_start_106 rfl (by decide) (by decide) ?_
          change G X 109 [.ref (X.B + 67), .int x1, .int v12, .int (x3 + (1)), .null, .null] [] s13 _
          refine g_goto (pc := 109) K 32 dX7_start_109 (by decide) ?_
          exact g_wk (ih v12 (x3 + (1)) s13) ⟨rfl, ⟨rfl, ⟨rfl, ⟨rfl, trivial⟩⟩⟩⟩
        · refine g_if_eq (pc := 77) K 104 dX7_start_77 (by decide) ?_ ?_
          · refine g_iload_n (pc := 104) K 2 dX7_start_104 rfl rfl ?_
            exact g_wk (hkj11 x2 s10) ⟨rfl, ⟨rfl, ⟨rfl, trivial⟩⟩⟩
          · refine g_iload_n (pc := 80) K 3 dX7_start_80 rfl rfl ?_
            refine g_aload_n (pc := 81) K 0 dX7_start_81 rfl rfl ?_
            refine gg_7_4 (pc := 82) K (by decide) kd_67 kX7_19 dX7_start_82 ?_
            refine g_iconst (pc := 85) K (1) dX7_start_85 (by decide) ?_
            refine g_iaload (pc := 86) K (by decide) kd_71 ln_71 dX7_start_86 (fun v14 => ?_)
            refine g_iand (pc := 87) K dX7_start_87 ?_
            refine g_if_ne (pc := 88) K 104 dX7_start_88 (by decide) ?_ ?_
            · refine g_iload_n (pc := 104) K 2 dX7_start_104 rfl rfl ?_
              exact g_wk (hkj11 x2 s10) ⟨rfl, ⟨rfl, ⟨rfl, trivial⟩⟩⟩
            · refine g_aload_n (pc := 91) K 0 dX7_start_91 rfl rfl ?_
              refine g_iload_n (pc := 92) K 3 dX7_start_92 rfl rfl ?_
              refine g_iload_n (pc := 93) K 1 dX7_start_93 rfl rfl ?_
              refine g_callV (pc := 94) (S := []) K (qX7_allAskedBy X.E x3 x1) (by decide) (ci := 7) rfl (fun _ => ⟨_, ce_7 kd_67⟩) (by decide) (by decide) wcX7_allAskedBy wiX7 kX7_161 wmX7_allAskedBy weX7_allAskedBy hyX7_allAskedBy rfl rfl (Nat.le_of_ble_eq_true rfl) dX7_start_94 (fun r15 s16 => ?_)
              change G X 97 [.ref (X.B + 67), .int x1, .int x2, .int x3, .null, .int v9] [.int r15] s16 _
              refine g_if_eq (pc := 97) K 104 dX7_start_97 (by decide) ?_ ?_
              · refine g_iload_n (pc := 104) K 2 dX7_start_104 rfl rfl ?_
                exact g_wk (hkj11 x2 s16) ⟨rfl, ⟨rfl, ⟨rfl, trivial⟩⟩⟩
              · refine g_iload_n (pc := 100) K 3 dX7_start_100 rfl rfl ?_
                refine g_goto (pc := 101) K 105 dX7_start_101 (by decide) ?_
                exact g_wk (hkj11 x3 s16) ⟨rfl, ⟨rfl, ⟨rfl, trivial⟩⟩⟩
      · refine g_if_lt (pc := 55) K 68 dX7_start_55 (by decide) ?_ ?_
        · refine g_iconst (pc := 68) K (1) dX7_start_68 (by decide) ?_
          refine g_goto (pc := 69) K 73 dX7_start_69 (by decide) ?_
          exact g_wk (hkj8 (1) s7) ⟨rfl, ⟨rfl, ⟨rfl, ⟨rfl, trivial⟩⟩⟩⟩
        · refine g_iload (pc := 58) K dX7_start_58 rfl ?_
          refine g_if_ne (pc := 60) K 72 dX7_start_60 (by decide) ?_ ?_
          · refine g_iconst (pc := 72) K (0) dX7_start_72 (by decide) ?_
            exact g_wk (hkj8 (0) s7) ⟨rfl, ⟨rfl, ⟨rfl, ⟨rfl, trivial⟩⟩⟩⟩
          · refine g_iload_n (pc := 63) K 3 dX7_start_63 rfl rfl ?_
            refine g_iload_n (pc := 64) K 2 dX7_start_64 rfl rfl ?_
            refine g_icmp_ge (pc := 65) K 72 dX7_start_65 (by decide) ?_ ?_
            · refine g_iconst (pc := 72) K (0) dX7_start_72 (by decide) ?_
              exact g_wk (hkj8 (0) s7) ⟨rfl, ⟨rfl, ⟨rfl, ⟨rfl, trivial⟩⟩⟩⟩
            · refine g_iconst (pc := 68) K (1) dX7_start_68 (by decide) ?_
              refine g_goto (pc := 69) K 73 dX7_start_69 (by decide) ?_
              exact g_wk (hkj8 (1) s7) ⟨rfl, ⟨rfl, ⟨rfl, ⟨rfl, trivial⟩⟩⟩⟩
set_option maxRecDepth 20000 in
set_option maxHeartbeats 4000000 in
theorem tX7_start {X : Cx} (K : Ok X cX7_start RX7 6 5) (hR : RI X cX7_start) (a1 : Int32) (s : St) : G X 0 [.ref (X.B + 67), .int a1, .null, .null, .null, .null] [] s (M_X7_start a1 s) := by
  unfold M_X7_start
  refine g_iload_n (pc := 0) K 1 dX7_start_0 rfl rfl ?_
  refine g_iconst (pc := 1) K (0) dX7_start_1 (by decide) ?_
  refine g_bipush (pc := 2) K (20) dX7_start_2 (by decide) ?_
  refine g_callS (pc := 4) (S := []) K (qX7_in X.E a1 (0) (20)) (by decide) (by decide) wcX7_in wiX7 kX7_51 wtX7_in hyX7_in rfl rfl (Nat.le_of_ble_eq_true rfl) dX7_start_4 (fun r1 s2 => ?_)
  change G X 7 [.ref (X.B + 67), .int a1, .null, .null, .null, .null] [.int r1] s2 _
  refine g_if_ne (pc := 7) K 12 dX7_start_7 (by decide) ?_ ?_
  · refine g_iconst (pc := 12) K (1) dX7_start_12 (by decide) ?_
    refine g_aload_n (pc := 13) K 0 dX7_start_13 rfl rfl ?_
    refine gg_7_0 (pc := 14) K (by decide) kd_67 kX7_47 dX7_start_14 ?_
    refine g_ishl (pc := 17) K dX7_start_17 ?_
    refine g_iconst (pc := 18) K (1) dX7_start_18 (by decide) ?_
    refine g_isub (pc := 19) K dX7_start_19 ?_
    refine g_aload_n (pc := 20) K 0 dX7_start_20 rfl rfl ?_
    refine gg_7_4 (pc := 21) K (by decide) kd_67 kX7_19 dX7_start_21 ?_
    refine g_iconst (pc := 24) K (1) dX7_start_24 (by decide) ?_
    refine g_iaload (pc := 25) K (by decide) kd_71 ln_71 dX7_start_25 (fun v3 => ?_)
    refine g_iconst (pc := 26) K (-1) dX7_start_26 (by decide) ?_
    refine g_ixor (pc := 27) K dX7_start_27 ?_
    refine g_iand (pc := 28) K dX7_start_28 ?_
    refine g_istore_n (pc := 29) K 2 dX7_start_29 rfl (by decide) ?_
    change G X 30 [.ref (X.B + 67), .int a1, .int ((((1) <<< ((s2.1 67 0) &&& 31)) - (1)) &&& (v3 ^^^ (-1))), .null, .null, .null] [] s2 _
    refine g_iconst (pc := 30) K (0) dX7_start_30 (by decide) ?_
    refine g_istore_n (pc := 31) K 3 dX7_start_31 rfl (by decide) ?_
    change G X 32 [.ref (X.B + 67), .int a1, .int ((((1) <<< ((s2.1 67 0) &&& 31)) - (1)) &&& (v3 ^^^ (-1))), .int (0), .null, .null] [] s2 _
    refine g_weak (L' := [.ref (X.B + 67), .int a1, .int ((((1) <<< ((s2.1 67 0) &&& 31)) - (1)) &&& (v3 ^^^ (-1))), .int (0), .null, .null]) ⟨rfl, ⟨rfl, ⟨rfl, ⟨rfl, trivial⟩⟩⟩⟩ ?_
    refine tM_X7_start_L32 K hR a1 _ (fun v17 s18 => ?_) 400 ((((1) <<< ((s2.1 67 0) &&& 31)) - (1)) &&& (v3 ^^^ (-1))) (0) s2
    refine g_iload_n (pc := 112) K 2 dX7_start_112 rfl rfl ?_
    exact g_ir (pc := 113) hR dX7_start_113
  · refine g_iconst (pc := 10) K (-1) dX7_start_10 (by decide) ?_
    exact g_ir (pc := 11) hR dX7_start_11
theorem qX7_start (E : Ce) (a1 : Int32) : Con E yX7_start cX7_start 6 (some .int) 5 [.ref (E.B + 67), .int a1] (M_X7_start a1) :=
  Con.of (by decide) (List.forall_mem_cons.mpr ⟨rfl, List.forall_mem_cons.mpr ⟨rfl, fun _ h => absurd h List.not_mem_nil⟩⟩) (Nat.le_of_ble_eq_true rfl) (Or.inr (Or.inl rfl)) [.ref (E.B + 67), .int a1, .null, .null, .null, .null] ⟨rfl, ⟨rfl, trivial⟩⟩ (fun X s hE hok hI hZ hV => by subst hE; exact tX7_start hok (hI rfl) a1 s)
theorem hyX7_far : yX7_far.cls ≠ "java/lang/invoke/MethodHandle" ∧ yX7_far.cls ≠ "java/lang/invoke/VarHandle" ∧ (parseMethodDescriptor yX7_far.desc).map (fun d => d.parameters.length) = some 2 := by decide +kernel
set_option maxRecDepth 20000 in
set_option maxHeartbeats 4000000 in
theorem tX7_far {X : Cx} (K : Ok X cX7_far RX7 2 1) (hR : RI X cX7_far) (a0 : Int32) (a1 : Int32) (s : St) : G X 0 [.int a0, .int a1] [] s (M_X7_far a0 a1 s) := by
  unfold M_X7_far
  refine g_iload_n (pc := 0) K 0 dX7_far_0 rfl rfl ?_
  refine g_iload_n (pc := 1) K 1 dX7_far_1 rfl rfl ?_
  refine g_icmp_ge (pc := 2) K 11 dX7_far_2 (by decide) ?_ ?_
  · refine g_iload_n (pc := 11) K 0 dX7_far_11 rfl rfl ?_
    refine g_iload_n (pc := 12) K 1 dX7_far_12 rfl rfl ?_
    refine g_isub (pc := 13) K dX7_far_13 ?_
    exact g_ir (pc := 14) hR dX7_far_14
  · refine g_iload_n (pc := 5) K 1 dX7_far_5 rfl rfl ?_
    refine g_iload_n (pc := 6) K 0 dX7_far_6 rfl rfl ?_
    refine g_isub (pc := 7) K dX7_far_7 ?_
    refine g_goto (pc := 8) K 14 dX7_far_8 (by decide) ?_
    exact g_ir (pc := 14) hR dX7_far_14
theorem qX7_far (E : Ce) (a0 : Int32) (a1 : Int32) : Con E yX7_far cX7_far 2 (some .int) 1 [.int a0, .int a1] (M_X7_far a0 a1) :=
  Con.of (by decide) (List.forall_mem_cons.mpr ⟨rfl, List.forall_mem_cons.mpr ⟨rfl, fun _ h => absurd h List.not_mem_nil⟩⟩) (Nat.le_of_ble_eq_true rfl) (Or.inr (Or.inl rfl)) [.int a0, .int a1] ⟨rfl, ⟨rfl, trivial⟩⟩ (fun X s hE hok hI hZ hV => by subst hE; exact tX7_far hok (hI rfl) a0 a1 s)
theorem hyX7_farBy : yX7_farBy.cls ≠ "java/lang/invoke/MethodHandle" ∧ yX7_farBy.cls ≠ "java/lang/invoke/VarHandle" ∧ (parseMethodDescriptor yX7_farBy.desc).map (fun d => d.parameters.length) = some 1 := by decide +kernel
set_option maxRecDepth 20000 in
set_option maxHeartbeats 4000000 in
theorem tM_X7_farBy_L18 {X : Cx} (K : Ok X cX7_farBy RX7 8 3) (hR : RI X cX7_farBy) (kk : Int32 → Int32 → St → Option (Int32 × St)) (hkk : ∀ (x4 x5 : Int32) (s : St), G X 124 [.null, .null, .null, .null, .int x4, .int x5, .null, .null] [] s (kk x4 x5 s)) : ∀ (fu : Nat) (x2 x3 x4 x5 x6 : Int32) (s : St), G X 18 [.ref (X.B + 67), .null, .int x2, .int x3, .int x4, .int x5, .int x6, .null] [] s (M_X7_farBy_L18 kk fu x2 x3 x4 x5 x6 s) := by
  intro fu
  induction fu with
  | zero => intro x2 x3 x4 x5 x6 s; exact g_none
  | succ fu ih =>
    intro x2 x3 x4 x5 x6 s
    rw [M_X7_farBy_L18]
    refine g_iload (pc := 18) K dX7_farBy_18 rfl ?_
    refine g_if_lt (pc := 20) K 124 dX7_farBy_20 (by decide) ?_ ?_
    · exact g_wk (hkk x4 x5 s) ⟨rfl, ⟨rfl, trivial⟩⟩
    · refine g_iload_n (pc := 23) K 2 dX7_farBy_23 rfl rfl ?_
      refine g_bipush (pc := 24) K (6) dX7_farBy_24 (by decide) ?_
      refine g_irem (pc := 26) K dX7_farBy_26 ?_
      refine g_istore (pc := 27) K dX7_farBy_27 (by decide) ?_
      change G X 29 [.ref (X.B + 67), .null, .int x2, .int x3, .int x4, .int x5, .int x6, .int (x2 - x2 / (6) * (6))] [] s _
      refine g_iload_n (pc := 29) K 2 dX7_farBy_29 rfl rfl ?_
      refine g_bipush (pc := 30) K (6) dX7_farBy_30 (by decide) ?_
      refine g_idiv (pc := 32) K dX7_farBy_32 ?_
      refine g_istore_n (pc := 33) K 2 dX7_farBy_33 rfl (by decide) ?_
      change G X 34 [.ref (X.B + 67), .null, .int (x2 / (6)), .int x3, .int x4, .int x5, .int x6, .int (x2 - x2 / (6) * (6))] [] s _
      refine g_aload_n (pc := 34) K 0 dX7_farBy_34 rfl rfl ?_
      refine gg_7_24 (pc := 35) K (by decide) kd_67 kX7_44 dX7_farBy_35 ?_
      refine g_iload (pc := 38) K dX7_farBy_38 rfl ?_
      refine g_iload (pc := 40) K dX7_farBy_40 rfl ?_
      refine g_iastore (pc := 42) K (by decide) kd_79 ln_79 dX7_farBy_42 (fun s1 => ?_)
      refine g_iload (pc := 43) K dX7_farBy_43 rfl ?_
      refine g_jn (κ := Int32 → St → Option (Int32 × St)) (fun kj2 => ∀ (v3 : Int32) (s4 : St), G X 78 [.ref (X.B + 67), .null, .int (x2 / (6)), .int x3, .int x4, .null, .int x6, .int (x2 - x2 / (6) * (6))] [.int v3] s4 (kj2 v3 s4)) (fun v3 s4 => ?_) (fun kj2 hkj2 => ?_)
      · refine g_istore (pc := 78) K dX7_farBy_78 (by decide) ?_
        change G X 80 [.ref (X.B + 67), .null, .int (x2 / (6)), .int x3, .int x4, .int v3, .int x6, .int (x2 - x2 / (6) * (6))] [] s4 _
        refine g_iload_n (pc := 80) K 3 dX7_farBy_80 rfl rfl ?_
        refine g_iconst (pc := 81) K (1) dX7_farBy_81 (by decide) ?_
        refine g_iload (pc := 82) K dX7_farBy_82 rfl ?_
        refine g_ishl (pc := 84) K dX7_farBy_84 ?_
        refine g_ior (pc := 85) K dX7_farBy_85 ?_
        refine g_istore_n (pc := 86) K 3 dX7_farBy_86 rfl (by decide) ?_
        change G X 87 [.ref (X.B + 67), .null, .int (x2 / (6)), .int (x3 ||| ((1) <<< ((x2 - x2 / (6) * (6)) &&& 31))), .int x4, .int v3, .int x6, .int (x2 - x2 / (6) * (6))] [] s4 _
        refine g_iload (pc := 87) K dX7_farBy_87 rfl ?_
        refine g_iload (pc := 89) K dX7_farBy_89 rfl ?_
        refine g_jn (κ := Int32 → St → Option (Int32 × St)) (fun kj5 => ∀ (v6 : Int32) (s7 : St), G X 115 [.ref (X.B + 67), .null, .int (x2 / (6)), .int (x3 ||| ((1) <<< ((x2 - x2 / (6) * (6)) &&& 31))), .null, .int v3, .int x6, .null] [.int v6, .int x4] s7 (kj5 v6 s7)) (fun v6 s7 => ?_) (fun kj5 hkj5 => ?_)
        · refine g_iadd (pc := 115) K dX7_farBy_115 ?_
          refine g_istore (pc := 116) K dX7_farBy_116 (by decide) ?_
          change G X 118 [.ref (X.B + 67), .null, .int (x2 / (6)), .int (x3 ||| ((1) <<< ((x2 - x2 / (6) * (6)) &&& 31))), .int (x4 + v6), .int v3, .int x6, .null] [] s7 _
          refine g_iinc (pc := 118) K (-1) dX7_farBy_118 rfl (by decide) (by decide) ?_
          change G X 121 [.ref (X.B + 67), .null, .int (x2 / (6)), .int (x3 ||| ((1) <<< ((x2 - x2 / (6) * (6)) &&& 31))), .int (x4 + v6), .int v3, .int (x6 + (-1)), .null] [] s7 _
          refine g_goto (pc := 121) K 18 dX7_farBy_121 (by decide) ?_
          exact g_wk (ih (x2 / (6)) (x3 ||| ((1) <<< ((x2 - x2 / (6) * (6)) &&& 31))) (x4 + v6) v3 (x6 + (-1)) s7) ⟨rfl, ⟨rfl, ⟨rfl, ⟨rfl, ⟨rfl, ⟨rfl, trivial⟩⟩⟩⟩⟩⟩
        · refine g_if_eq (pc := 91) K 114 dX7_farBy_91 (by decide) ?_ ?_
          · refine g_iconst (pc := 114) K (0) dX7_farBy_114 (by decide) ?_
            exact g_wk (hkj5 (0) s4) ⟨rfl, ⟨rfl, ⟨rfl, ⟨rfl, ⟨rfl, trivial⟩⟩⟩⟩⟩
          · refine g_aload_n (pc := 94) K 0 dX7_farBy_94 rfl rfl ?_
            refine gg_7_1 (pc := 95) K (by decide) kd_67 kX7_7 dX7_farBy_95 ?_
            refine g_iload (pc := 98) K dX7_farBy_98 rfl ?_
            refine g_iaload (pc := 100) K (by decide) kd_68 ln_68 dX7_farBy_100 (fun v8 => ?_)
            refine g_aload_n (pc := 101) K 0 dX7_farBy_101 rfl rfl ?_
            refine gg_7_1 (pc := 102) K (by decide) kd_67 kX7_7 dX7_farBy_102 ?_
            refine g_iload (pc := 105) K dX7_farBy_105 rfl ?_
            refine g_iaload (pc := 107) K (by decide) kd_68 ln_68 dX7_farBy_107 (fun v9 => ?_)
            refine g_callS (pc := 108) (S := [.int x4]) K (qX7_far X.E v8 v9) (by decide) (by decide) wcX7_far wiX7 kX7_164 wtX7_far hyX7_far rfl rfl (Nat.le_of_ble_eq_true rfl) dX7_farBy_108 (fun r10 s11 => ?_)
            change G X 111 [.ref (X.B + 67), .null, .int (x2 / (6)), .int (x3 ||| ((1) <<< ((x2 - x2 / (6) * (6)) &&& 31))), .int x4, .int v3, .int x6, .int (x2 - x2 / (6) * (6))] [.int r10, .int x4] s11 _
            refine g_goto (pc := 111) K 115 dX7_farBy_111 (by decide) ?_
            exact g_wk (hkj5 r10 s11) ⟨rfl, ⟨rfl, ⟨rfl, ⟨rfl, ⟨rfl, trivial⟩⟩⟩⟩⟩
      · refine g_if_eq (pc := 45) K 77 dX7_farBy_45 (by decide) ?_ ?_
        · refine g_iconst (pc := 77) K (0) dX7_farBy_77 (by decide) ?_
          exact g_wk (hkj2 (0) s1) ⟨rfl, ⟨rfl, ⟨rfl, ⟨rfl, ⟨rfl, ⟨rfl, trivial⟩⟩⟩⟩⟩⟩
        · refine g_aload_n (pc := 48) K 0 dX7_farBy_48 rfl rfl ?_
          refine g_iload (pc := 49) K dX7_farBy_49 rfl ?_
          refine g_callV (pc := 51) (S := []) K (qX7_isFarmer X.E (x2 - x2 / (6) * (6))) (by decide) (ci := 7) rfl (fun _ => ⟨_, ce_7 kd_67⟩) (by decide) (by decide) wcX7_isFarmer wiX7 kX7_143 wmX7_isFarmer weX7_isFarmer hyX7_isFarmer rfl rfl (Nat.le_of_ble_eq_true rfl) dX7_farBy_51 (fun r12 s13 => ?_)
          change G X 54 [.ref (X.B + 67), .null, .int (x2 / (6)), .int x3, .int x4, .int x5, .int x6, .int (x2 - x2 / (6) * (6))] [.int r12] s13 _
          refine g_if_eq (pc := 54) K 77 dX7_farBy_54 (by decide) ?_ ?_
          · refine g_iconst (pc := 77) K (0) dX7_farBy_77 (by decide) ?_
            exact g_wk (hkj2 (0) s13) ⟨rfl, ⟨rfl, ⟨rfl, ⟨rfl, ⟨rfl, ⟨rfl, trivial⟩⟩⟩⟩⟩⟩
          · refine g_iload (pc := 57) K dX7_farBy_57 rfl ?_
            refine g_iload (pc := 59) K dX7_farBy_59 rfl ?_
            refine g_icmp_eq (pc := 61) K 77 dX7_farBy_61 (by decide) ?_ ?_
            · refine g_iconst (pc := 77) K (0) dX7_farBy_77 (by decide) ?_
              exact g_wk (hkj2 (0) s13) ⟨rfl, ⟨rfl, ⟨rfl, ⟨rfl, ⟨rfl, ⟨rfl, trivial⟩⟩⟩⟩⟩⟩
            · refine g_iload_n (pc := 64) K 3 dX7_farBy_64 rfl rfl ?_
              refine g_iload (pc := 65) K dX7_farBy_65 rfl ?_
              refine g_callS (pc := 67) (S := []) K (qX7_has X.E x3 (x2 - x2 / (6) * (6))) (by decide) (by decide) wcX7_has wiX7 kX7_117 wtX7_has hyX7_has rfl rfl (Nat.le_of_ble_eq_true rfl) dX7_farBy_67 (fun r14 s15 => ?_)
              change G X 70 [.ref (X.B + 67), .null, .int (x2 / (6)), .int x3, .int x4, .int x5, .int x6, .int (x2 - x2 / (6) * (6))] [.int r14] s15 _
              refine g_if_ne (pc := 70) K 77 dX7_farBy_70 (by decide) ?_ ?_
              · refine g_iconst (pc := 77) K (0) dX7_farBy_77 (by decide) ?_
                exact g_wk (hkj2 (0) s15) ⟨rfl, ⟨rfl, ⟨rfl, ⟨rfl, ⟨rfl, ⟨rfl, trivial⟩⟩⟩⟩⟩⟩
              · refine g_iconst (pc := 73) K (1) dX7_farBy_73 (by decide) ?_
                refine g_goto (pc := 74) K 78 dX7_farBy_74 (by decide) ?_
                exact g_wk (hkj2 (1) s15) ⟨rfl, ⟨rfl, ⟨rfl, ⟨rfl, ⟨rfl, ⟨rfl, trivial⟩⟩⟩⟩⟩⟩
set_option maxRecDepth 20000 in
set_option maxHeartbeats 4000000 in
theorem tX7_farBy {X : Cx} (K : Ok X cX7_farBy RX7 8 3) (hR : RI X cX7_farBy) (a1 : Int32) (s : St) : G X 0 [.ref (X.B + 67), .int a1, .null, .null, .null, .null, .null, .null] [] s (M_X7_farBy a1 s) := by
  unfold M_X7_farBy
  refine g_iload_n (pc := 0) K 1 dX7_farBy_0 rfl rfl ?_
  refine g_istore_n (pc := 1) K 2 dX7_farBy_1 rfl (by decide) ?_
  change G X 2 [.ref (X.B + 67), .int a1, .int a1, .null, .null, .null, .null, .null] [] s _
  refine g_iconst (pc := 2) K (0) dX7_farBy_2 (by decide) ?_
  refine g_istore_n (pc := 3) K 3 dX7_farBy_3 rfl (by decide) ?_
  change G X 4 [.ref (X.B + 67), .int a1, .int a1, .int (0), .null, .null, .null, .null] [] s _
  refine g_iconst (pc := 4) K (0) dX7_farBy_4 (by decide) ?_
  refine g_istore (pc := 5) K dX7_farBy_5 (by decide) ?_
  change G X 7 [.ref (X.B + 67), .int a1, .int a1, .int (0), .int (0), .null, .null, .null] [] s _
  refine g_iconst (pc := 7) K (1) dX7_farBy_7 (by decide) ?_
  refine g_istore (pc := 8) K dX7_farBy_8 (by decide) ?_
  change G X 10 [.ref (X.B + 67), .int a1, .int a1, .int (0), .int (0), .int (1), .null, .null] [] s _
  refine g_aload_n (pc := 10) K 0 dX7_farBy_10 rfl rfl ?_
  refine gg_7_0 (pc := 11) K (by decide) kd_67 kX7_47 dX7_farBy_11 ?_
  refine g_iconst (pc := 14) K (1) dX7_farBy_14 (by decide) ?_
  refine g_isub (pc := 15) K dX7_farBy_15 ?_
  refine g_istore (pc := 16) K dX7_farBy_16 (by decide) ?_
  change G X 18 [.ref (X.B + 67), .int a1, .int a1, .int (0), .int (0), .int (1), .int ((s.1 67 0) - (1)), .null] [] s _
  refine g_weak (L' := [.ref (X.B + 67), .null, .int a1, .int (0), .int (0), .int (1), .int ((s.1 67 0) - (1)), .null]) ⟨rfl, ⟨rfl, ⟨rfl, ⟨rfl, ⟨rfl, ⟨rfl, trivial⟩⟩⟩⟩⟩⟩ ?_
  refine tM_X7_farBy_L18 K hR  _ (fun v16 v17 s18 => ?_) 400 a1 (0) (0) (1) ((s.1 67 0) - (1)) s
  refine g_iload (pc := 124) K dX7_farBy_124 rfl ?_
  refine g_if_eq (pc := 126) K 134 dX7_farBy_126 (by decide) ?_ ?_
  · refine g_iconst (pc := 134) K (-1) dX7_farBy_134 (by decide) ?_
    exact g_ir (pc := 135) hR dX7_farBy_135
  · refine g_iload (pc := 129) K dX7_farBy_129 rfl ?_
    refine g_goto (pc := 131) K 135 dX7_farBy_131 (by decide) ?_
    exact g_ir (pc := 135) hR dX7_farBy_135
theorem qX7_farBy (E : Ce) (a1 : Int32) : Con E yX7_farBy cX7_farBy 8 (some .int) 3 [.ref (E.B + 67), .int a1] (M_X7_farBy a1) :=
  Con.of (by decide) (List.forall_mem_cons.mpr ⟨rfl, List.forall_mem_cons.mpr ⟨rfl, fun _ h => absurd h List.not_mem_nil⟩⟩) (Nat.le_of_ble_eq_true rfl) (Or.inr (Or.inl rfl)) [.ref (E.B + 67), .int a1, .null, .null, .null, .null, .null, .null] ⟨rfl, ⟨rfl, trivial⟩⟩ (fun X s hE hok hI hZ hV => by subst hE; exact tX7_farBy hok (hI rfl) a1 s)
theorem hyX7_hang : yX7_hang.cls ≠ "java/lang/invoke/MethodHandle" ∧ yX7_hang.cls ≠ "java/lang/invoke/VarHandle" ∧ (parseMethodDescriptor yX7_hang.desc).map (fun d => d.parameters.length) = some 1 := by decide +kernel
set_option maxRecDepth 20000 in
set_option maxHeartbeats 4000000 in
theorem tM_X7_hang_L20 {X : Cx} (K : Ok X cX7_hang RX7 8 4) (hR : RI X cX7_hang) (x1 : Int32) (kk : Int32 → St → Option (Int32 × St)) (hkk : ∀ (x2 : Int32) (s : St), G X 39 [.ref (X.B + 67), .int x1, .int x2, .null, .null, .null, .null, .null] [] s (kk x2 s)) : ∀ (fu : Nat) (x2 x3 : Int32) (s : St), G X 20 [.ref (X.B + 67), .int x1, .int x2, .int x3, .null, .null, .null, .null] [] s (M_X7_hang_L20 x1 kk fu x2 x3 s) := by
  intro fu
  induction fu with
  | zero => intro x2 x3 s; exact g_none
  | succ fu ih =>
    intro x2 x3 s
    rw [M_X7_hang_L20]
    refine g_iload_n (pc := 20) K 3 dX7_hang_20 rfl rfl ?_
    refine g_aload_n (pc := 21) K 0 dX7_hang_21 rfl rfl ?_
    refine gg_7_0 (pc := 22) K (by decide) kd_67 kX7_47 dX7_hang_22 ?_
    refine g_icmp_ge (pc := 25) K 39 dX7_hang_25 (by decide) ?_ ?_
    · exact g_wk (hkk x2 s) ⟨rfl, ⟨rfl, ⟨rfl, trivial⟩⟩⟩
    · refine g_iload_n (pc := 28) K 2 dX7_hang_28 rfl rfl ?_
      refine g_bipush (pc := 29) K (6) dX7_hang_29 (by decide) ?_
      refine g_imul (pc := 31) K dX7_hang_31 ?_
      refine g_istore_n (pc := 32) K 2 dX7_hang_32 rfl (by decide) ?_
      change G X 33 [.ref (X.B + 67), .int x1, .int (x2 * (6)), .int x3, .null, .null, .null, .null] [] s _
      refine g_iinc (pc := 33) K (1) dX7_hang_33 rfl (by decide) (by decide) ?_
      change G X 36 [.ref (X.B + 67), .int x1, .int (x2 * (6)), .int (x3 + (1)), .null, .null, .null, .null] [] s _
      refine g_goto (pc := 36) K 20 dX7_hang_36 (by decide) ?_
      exact g_wk (ih (x2 * (6)) (x3 + (1)) s) ⟨rfl, ⟨rfl, ⟨rfl, ⟨rfl, trivial⟩⟩⟩⟩
set_option maxRecDepth 20000 in
set_option maxHeartbeats 4000000 in
theorem tM_X7_hang_L48 {X : Cx} (K : Ok X cX7_hang RX7 8 4) (hR : RI X cX7_hang) (x1 : Int32) (x2 : Int32) (kk : Int32 → Int32 → St → Option (Int32 × St)) (hkk : ∀ (x3 x4 : Int32) (s : St), G X 123 [.ref (X.B + 67), .int x1, .null, .int x3, .int x4, .null, .null, .null] [] s (kk x3 x4 s)) : ∀ (fu : Nat) (x3 x4 x5 : Int32) (s : St), G X 48 [.ref (X.B + 67), .int x1, .int x2, .int x3, .int x4, .int x5, .null, .null] [] s (M_X7_hang_L48 x1 x2 kk fu x3 x4 x5 s) := by
  intro fu
  induction fu with
  | zero => intro x3 x4 x5 s; exact g_none
  | succ fu ih =>
    intro x3 x4 x5 s
    rw [M_X7_hang_L48]
    refine g_iload (pc := 48) K dX7_hang_48 rfl ?_
    refine g_iload_n (pc := 50) K 2 dX7_hang_50 rfl rfl ?_
    refine g_icmp_ge (pc := 51) K 123 dX7_hang_51 (by decide) ?_ ?_
    · exact g_wk (hkk x3 x4 s) ⟨rfl, ⟨rfl, ⟨rfl, ⟨rfl, trivial⟩⟩⟩⟩
    · refine g_aload_n (pc := 54) K 0 dX7_hang_54 rfl rfl ?_
      refine gg_7_0 (pc := 55) K (by decide) kd_67 kX7_47 dX7_hang_55 ?_
      refine g_if_le (pc := 58) K 123 dX7_hang_58 (by decide) ?_ ?_
      · exact g_wk (hkk x3 x4 s) ⟨rfl, ⟨rfl, ⟨rfl, ⟨rfl, trivial⟩⟩⟩⟩
      · refine g_aload_n (pc := 61) K 0 dX7_hang_61 rfl rfl ?_
        refine g_iload (pc := 62) K dX7_hang_62 rfl ?_
        refine g_callV (pc := 64) (S := []) K (qX7_farBy X.E x5) (by decide) (ci := 7) rfl (fun _ => ⟨_, ce_7 kd_67⟩) (by decide) (by decide) wcX7_farBy wiX7 kX7_167 wmX7_farBy weX7_farBy hyX7_farBy rfl rfl (Nat.le_of_ble_eq_true rfl) dX7_hang_64 (fun r5 s6 => ?_)
        change G X 67 [.ref (X.B + 67), .int x1, .int x2, .int x3, .int x4, .int x5, .null, .null] [.int r5] s6 _
        refine g_istore (pc := 67) K dX7_hang_67 (by decide) ?_
        change G X 69 [.ref (X.B + 67), .int x1, .int x2, .int x3, .int x4, .int x5, .int r5, .null] [] s6 _
        refine g_iload (pc := 69) K dX7_hang_69 rfl ?_
        refine g_jn (κ := Int32 → St → Option (Int32 × St)) (fun kj7 => ∀ (v8 : Int32) (s9 : St), G X 89 [.ref (X.B + 67), .int x1, .int x2, .int x3, .int x4, .int x5, .int r5, .null] [.int v8] s9 (kj7 v8 s9)) (fun v8 s9 => ?_) (fun kj7 hkj7 => ?_)
        · refine g_istore (pc := 89) K dX7_hang_89 (by decide) ?_
          change G X 91 [.ref (X.B + 67), .int x1, .int x2, .int x3, .int x4, .int x5, .int r5, .int v8] [] s9 _
          refine g_iload (pc := 91) K dX7_hang_91 rfl ?_
          refine g_jn (κ := Int32 → St → Option (Int32 × St)) (fun kj10 => ∀ (v11 : Int32) (s12 : St), G X 103 [.ref (X.B + 67), .int x1, .int x2, .int x3, .null, .int x5, .int r5, .int v8] [.int v11] s12 (kj10 v11 s12)) (fun v11 s12 => ?_) (fun kj10 hkj10 => ?_)
          · refine g_istore (pc := 103) K dX7_hang_103 (by decide) ?_
            change G X 105 [.ref (X.B + 67), .int x1, .int x2, .int x3, .int v11, .int x5, .int r5, .int v8] [] s12 _
            refine g_iload (pc := 105) K dX7_hang_105 rfl ?_
            refine g_jn (κ := Int32 → St → Option (Int32 × St)) (fun kj13 => ∀ (v14 : Int32) (s15 : St), G X 116 [.ref (X.B + 67), .int x1, .int x2, .null, .int v11, .int x5, .null, .null] [.int v14] s15 (kj13 v14 s15)) (fun v14 s15 => ?_) (fun kj13 hkj13 => ?_)
            · refine g_istore_n (pc := 116) K 3 dX7_hang_116 rfl (by decide) ?_
              change G X 117 [.ref (X.B + 67), .int x1, .int x2, .int v14, .int v11, .int x5, .null, .null] [] s15 _
              refine g_iinc (pc := 117) K (1) dX7_hang_117 rfl (by decide) (by decide) ?_
              change G X 120 [.ref (X.B + 67), .int x1, .int x2, .int v14, .int v11, .int (x5 + (1)), .null, .null] [] s15 _
              refine g_goto (pc := 120) K 48 dX7_hang_120 (by decide) ?_
              exact g_wk (ih v14 v11 (x5 + (1)) s15) ⟨rfl, ⟨rfl, ⟨rfl, ⟨rfl, ⟨rfl, ⟨rfl, trivial⟩⟩⟩⟩⟩⟩
            · refine g_if_eq (pc := 107) K 115 dX7_hang_107 (by decide) ?_ ?_
              · refine g_iload_n (pc := 115) K 3 dX7_hang_115 rfl rfl ?_
                exact g_wk (hkj13 x3 s12) ⟨rfl, ⟨rfl, ⟨rfl, ⟨rfl, ⟨rfl, trivial⟩⟩⟩⟩⟩
              · refine g_iload (pc := 110) K dX7_hang_110 rfl ?_
                refine g_goto (pc := 112) K 116 dX7_hang_112 (by decide) ?_
                exact g_wk (hkj13 r5 s12) ⟨rfl, ⟨rfl, ⟨rfl, ⟨rfl, ⟨rfl, trivial⟩⟩⟩⟩⟩
          · refine g_if_eq (pc := 93) K 101 dX7_hang_93 (by decide) ?_ ?_
            · refine g_iload (pc := 101) K dX7_hang_101 rfl ?_
              exact g_wk (hkj10 x4 s9) ⟨rfl, ⟨rfl, ⟨rfl, ⟨rfl, ⟨rfl, ⟨rfl, ⟨rfl, trivial⟩⟩⟩⟩⟩⟩⟩
            · refine g_iload (pc := 96) K dX7_hang_96 rfl ?_
              refine g_goto (pc := 98) K 103 dX7_hang_98 (by decide) ?_
              exact g_wk (hkj10 x5 s9) ⟨rfl, ⟨rfl, ⟨rfl, ⟨rfl, ⟨rfl, ⟨rfl, ⟨rfl, trivial⟩⟩⟩⟩⟩⟩⟩
        · refine g_if_lt (pc := 71) K 88 dX7_hang_71 (by decide) ?_ ?_
          · refine g_iconst (pc := 88) K (0) dX7_hang_88 (by decide) ?_
            exact g_wk (hkj7 (0) s6) ⟨rfl, ⟨rfl, ⟨rfl, ⟨rfl, ⟨rfl, ⟨rfl, ⟨rfl, trivial⟩⟩⟩⟩⟩⟩⟩
          · refine g_iload_n (pc := 74) K 3 dX7_hang_74 rfl rfl ?_
            refine g_if_lt (pc := 75) K 84 dX7_hang_75 (by decide) ?_ ?_
            · refine g_iconst (pc := 84) K (1) dX7_hang_84 (by decide) ?_
              refine g_goto (pc := 85) K 89 dX7_hang_85 (by decide) ?_
              exact g_wk (hkj7 (1) s6) ⟨rfl, ⟨rfl, ⟨rfl, ⟨rfl, ⟨rfl, ⟨rfl, ⟨rfl, trivial⟩⟩⟩⟩⟩⟩⟩
            · refine g_iload (pc := 78) K dX7_hang_78 rfl ?_
              refine g_iload_n (pc := 80) K 3 dX7_hang_80 rfl rfl ?_
              refine g_icmp_ge (pc := 81) K 88 dX7_hang_81 (by decide) ?_ ?_
              · refine g_iconst (pc := 88) K (0) dX7_hang_88 (by decide) ?_
                exact g_wk (hkj7 (0) s6) ⟨rfl, ⟨rfl, ⟨rfl, ⟨rfl, ⟨rfl, ⟨rfl, ⟨rfl, trivial⟩⟩⟩⟩⟩⟩⟩
              · refine g_iconst (pc := 84) K (1) dX7_hang_84 (by decide) ?_
                refine g_goto (pc := 85) K 89 dX7_hang_85 (by decide) ?_
                exact g_wk (hkj7 (1) s6) ⟨rfl, ⟨rfl, ⟨rfl, ⟨rfl, ⟨rfl, ⟨rfl, ⟨rfl, trivial⟩⟩⟩⟩⟩⟩⟩
set_option maxRecDepth 20000 in
set_option maxHeartbeats 4000000 in
theorem tX7_hang {X : Cx} (K : Ok X cX7_hang RX7 8 4) (hR : RI X cX7_hang) (a1 : Int32) (s : St) : G X 0 [.ref (X.B + 67), .int a1, .null, .null, .null, .null, .null, .null] [] s (M_X7_hang a1 s) := by
  unfold M_X7_hang
  refine g_iload_n (pc := 0) K 1 dX7_hang_0 rfl rfl ?_
  refine g_iconst (pc := 1) K (-1) dX7_hang_1 (by decide) ?_
  refine g_aload_n (pc := 2) K 0 dX7_hang_2 rfl rfl ?_
  refine gg_7_0 (pc := 3) K (by decide) kd_67 kX7_47 dX7_hang_3 ?_
  refine g_iconst (pc := 6) K (1) dX7_hang_6 (by decide) ?_
  refine g_isub (pc := 7) K dX7_hang_7 ?_
  refine g_callS (pc := 8) (S := []) K (qX7_in X.E a1 (-1) ((s.1 67 0) - (1))) (by decide) (by decide) wcX7_in wiX7 kX7_51 wtX7_in hyX7_in rfl rfl (Nat.le_of_ble_eq_true rfl) dX7_hang_8 (fun r1 s2 => ?_)
  change G X 11 [.ref (X.B + 67), .int a1, .null, .null, .null, .null, .null, .null] [.int r1] s2 _
  refine g_if_ne (pc := 11) K 16 dX7_hang_11 (by decide) ?_ ?_
  · refine g_iconst (pc := 16) K (1) dX7_hang_16 (by decide) ?_
    refine g_istore_n (pc := 17) K 2 dX7_hang_17 rfl (by decide) ?_
    change G X 18 [.ref (X.B + 67), .int a1, .int (1), .null, .null, .null, .null, .null] [] s2 _
    refine g_iconst (pc := 18) K (0) dX7_hang_18 (by decide) ?_
    refine g_istore_n (pc := 19) K 3 dX7_hang_19 rfl (by decide) ?_
    change G X 20 [.ref (X.B + 67), .int a1, .int (1), .int (0), .null, .null, .null, .null] [] s2 _
    refine g_weak (L' := [.ref (X.B + 67), .int a1, .int (1), .int (0), .null, .null, .null, .null]) ⟨rfl, ⟨rfl, ⟨rfl, ⟨rfl, trivial⟩⟩⟩⟩ ?_
    refine tM_X7_hang_L20 K hR a1 _ (fun v3 s4 => ?_) 400 (1) (0) s2
    refine g_bipush (pc := 39) K (-9) dX7_hang_39 (by decide) ?_
    refine g_istore_n (pc := 41) K 3 dX7_hang_41 rfl (by decide) ?_
    change G X 42 [.ref (X.B + 67), .int a1, .int v3, .int (-9), .null, .null, .null, .null] [] s4 _
    refine g_iconst (pc := 42) K (0) dX7_hang_42 (by decide) ?_
    refine g_istore (pc := 43) K dX7_hang_43 (by decide) ?_
    change G X 45 [.ref (X.B + 67), .int a1, .int v3, .int (-9), .int (0), .null, .null, .null] [] s4 _
    refine g_iconst (pc := 45) K (0) dX7_hang_45 (by decide) ?_
    refine g_istore (pc := 46) K dX7_hang_46 (by decide) ?_
    change G X 48 [.ref (X.B + 67), .int a1, .int v3, .int (-9), .int (0), .int (0), .null, .null] [] s4 _
    refine g_weak (L' := [.ref (X.B + 67), .int a1, .int v3, .int (-9), .int (0), .int (0), .null, .null]) ⟨rfl, ⟨rfl, ⟨rfl, ⟨rfl, ⟨rfl, ⟨rfl, trivial⟩⟩⟩⟩⟩⟩ ?_
    refine tM_X7_hang_L48 K hR a1 v3 _ (fun v16 v17 s18 => ?_) 50000 (-9) (0) (0) s4
    refine g_iload_n (pc := 123) K 1 dX7_hang_123 rfl rfl ?_
    refine g_if_ge (pc := 124) K 129 dX7_hang_124 (by decide) ?_ ?_
    · refine g_aload_n (pc := 129) K 0 dX7_hang_129 rfl rfl ?_
      refine g_iload (pc := 130) K dX7_hang_130 rfl ?_
      refine g_callV (pc := 132) (S := []) K (qX7_farBy X.E v17) (by decide) (ci := 7) rfl (fun _ => ⟨_, ce_7 kd_67⟩) (by decide) (by decide) wcX7_farBy wiX7 kX7_167 wmX7_farBy weX7_farBy hyX7_farBy rfl rfl (Nat.le_of_ble_eq_true rfl) dX7_hang_132 (fun r19 s20 => ?_)
      change G X 135 [.ref (X.B + 67), .int a1, .null, .int v16, .int v17, .null, .null, .null] [.int r19] s20 _
      refine g_pop (pc := 135) K dX7_hang_135 rfl ?_
      refine g_aload_n (pc := 136) K 0 dX7_hang_136 rfl rfl ?_
      refine gg_7_24 (pc := 137) K (by decide) kd_67 kX7_44 dX7_hang_137 ?_
      refine g_iload_n (pc := 140) K 1 dX7_hang_140 rfl rfl ?_
      refine g_iaload (pc := 141) K (by decide) kd_79 ln_79 dX7_hang_141 (fun v21 => ?_)
      exact g_ir (pc := 142) hR dX7_hang_142
    · refine g_iload_n (pc := 127) K 3 dX7_hang_127 rfl rfl ?_
      exact g_ir (pc := 128) hR dX7_hang_128
  · refine g_iconst (pc := 14) K (-1) dX7_hang_14 (by decide) ?_
    exact g_ir (pc := 15) hR dX7_hang_15
theorem qX7_hang (E : Ce) (a1 : Int32) : Con E yX7_hang cX7_hang 8 (some .int) 4 [.ref (E.B + 67), .int a1] (M_X7_hang a1) :=
  Con.of (by decide) (List.forall_mem_cons.mpr ⟨rfl, List.forall_mem_cons.mpr ⟨rfl, fun _ h => absurd h List.not_mem_nil⟩⟩) (Nat.le_of_ble_eq_true rfl) (Or.inr (Or.inl rfl)) [.ref (E.B + 67), .int a1, .null, .null, .null, .null, .null, .null] ⟨rfl, ⟨rfl, trivial⟩⟩ (fun X s hE hok hI hZ hV => by subst hE; exact tX7_hang hok (hI rfl) a1 s)
theorem hyX7_lowest : yX7_lowest.cls ≠ "java/lang/invoke/MethodHandle" ∧ yX7_lowest.cls ≠ "java/lang/invoke/VarHandle" ∧ (parseMethodDescriptor yX7_lowest.desc).map (fun d => d.parameters.length) = some 3 := by decide +kernel
set_option maxRecDepth 20000 in
set_option maxHeartbeats 4000000 in
theorem tM_X7_lowest_L5 {X : Cx} (K : Ok X cX7_lowest RX7 6 1) (hR : RI X cX7_lowest) (x0 : Int32) (x1 : Int32) (x2 : Int32) (kk : Int32 → St → Option (Int32 × St)) (hkk : ∀ (x3 : Int32) (s : St), G X 26 [.int x0, .int x1, .int x2, .int x3, .null, .null] [] s (kk x3 s)) : ∀ (fu : Nat) (x3 x4 : Int32) (s : St), G X 5 [.int x0, .int x1, .int x2, .int x3, .int x4, .null] [] s (M_X7_lowest_L5 x0 x1 x2 kk fu x3 x4 s) := by
  intro fu
  induction fu with
  | zero => intro x3 x4 s; exact g_none
  | succ fu ih =>
    intro x3 x4 s
    rw [M_X7_lowest_L5]
    refine g_iload (pc := 5) K dX7_lowest_5 rfl ?_
    refine g_if_le (pc := 7) K 26 dX7_lowest_7 (by decide) ?_ ?_
    · exact g_wk (hkk x3 s) ⟨rfl, ⟨rfl, ⟨rfl, ⟨rfl, trivial⟩⟩⟩⟩
    · refine g_iload_n (pc := 10) K 3 dX7_lowest_10 rfl rfl ?_
      refine g_iload (pc := 11) K dX7_lowest_11 rfl ?_
      refine g_irem (pc := 13) K dX7_lowest_13 ?_
      refine g_istore (pc := 14) K dX7_lowest_14 (by decide) ?_
      change G X 16 [.int x0, .int x1, .int x2, .int x3, .int x4, .int (x3 - x3 / x4 * x4)] [] s _
      refine g_iload (pc := 16) K dX7_lowest_16 rfl ?_
      refine g_istore_n (pc := 18) K 3 dX7_lowest_18 rfl (by decide) ?_
      change G X 19 [.int x0, .int x1, .int x2, .int x4, .int x4, .int (x3 - x3 / x4 * x4)] [] s _
      refine g_iload (pc := 19) K dX7_lowest_19 rfl ?_
      refine g_istore (pc := 21) K dX7_lowest_21 (by decide) ?_
      change G X 23 [.int x0, .int x1, .int x2, .int x4, .int (x3 - x3 / x4 * x4), .int (x3 - x3 / x4 * x4)] [] s _
      refine g_goto (pc := 23) K 5 dX7_lowest_23 (by decide) ?_
      exact g_wk (ih x4 (x3 - x3 / x4 * x4) s) ⟨rfl, ⟨rfl, ⟨rfl, ⟨rfl, ⟨rfl, trivial⟩⟩⟩⟩⟩
set_option maxRecDepth 20000 in
set_option maxHeartbeats 4000000 in
theorem tX7_lowest {X : Cx} (K : Ok X cX7_lowest RX7 6 1) (hR : RI X cX7_lowest) (a0 : Int32) (a1 : Int32) (a2 : Int32) (s : St) : G X 0 [.int a0, .int a1, .int a2, .null, .null, .null] [] s (M_X7_lowest a0 a1 a2 s) := by
  unfold M_X7_lowest
  refine g_iload_n (pc := 0) K 0 dX7_lowest_0 rfl rfl ?_
  refine g_istore_n (pc := 1) K 3 dX7_lowest_1 rfl (by decide) ?_
  change G X 2 [.int a0, .int a1, .int a2, .int a0, .null, .null] [] s _
  refine g_iload_n (pc := 2) K 1 dX7_lowest_2 rfl rfl ?_
  refine g_istore (pc := 3) K dX7_lowest_3 (by decide) ?_
  change G X 5 [.int a0, .int a1, .int a2, .int a0, .int a1, .null] [] s _
  refine g_weak (L' := [.int a0, .int a1, .int a2, .int a0, .int a1, .null]) ⟨rfl, ⟨rfl, ⟨rfl, ⟨rfl, ⟨rfl, trivial⟩⟩⟩⟩⟩ ?_
  refine tM_X7_lowest_L5 K hR a0 a1 a2 _ (fun v1 s2 => ?_) 400 a0 a1 s
  refine g_iload_n (pc := 26) K 2 dX7_lowest_26 rfl rfl ?_
  refine g_if_ne (pc := 27) K 34 dX7_lowest_27 (by decide) ?_ ?_
  · refine g_iload_n (pc := 34) K 1 dX7_lowest_34 rfl rfl ?_
    refine g_iload_n (pc := 35) K 3 dX7_lowest_35 rfl rfl ?_
    refine g_idiv (pc := 36) K dX7_lowest_36 ?_
    exact g_ir (pc := 37) hR dX7_lowest_37
  · refine g_iload_n (pc := 30) K 0 dX7_lowest_30 rfl rfl ?_
    refine g_goto (pc := 31) K 35 dX7_lowest_31 (by decide) ?_
    refine g_iload_n (pc := 35) K 3 dX7_lowest_35 rfl rfl ?_
    refine g_idiv (pc := 36) K dX7_lowest_36 ?_
    exact g_ir (pc := 37) hR dX7_lowest_37
theorem qX7_lowest (E : Ce) (a0 : Int32) (a1 : Int32) (a2 : Int32) : Con E yX7_lowest cX7_lowest 6 (some .int) 1 [.int a0, .int a1, .int a2] (M_X7_lowest a0 a1 a2) :=
  Con.of (by decide) (List.forall_mem_cons.mpr ⟨rfl, List.forall_mem_cons.mpr ⟨rfl, List.forall_mem_cons.mpr ⟨rfl, fun _ h => absurd h List.not_mem_nil⟩⟩⟩) (Nat.le_of_ble_eq_true rfl) (Or.inr (Or.inl rfl)) [.int a0, .int a1, .int a2, .null, .null, .null] ⟨rfl, ⟨rfl, ⟨rfl, trivial⟩⟩⟩ (fun X s hE hok hI hZ hV => by subst hE; exact tX7_lowest hok (hI rfl) a0 a1 a2 s)
theorem hyX7_odds : yX7_odds.cls ≠ "java/lang/invoke/MethodHandle" ∧ yX7_odds.cls ≠ "java/lang/invoke/VarHandle" ∧ (parseMethodDescriptor yX7_odds.desc).map (fun d => d.parameters.length) = some 4 := by decide +kernel
set_option maxRecDepth 20000 in
set_option maxHeartbeats 4000000 in
theorem tM_X7_odds_L49 {X : Cx} (K : Ok X cX7_odds RX7 10 3) (hR : RI X cX7_odds) (x1 : Int32) (x2 : Int32) (x3 : Int32) (x4 : Int32) (x5 : Int32) (kk : Int32 → St → Option (Int32 × St)) (hkk : ∀ (x6 : Int32) (s : St), G X 68 [.ref (X.B + 67), .int x1, .int x2, .int x3, .int x4, .int x5, .int x6, .null, .null, .null] [] s (kk x6 s)) : ∀ (fu : Nat) (x6 x7 : Int32) (s : St), G X 49 [.ref (X.B + 67), .int x1, .int x2, .int x3, .int x4, .int x5, .int x6, .int x7, .null, .null] [] s (M_X7_odds_L49 x1 x2 x3 x4 x5 kk fu x6 x7 s) := by
  intro fu
  induction fu with
  | zero => intro x6 x7 s; exact g_none
  | succ fu ih =>
    intro x6 x7 s
    rw [M_X7_odds_L49]
    refine g_iload (pc := 49) K dX7_odds_49 rfl ?_
    refine g_iload_n (pc := 51) K 3 dX7_odds_51 rfl rfl ?_
    refine g_icmp_ge (pc := 52) K 68 dX7_odds_52 (by decide) ?_ ?_
    · exact g_wk (hkk x6 s) ⟨rfl, ⟨rfl, ⟨rfl, ⟨rfl, ⟨rfl, ⟨rfl, ⟨rfl, trivial⟩⟩⟩⟩⟩⟩⟩
    · refine g_iload (pc := 55) K dX7_odds_55 rfl ?_
      refine g_bipush (pc := 57) K (10) dX7_odds_57 (by decide) ?_
      refine g_imul (pc := 59) K dX7_odds_59 ?_
      refine g_istore (pc := 60) K dX7_odds_60 (by decide) ?_
      change G X 62 [.ref (X.B + 67), .int x1, .int x2, .int x3, .int x4, .int x5, .int (x6 * (10)), .int x7, .null, .null] [] s _
      refine g_iinc (pc := 62) K (1) dX7_odds_62 rfl (by decide) (by decide) ?_
      change G X 65 [.ref (X.B + 67), .int x1, .int x2, .int x3, .int x4, .int x5, .int (x6 * (10)), .int (x7 + (1)), .null, .null] [] s _
      refine g_goto (pc := 65) K 49 dX7_odds_65 (by decide) ?_
      exact g_wk (ih (x6 * (10)) (x7 + (1)) s) ⟨rfl, ⟨rfl, ⟨rfl, ⟨rfl, ⟨rfl, ⟨rfl, ⟨rfl, ⟨rfl, trivial⟩⟩⟩⟩⟩⟩⟩⟩
set_option maxRecDepth 20000 in
set_option maxHeartbeats 4000000 in
theorem tM_X7_odds_L85 {X : Cx} (K : Ok X cX7_odds RX7 10 3) (hR : RI X cX7_odds) (x1 : Int32) (x2 : Int32) (x3 : Int32) (x4 : Int32) (x5 : Int32) (x6 : Int32) (x7 : Int32) (kk : Int32 → St → Option (Int32 × St)) (hkk : ∀ (x8 : Int32) (s : St), G X 120 [.ref (X.B + 67), .int x1, .int x2, .int x3, .int x4, .int x5, .int x6, .int x7, .int x8, .null] [] s (kk x8 s)) : ∀ (fu : Nat) (x8 x9 : Int32) (s : St), G X 85 [.ref (X.B + 67), .int x1, .int x2, .int x3, .int x4, .int x5, .int x6, .int x7, .int x8, .int x9] [] s (M_X7_odds_L85 x1 x2 x3 x4 x5 x6 x7 kk fu x8 x9 s) := by
  intro fu
  induction fu with
  | zero => intro x8 x9 s; exact g_none
  | succ fu ih =>
    intro x8 x9 s
    rw [M_X7_odds_L85]
    refine g_iload (pc := 85) K dX7_odds_85 rfl ?_
    refine g_iload_n (pc := 87) K 3 dX7_odds_87 rfl rfl ?_
    refine g_icmp_ge (pc := 88) K 120 dX7_odds_88 (by decide) ?_ ?_
    · exact g_wk (hkk x8 s) ⟨rfl, ⟨rfl, ⟨rfl, ⟨rfl, ⟨rfl, ⟨rfl, ⟨rfl, ⟨rfl, ⟨rfl, trivial⟩⟩⟩⟩⟩⟩⟩⟩⟩
    · refine g_iload (pc := 91) K dX7_odds_91 rfl ?_
      refine g_iload (pc := 93) K dX7_odds_93 rfl ?_
      refine g_iload (pc := 95) K dX7_odds_95 rfl ?_
      refine g_callS (pc := 97) (S := [.int x8]) K (qX7_has X.E x7 x9) (by decide) (by decide) wcX7_has wiX7 kX7_117 wtX7_has hyX7_has rfl rfl (Nat.le_of_ble_eq_true rfl) dX7_odds_97 (fun r11 s12 => ?_)
      change G X 100 [.ref (X.B + 67), .int x1, .int x2, .int x3, .int x4, .int x5, .int x6, .int x7, .int x8, .int x9] [.int r11, .int x8] s12 _
      refine g_jn (κ := Int32 → St → Option (Int32 × St)) (fun kj13 => ∀ (v14 : Int32) (s15 : St), G X 111 [.ref (X.B + 67), .int x1, .int x2, .int x3, .int x4, .int x5, .int x6, .int x7, .null, .int x9] [.int v14, .int x8] s15 (kj13 v14 s15)) (fun v14 s15 => ?_) (fun kj13 hkj13 => ?_)
      · refine g_imul (pc := 111) K dX7_odds_111 ?_
        refine g_istore (pc := 112) K dX7_odds_112 (by decide) ?_
        change G X 114 [.ref (X.B + 67), .int x1, .int x2, .int x3, .int x4, .int x5, .int x6, .int x7, .int (x8 * v14), .int x9] [] s15 _
        refine g_iinc (pc := 114) K (1) dX7_odds_114 rfl (by decide) (by decide) ?_
        change G X 117 [.ref (X.B + 67), .int x1, .int x2, .int x3, .int x4, .int x5, .int x6, .int x7, .int (x8 * v14), .int (x9 + (1))] [] s15 _
        refine g_goto (pc := 117) K 85 dX7_odds_117 (by decide) ?_
        exact g_wk (ih (x8 * v14) (x9 + (1)) s15) ⟨rfl, ⟨rfl, ⟨rfl, ⟨rfl, ⟨rfl, ⟨rfl, ⟨rfl, ⟨rfl, ⟨rfl, ⟨rfl, trivial⟩⟩⟩⟩⟩⟩⟩⟩⟩⟩
      · refine g_if_eq (pc := 100) K 107 dX7_odds_100 (by decide) ?_ ?_
        · refine g_bipush (pc := 107) K (10) dX7_odds_107 (by decide) ?_
          refine g_iload_n (pc := 109) K 2 dX7_odds_109 rfl rfl ?_
          refine g_isub (pc := 110) K dX7_odds_110 ?_
          exact g_wk (hkj13 ((10) - x2) s12) ⟨rfl, ⟨rfl, ⟨rfl, ⟨rfl, ⟨rfl, ⟨rfl, ⟨rfl, ⟨rfl, ⟨rfl, trivial⟩⟩⟩⟩⟩⟩⟩⟩⟩
        · refine g_iload_n (pc := 103) K 2 dX7_odds_103 rfl rfl ?_
          refine g_goto (pc := 104) K 111 dX7_odds_104 (by decide) ?_
          exact g_wk (hkj13 x2 s12) ⟨rfl, ⟨rfl, ⟨rfl, ⟨rfl, ⟨rfl, ⟨rfl, ⟨rfl, ⟨rfl, ⟨rfl, trivial⟩⟩⟩⟩⟩⟩⟩⟩⟩
set_option maxRecDepth 20000 in
set_option maxHeartbeats 4000000 in
theorem tM_X7_odds_L71 {X : Cx} (K : Ok X cX7_odds RX7 10 3) (hR : RI X cX7_odds) (x1 : Int32) (x2 : Int32) (x3 : Int32) (x4 : Int32) (x6 : Int32) (kk : Int32 → St → Option (Int32 × St)) (hkk : ∀ (x5 : Int32) (s : St), G X 153 [.null, .null, .null, .null, .int x4, .int x5, .int x6, .null, .null, .null] [] s (kk x5 s)) : ∀ (fu : Nat) (x5 x7 : Int32) (s : St), G X 71 [.ref (X.B + 67), .int x1, .int x2, .int x3, .int x4, .int x5, .int x6, .int x7, .null, .null] [] s (M_X7_odds_L71 x1 x2 x3 x4 x6 kk fu x5 x7 s) := by
  intro fu
  induction fu with
  | zero => intro x5 x7 s; exact g_none
  | succ fu ih =>
    intro x5 x7 s
    rw [M_X7_odds_L71]
    refine g_iload (pc := 71) K dX7_odds_71 rfl ?_
    refine g_iconst (pc := 73) K (1) dX7_odds_73 (by decide) ?_
    refine g_iload_n (pc := 74) K 3 dX7_odds_74 rfl rfl ?_
    refine g_ishl (pc := 75) K dX7_odds_75 ?_
    refine g_icmp_ge (pc := 76) K 153 dX7_odds_76 (by decide) ?_ ?_
    · exact g_wk (hkk x5 s) ⟨rfl, ⟨rfl, ⟨rfl, trivial⟩⟩⟩
    · refine g_iconst (pc := 79) K (1) dX7_odds_79 (by decide) ?_
      refine g_istore (pc := 80) K dX7_odds_80 (by decide) ?_
      change G X 82 [.ref (X.B + 67), .int x1, .int x2, .int x3, .int x4, .int x5, .int x6, .int x7, .int (1), .null] [] s _
      refine g_iconst (pc := 82) K (0) dX7_odds_82 (by decide) ?_
      refine g_istore (pc := 83) K dX7_odds_83 (by decide) ?_
      change G X 85 [.ref (X.B + 67), .int x1, .int x2, .int x3, .int x4, .int x5, .int x6, .int x7, .int (1), .int (0)] [] s _
      refine g_weak (L' := [.ref (X.B + 67), .int x1, .int x2, .int x3, .int x4, .int x5, .int x6, .int x7, .int (1), .int (0)]) ⟨rfl, ⟨rfl, ⟨rfl, ⟨rfl, ⟨rfl, ⟨rfl, ⟨rfl, ⟨rfl, ⟨rfl, ⟨rfl, trivial⟩⟩⟩⟩⟩⟩⟩⟩⟩⟩ ?_
      refine tM_X7_odds_L85 K hR x1 x2 x3 x4 x5 x6 x7 _ (fun v16 s17 => ?_) 400 (1) (0) s
      refine g_iload (pc := 120) K dX7_odds_120 rfl ?_
      refine g_iload (pc := 122) K dX7_odds_122 rfl ?_
      refine g_callS (pc := 124) (S := [.int x5]) K (qX7_bits X.E x7) (by decide) (by decide) wcX7_bits wiX7 kX7_114 wtX7_bits hyX7_bits rfl rfl (Nat.le_of_ble_eq_true rfl) dX7_odds_124 (fun r18 s19 => ?_)
      change G X 127 [.ref (X.B + 67), .int x1, .int x2, .int x3, .int x4, .int x5, .int x6, .int x7, .int v16, .null] [.int r18, .int x5] s19 _
      refine g_aload_n (pc := 127) K 0 dX7_odds_127 rfl rfl ?_
      refine gg_7_4 (pc := 128) K (by decide) kd_67 kX7_19 dX7_odds_128 ?_
      refine g_iconst (pc := 131) K (2) dX7_odds_131 (by decide) ?_
      refine g_iload_n (pc := 132) K 1 dX7_odds_132 rfl rfl ?_
      refine g_iadd (pc := 133) K dX7_odds_133 ?_
      refine g_iaload (pc := 134) K (by decide) kd_71 ln_71 dX7_odds_134 (fun v20 => ?_)
      refine g_jn (κ := Int32 → St → Option (Int32 × St)) (fun kj21 => ∀ (v22 : Int32) (s23 : St), G X 144 [.ref (X.B + 67), .int x1, .int x2, .int x3, .int x4, .null, .int x6, .int x7, .null, .null] [.int v22, .int x5] s23 (kj21 v22 s23)) (fun v22 s23 => ?_) (fun kj21 hkj21 => ?_)
      · refine g_iadd (pc := 144) K dX7_odds_144 ?_
        refine g_istore (pc := 145) K dX7_odds_145 (by decide) ?_
        change G X 147 [.ref (X.B + 67), .int x1, .int x2, .int x3, .int x4, .int (x5 + v22), .int x6, .int x7, .null, .null] [] s23 _
        refine g_iinc (pc := 147) K (1) dX7_odds_147 rfl (by decide) (by decide) ?_
        change G X 150 [.ref (X.B + 67), .int x1, .int x2, .int x3, .int x4, .int (x5 + v22), .int x6, .int (x7 + (1)), .null, .null] [] s23 _
        refine g_goto (pc := 150) K 71 dX7_odds_150 (by decide) ?_
        exact g_wk (ih (x5 + v22) (x7 + (1)) s23) ⟨rfl, ⟨rfl, ⟨rfl, ⟨rfl, ⟨rfl, ⟨rfl, ⟨rfl, ⟨rfl, trivial⟩⟩⟩⟩⟩⟩⟩⟩
      · refine g_icmp_lt (pc := 135) K 143 dX7_odds_135 (by decide) ?_ ?_
        · refine g_iconst (pc := 143) K (0) dX7_odds_143 (by decide) ?_
          exact g_wk (hkj21 (0) s19) ⟨rfl, ⟨rfl, ⟨rfl, ⟨rfl, ⟨rfl, ⟨rfl, ⟨rfl, trivial⟩⟩⟩⟩⟩⟩⟩
        · refine g_iload (pc := 138) K dX7_odds_138 rfl ?_
          refine g_goto (pc := 140) K 144 dX7_odds_140 (by decide) ?_
          exact g_wk (hkj21 v16 s19) ⟨rfl, ⟨rfl, ⟨rfl, ⟨rfl, ⟨rfl, ⟨rfl, ⟨rfl, trivial⟩⟩⟩⟩⟩⟩⟩
set_option maxRecDepth 20000 in
set_option maxHeartbeats 4000000 in
theorem tX7_odds {X : Cx} (K : Ok X cX7_odds RX7 10 3) (hR : RI X cX7_odds) (a1 : Int32) (a2 : Int32) (a3 : Int32) (a4 : Int32) (s : St) : G X 0 [.ref (X.B + 67), .int a1, .int a2, .int a3, .int a4, .null, .null, .null, .null, .null] [] s (M_X7_odds a1 a2 a3 a4 s) := by
  unfold M_X7_odds
  refine g_aload_n (pc := 0) K 0 dX7_odds_0 rfl rfl ?_
  refine g_iload_n (pc := 1) K 1 dX7_odds_1 rfl rfl ?_
  refine g_callV (pc := 2) (S := []) K (qX7_isFarmer X.E a1) (by decide) (ci := 7) rfl (fun _ => ⟨_, ce_7 kd_67⟩) (by decide) (by decide) wcX7_isFarmer wiX7 kX7_143 wmX7_isFarmer weX7_isFarmer hyX7_isFarmer rfl rfl (Nat.le_of_ble_eq_true rfl) dX7_odds_2 (fun r1 s2 => ?_)
  change G X 5 [.ref (X.B + 67), .int a1, .int a2, .int a3, .int a4, .null, .null, .null, .null, .null] [.int r1] s2 _
  refine g_if_eq (pc := 5) K 38 dX7_odds_5 (by decide) ?_ ?_
  · refine g_iconst (pc := 38) K (-1) dX7_odds_38 (by decide) ?_
    exact g_ir (pc := 39) hR dX7_odds_39
  · refine g_iload_n (pc := 8) K 2 dX7_odds_8 rfl rfl ?_
    refine g_iconst (pc := 9) K (0) dX7_odds_9 (by decide) ?_
    refine g_bipush (pc := 10) K (10) dX7_odds_10 (by decide) ?_
    refine g_callS (pc := 12) (S := []) K (qX7_in X.E a2 (0) (10)) (by decide) (by decide) wcX7_in wiX7 kX7_51 wtX7_in hyX7_in rfl rfl (Nat.le_of_ble_eq_true rfl) dX7_odds_12 (fun r3 s4 => ?_)
    change G X 15 [.ref (X.B + 67), .int a1, .int a2, .int a3, .int a4, .null, .null, .null, .null, .null] [.int r3] s4 _
    refine g_if_eq (pc := 15) K 38 dX7_odds_15 (by decide) ?_ ?_
    · refine g_iconst (pc := 38) K (-1) dX7_odds_38 (by decide) ?_
      exact g_ir (pc := 39) hR dX7_odds_39
    · refine g_iload_n (pc := 18) K 3 dX7_odds_18 rfl rfl ?_
      refine g_iconst (pc := 19) K (0) dX7_odds_19 (by decide) ?_
      refine g_bipush (pc := 20) K (8) dX7_odds_20 (by decide) ?_
      refine g_callS (pc := 22) (S := []) K (qX7_in X.E a3 (0) (8)) (by decide) (by decide) wcX7_in wiX7 kX7_51 wtX7_in hyX7_in rfl rfl (Nat.le_of_ble_eq_true rfl) dX7_odds_22 (fun r5 s6 => ?_)
      change G X 25 [.ref (X.B + 67), .int a1, .int a2, .int a3, .int a4, .null, .null, .null, .null, .null] [.int r5] s6 _
      refine g_if_eq (pc := 25) K 38 dX7_odds_25 (by decide) ?_ ?_
      · refine g_iconst (pc := 38) K (-1) dX7_odds_38 (by decide) ?_
        exact g_ir (pc := 39) hR dX7_odds_39
      · refine g_iload (pc := 28) K dX7_odds_28 rfl ?_
        refine g_iconst (pc := 30) K (0) dX7_odds_30 (by decide) ?_
        refine g_iconst (pc := 31) K (1) dX7_odds_31 (by decide) ?_
        refine g_callS (pc := 32) (S := []) K (qX7_in X.E a4 (0) (1)) (by decide) (by decide) wcX7_in wiX7 kX7_51 wtX7_in hyX7_in rfl rfl (Nat.le_of_ble_eq_true rfl) dX7_odds_32 (fun r7 s8 => ?_)
        change G X 35 [.ref (X.B + 67), .int a1, .int a2, .int a3, .int a4, .null, .null, .null, .null, .null] [.int r7] s8 _
        refine g_if_ne (pc := 35) K 40 dX7_odds_35 (by decide) ?_ ?_
        · refine g_iconst (pc := 40) K (0) dX7_odds_40 (by decide) ?_
          refine g_istore (pc := 41) K dX7_odds_41 (by decide) ?_
          change G X 43 [.ref (X.B + 67), .int a1, .int a2, .int a3, .int a4, .int (0), .null, .null, .null, .null] [] s8 _
          refine g_iconst (pc := 43) K (1) dX7_odds_43 (by decide) ?_
          refine g_istore (pc := 44) K dX7_odds_44 (by decide) ?_
          change G X 46 [.ref (X.B + 67), .int a1, .int a2, .int a3, .int a4, .int (0), .int (1), .null, .null, .null] [] s8 _
          refine g_iconst (pc := 46) K (0) dX7_odds_46 (by decide) ?_
          refine g_istore (pc := 47) K dX7_odds_47 (by decide) ?_
          change G X 49 [.ref (X.B + 67), .int a1, .int a2, .int a3, .int a4, .int (0), .int (1), .int (0), .null, .null] [] s8 _
          refine g_weak (L' := [.ref (X.B + 67), .int a1, .int a2, .int a3, .int a4, .int (0), .int (1), .int (0), .null, .null]) ⟨rfl, ⟨rfl, ⟨rfl, ⟨rfl, ⟨rfl, ⟨rfl, ⟨rfl, ⟨rfl, trivial⟩⟩⟩⟩⟩⟩⟩⟩ ?_
          refine tM_X7_odds_L49 K hR a1 a2 a3 a4 (0) _ (fun v9 s10 => ?_) 400 (1) (0) s8
          refine g_iconst (pc := 68) K (0) dX7_odds_68 (by decide) ?_
          refine g_istore (pc := 69) K dX7_odds_69 (by decide) ?_
          change G X 71 [.ref (X.B + 67), .int a1, .int a2, .int a3, .int a4, .int (0), .int v9, .int (0), .null, .null] [] s10 _
          refine g_weak (L' := [.ref (X.B + 67), .int a1, .int a2, .int a3, .int a4, .int (0), .int v9, .int (0), .null, .null]) ⟨rfl, ⟨rfl, ⟨rfl, ⟨rfl, ⟨rfl, ⟨rfl, ⟨rfl, ⟨rfl, trivial⟩⟩⟩⟩⟩⟩⟩⟩ ?_
          refine tM_X7_odds_L71 K hR a1 a2 a3 a4 v9 _ (fun v24 s25 => ?_) 400 (0) (0) s10
          refine g_iload (pc := 153) K dX7_odds_153 rfl ?_
          refine g_iload (pc := 155) K dX7_odds_155 rfl ?_
          refine g_iload (pc := 157) K dX7_odds_157 rfl ?_
          refine g_callS (pc := 159) (S := []) K (qX7_lowest X.E v24 v9 a4) (by decide) (by decide) wcX7_lowest wiX7 kX7_170 wtX7_lowest hyX7_lowest rfl rfl (Nat.le_of_ble_eq_true rfl) dX7_odds_159 (fun r26 s27 => ?_)
          change G X 162 [.null, .null, .null, .null, .int a4, .int v24, .int v9, .null, .null, .null] [.int r26] s27 _
          exact g_ir (pc := 162) hR dX7_odds_162
        · refine g_iconst (pc := 38) K (-1) dX7_odds_38 (by decide) ?_
          exact g_ir (pc := 39) hR dX7_odds_39
theorem qX7_odds (E : Ce) (a1 : Int32) (a2 : Int32) (a3 : Int32) (a4 : Int32) : Con E yX7_odds cX7_odds 10 (some .int) 3 [.ref (E.B + 67), .int a1, .int a2, .int a3, .int a4] (M_X7_odds a1 a2 a3 a4) :=
  Con.of (by decide) (List.forall_mem_cons.mpr ⟨rfl, List.forall_mem_cons.mpr ⟨rfl, List.forall_mem_cons.mpr ⟨rfl, List.forall_mem_cons.mpr ⟨rfl, List.forall_mem_cons.mpr ⟨rfl, fun _ h => absurd h List.not_mem_nil⟩⟩⟩⟩⟩) (Nat.le_of_ble_eq_true rfl) (Or.inr (Or.inl rfl)) [.ref (E.B + 67), .int a1, .int a2, .int a3, .int a4, .null, .null, .null, .null, .null] ⟨rfl, ⟨rfl, ⟨rfl, ⟨rfl, ⟨rfl, trivial⟩⟩⟩⟩⟩ (fun X s hE hok hI hZ hV => by subst hE; exact tX7_odds hok (hI rfl) a1 a2 a3 a4 s)
theorem hyX7_sees : yX7_sees.cls ≠ "java/lang/invoke/MethodHandle" ∧ yX7_sees.cls ≠ "java/lang/invoke/VarHandle" ∧ (parseMethodDescriptor yX7_sees.desc).map (fun d => d.parameters.length) = some 3 := by decide +kernel
set_option maxRecDepth 20000 in
set_option maxHeartbeats 4000000 in
theorem tX7_sees {X : Cx} (K : Ok X cX7_sees RX7 4 2) (hR : RI X cX7_sees) (a1 : Int32) (a2 : Int32) (a3 : Int32) (s : St) : G X 0 [.ref (X.B + 67), .int a1, .int a2, .int a3] [] s (M_X7_sees a1 a2 a3 s) := by
  unfold M_X7_sees
  refine g_iload_n (pc := 0) K 1 dX7_sees_0 rfl rfl ?_
  refine g_iconst (pc := 1) K (0) dX7_sees_1 (by decide) ?_
  refine g_bipush (pc := 2) K (20) dX7_sees_2 (by decide) ?_
  refine g_callS (pc := 4) (S := []) K (qX7_in X.E a1 (0) (20)) (by decide) (by decide) wcX7_in wiX7 kX7_51 wtX7_in hyX7_in rfl rfl (Nat.le_of_ble_eq_true rfl) dX7_sees_4 (fun r1 s2 => ?_)
  change G X 7 [.ref (X.B + 67), .int a1, .int a2, .int a3] [.int r1] s2 _
  refine g_if_eq (pc := 7) K 29 dX7_sees_7 (by decide) ?_ ?_
  · refine g_iconst (pc := 29) K (-1) dX7_sees_29 (by decide) ?_
    exact g_ir (pc := 30) hR dX7_sees_30
  · refine g_iload_n (pc := 10) K 2 dX7_sees_10 rfl rfl ?_
    refine g_iconst (pc := 11) K (0) dX7_sees_11 (by decide) ?_
    refine g_bipush (pc := 12) K (6) dX7_sees_12 (by decide) ?_
    refine g_callS (pc := 14) (S := []) K (qX7_in X.E a2 (0) (6)) (by decide) (by decide) wcX7_in wiX7 kX7_51 wtX7_in hyX7_in rfl rfl (Nat.le_of_ble_eq_true rfl) dX7_sees_14 (fun r3 s4 => ?_)
    change G X 17 [.ref (X.B + 67), .int a1, .int a2, .int a3] [.int r3] s4 _
    refine g_if_eq (pc := 17) K 29 dX7_sees_17 (by decide) ?_ ?_
    · refine g_iconst (pc := 29) K (-1) dX7_sees_29 (by decide) ?_
      exact g_ir (pc := 30) hR dX7_sees_30
    · refine g_iload_n (pc := 20) K 3 dX7_sees_20 rfl rfl ?_
      refine g_iconst (pc := 21) K (0) dX7_sees_21 (by decide) ?_
      refine g_iconst (pc := 22) K (1) dX7_sees_22 (by decide) ?_
      refine g_callS (pc := 23) (S := []) K (qX7_in X.E a3 (0) (1)) (by decide) (by decide) wcX7_in wiX7 kX7_51 wtX7_in hyX7_in rfl rfl (Nat.le_of_ble_eq_true rfl) dX7_sees_23 (fun r5 s6 => ?_)
      change G X 26 [.ref (X.B + 67), .int a1, .int a2, .int a3] [.int r5] s6 _
      refine g_if_ne (pc := 26) K 31 dX7_sees_26 (by decide) ?_ ?_
      · refine g_aload_n (pc := 31) K 0 dX7_sees_31 rfl rfl ?_
        refine gg_7_9 (pc := 32) K (by decide) kd_67 kX7_107 dX7_sees_32 ?_
        refine g_bipush (pc := 35) K (6) dX7_sees_35 (by decide) ?_
        refine g_icmp_ne (pc := 37) K 43 dX7_sees_37 (by decide) ?_ ?_
        · refine g_aload_n (pc := 43) K 0 dX7_sees_43 rfl rfl ?_
          refine gg_7_10 (pc := 44) K (by decide) kd_67 kX7_32 dX7_sees_44 ?_
          refine g_iconst (pc := 47) K (3) dX7_sees_47 (by decide) ?_
          refine g_aload_n (pc := 48) K 0 dX7_sees_48 rfl rfl ?_
          refine gg_7_9 (pc := 49) K (by decide) kd_67 kX7_107 dX7_sees_49 ?_
          refine g_imul (pc := 52) K dX7_sees_52 ?_
          refine g_iload_n (pc := 53) K 1 dX7_sees_53 rfl rfl ?_
          refine g_iastore (pc := 54) K (by decide) kd_75 ln_75 dX7_sees_54 (fun s7 => ?_)
          refine g_aload_n (pc := 55) K 0 dX7_sees_55 rfl rfl ?_
          refine gg_7_10 (pc := 56) K (by decide) kd_67 kX7_32 dX7_sees_56 ?_
          refine g_iconst (pc := 59) K (3) dX7_sees_59 (by decide) ?_
          refine g_aload_n (pc := 60) K 0 dX7_sees_60 rfl rfl ?_
          refine gg_7_9 (pc := 61) K (by decide) kd_67 kX7_107 dX7_sees_61 ?_
          refine g_imul (pc := 64) K dX7_sees_64 ?_
          refine g_iconst (pc := 65) K (1) dX7_sees_65 (by decide) ?_
          refine g_iadd (pc := 66) K dX7_sees_66 ?_
          refine g_iload_n (pc := 67) K 2 dX7_sees_67 rfl rfl ?_
          refine g_iastore (pc := 68) K (by decide) kd_75 ln_75 dX7_sees_68 (fun s8 => ?_)
          refine g_aload_n (pc := 69) K 0 dX7_sees_69 rfl rfl ?_
          refine gg_7_10 (pc := 70) K (by decide) kd_67 kX7_32 dX7_sees_70 ?_
          refine g_iconst (pc := 73) K (3) dX7_sees_73 (by decide) ?_
          refine g_aload_n (pc := 74) K 0 dX7_sees_74 rfl rfl ?_
          refine gg_7_9 (pc := 75) K (by decide) kd_67 kX7_107 dX7_sees_75 ?_
          refine g_imul (pc := 78) K dX7_sees_78 ?_
          refine g_iconst (pc := 79) K (2) dX7_sees_79 (by decide) ?_
          refine g_iadd (pc := 80) K dX7_sees_80 ?_
          refine g_iload_n (pc := 81) K 3 dX7_sees_81 rfl rfl ?_
          refine g_iastore (pc := 82) K (by decide) kd_75 ln_75 dX7_sees_82 (fun s9 => ?_)
          refine g_aload_n (pc := 83) K 0 dX7_sees_83 rfl rfl ?_
          refine g_dup (pc := 84) K dX7_sees_84 rfl ?_
          refine gg_7_9 (pc := 85) K (by decide) kd_67 kX7_107 dX7_sees_85 ?_
          refine g_iconst (pc := 88) K (1) dX7_sees_88 (by decide) ?_
          refine g_iadd (pc := 89) K dX7_sees_89 ?_
          refine gp_7_9 (pc := 90) K (by decide) kd_67 kX7_107 dX7_sees_90 (fun s10 => ?_)
          refine g_aload_n (pc := 93) K 0 dX7_sees_93 rfl rfl ?_
          refine gg_7_9 (pc := 94) K (by decide) kd_67 kX7_107 dX7_sees_94 ?_
          exact g_ir (pc := 97) hR dX7_sees_97
        · refine g_bipush (pc := 40) K (-3) dX7_sees_40 (by decide) ?_
          exact g_ir (pc := 42) hR dX7_sees_42
      · refine g_iconst (pc := 29) K (-1) dX7_sees_29 (by decide) ?_
        exact g_ir (pc := 30) hR dX7_sees_30
theorem qX7_sees (E : Ce) (a1 : Int32) (a2 : Int32) (a3 : Int32) : Con E yX7_sees cX7_sees 4 (some .int) 2 [.ref (E.B + 67), .int a1, .int a2, .int a3] (M_X7_sees a1 a2 a3) :=
  Con.of (by decide) (List.forall_mem_cons.mpr ⟨rfl, List.forall_mem_cons.mpr ⟨rfl, List.forall_mem_cons.mpr ⟨rfl, List.forall_mem_cons.mpr ⟨rfl, fun _ h => absurd h List.not_mem_nil⟩⟩⟩⟩) (Nat.le_of_ble_eq_true rfl) (Or.inr (Or.inl rfl)) [.ref (E.B + 67), .int a1, .int a2, .int a3] ⟨rfl, ⟨rfl, ⟨rfl, ⟨rfl, trivial⟩⟩⟩⟩ (fun X s hE hok hI hZ hV => by subst hE; exact tX7_sees hok (hI rfl) a1 a2 a3 s)
theorem hyX7_forget : yX7_forget.cls ≠ "java/lang/invoke/MethodHandle" ∧ yX7_forget.cls ≠ "java/lang/invoke/VarHandle" ∧ (parseMethodDescriptor yX7_forget.desc).map (fun d => d.parameters.length) = some 0 := by decide +kernel
set_option maxRecDepth 20000 in
set_option maxHeartbeats 4000000 in
theorem tX7_forget {X : Cx} (K : Ok X cX7_forget RX7 2 1) (hR : RI X cX7_forget) (s : St) : G X 0 [.ref (X.B + 67), .null] [] s (M_X7_forget s) := by
  unfold M_X7_forget
  refine g_aload_n (pc := 0) K 0 dX7_forget_0 rfl rfl ?_
  refine gg_7_9 (pc := 1) K (by decide) kd_67 kX7_107 dX7_forget_1 ?_
  refine g_istore_n (pc := 4) K 1 dX7_forget_4 rfl (by decide) ?_
  change G X 5 [.ref (X.B + 67), .int (s.1 67 9)] [] s _
  refine g_aload_n (pc := 5) K 0 dX7_forget_5 rfl rfl ?_
  refine g_iconst (pc := 6) K (0) dX7_forget_6 (by decide) ?_
  refine gp_7_9 (pc := 7) K (by decide) kd_67 kX7_107 dX7_forget_7 (fun s1 => ?_)
  refine g_iload_n (pc := 10) K 1 dX7_forget_10 rfl rfl ?_
  exact g_ir (pc := 11) hR dX7_forget_11
theorem qX7_forget (E : Ce) : Con E yX7_forget cX7_forget 2 (some .int) 1 [.ref (E.B + 67)] (M_X7_forget) :=
  Con.of (by decide) (List.forall_mem_cons.mpr ⟨rfl, fun _ h => absurd h List.not_mem_nil⟩) (Nat.le_of_ble_eq_true rfl) (Or.inr (Or.inl rfl)) [.ref (E.B + 67), .null] ⟨rfl, trivial⟩ (fun X s hE hok hI hZ hV => by subst hE; exact tX7_forget hok (hI rfl) s)
theorem hyX7_hadAsked : yX7_hadAsked.cls ≠ "java/lang/invoke/MethodHandle" ∧ yX7_hadAsked.cls ≠ "java/lang/invoke/VarHandle" ∧ (parseMethodDescriptor yX7_hadAsked.desc).map (fun d => d.parameters.length) = some 4 := by decide +kernel
set_option maxRecDepth 20000 in
set_option maxHeartbeats 4000000 in
theorem tX7_hadAsked {X : Cx} (K : Ok X cX7_hadAsked RX7 4 1) (hR : RZ X cX7_hadAsked) (a0 : Int32) (a1 : Int32) (a2 : Int32) (a3 : Int32) (s : St) : G X 0 [.int a0, .int a1, .int a2, .int a3] [] s (M_X7_hadAsked a0 a1 a2 a3 s) := by
  unfold M_X7_hadAsked
  refine g_iload_n (pc := 0) K 0 dX7_hadAsked_0 rfl rfl ?_
  refine g_iload_n (pc := 1) K 2 dX7_hadAsked_1 rfl rfl ?_
  refine g_icmp_le (pc := 2) K 10 dX7_hadAsked_2 (by decide) ?_ ?_
  · refine g_iconst (pc := 10) K (1) dX7_hadAsked_10 (by decide) ?_
    refine g_goto (pc := 11) K 15 dX7_hadAsked_11 (by decide) ?_
    exact g_zr1 (pc := 15) hR dX7_hadAsked_15
  · refine g_iload_n (pc := 5) K 1 dX7_hadAsked_5 rfl rfl ?_
    refine g_iload_n (pc := 6) K 3 dX7_hadAsked_6 rfl rfl ?_
    refine g_icmp_gt (pc := 7) K 14 dX7_hadAsked_7 (by decide) ?_ ?_
    · refine g_iconst (pc := 14) K (0) dX7_hadAsked_14 (by decide) ?_
      exact g_zr0 (pc := 15) hR dX7_hadAsked_15
    · refine g_iconst (pc := 10) K (1) dX7_hadAsked_10 (by decide) ?_
      refine g_goto (pc := 11) K 15 dX7_hadAsked_11 (by decide) ?_
      exact g_zr1 (pc := 15) hR dX7_hadAsked_15
theorem qX7_hadAsked (E : Ce) (a0 : Int32) (a1 : Int32) (a2 : Int32) (a3 : Int32) : Con E yX7_hadAsked cX7_hadAsked 4 (some .boolean) 1 [.int a0, .int a1, .int a2, .int a3] (M_X7_hadAsked a0 a1 a2 a3) :=
  Con.of (by decide) (List.forall_mem_cons.mpr ⟨rfl, List.forall_mem_cons.mpr ⟨rfl, List.forall_mem_cons.mpr ⟨rfl, List.forall_mem_cons.mpr ⟨rfl, fun _ h => absurd h List.not_mem_nil⟩⟩⟩⟩) (Nat.le_of_ble_eq_true rfl) (Or.inr (Or.inr rfl)) [.int a0, .int a1, .int a2, .int a3] ⟨rfl, ⟨rfl, ⟨rfl, ⟨rfl, trivial⟩⟩⟩⟩ (fun X s hE hok hI hZ hV => by subst hE; exact tX7_hadAsked hok (hZ rfl) a0 a1 a2 a3 s)
theorem hyX7_isSo : yX7_isSo.cls ≠ "java/lang/invoke/MethodHandle" ∧ yX7_isSo.cls ≠ "java/lang/invoke/VarHandle" ∧ (parseMethodDescriptor yX7_isSo.desc).map (fun d => d.parameters.length) = some 2 := by decide +kernel
set_option maxRecDepth 20000 in
set_option maxHeartbeats 4000000 in
theorem tM_X7_isSo_L5 {X : Cx} (K : Ok X cX7_isSo RX7 5 2) (hR : RZ X cX7_isSo) (x1 : Int32) (x2 : Int32) (kk : Int32 → St → Option (Int32 × St)) (hkk : ∀ (x3 : Int32) (s : St), G X 78 [.null, .null, .null, .int x3, .null] [] s (kk x3 s)) : ∀ (fu : Nat) (x3 x4 : Int32) (s : St), G X 5 [.ref (X.B + 67), .int x1, .int x2, .int x3, .int x4] [] s (M_X7_isSo_L5 x1 x2 kk fu x3 x4 s) := by
  intro fu
  induction fu with
  | zero => intro x3 x4 s; exact g_none
  | succ fu ih =>
    intro x3 x4 s
    rw [M_X7_isSo_L5]
    refine g_iload (pc := 5) K dX7_isSo_5 rfl ?_
    refine g_aload_n (pc := 7) K 0 dX7_isSo_7 rfl rfl ?_
    refine gg_7_9 (pc := 8) K (by decide) kd_67 kX7_107 dX7_isSo_8 ?_
    refine g_icmp_ge (pc := 11) K 78 dX7_isSo_11 (by decide) ?_ ?_
    · exact g_wk (hkk x3 s) ⟨rfl, trivial⟩
    · refine g_iload_n (pc := 14) K 3 dX7_isSo_14 rfl rfl ?_
      refine g_jn (κ := Int32 → St → Option (Int32 × St)) (fun kj1 => ∀ (v2 : Int32) (s3 : St), G X 71 [.ref (X.B + 67), .int x1, .int x2, .null, .int x4] [.int v2] s3 (kj1 v2 s3)) (fun v2 s3 => ?_) (fun kj1 hkj1 => ?_)
      · refine g_istore_n (pc := 71) K 3 dX7_isSo_71 rfl (by decide) ?_
        change G X 72 [.ref (X.B + 67), .int x1, .int x2, .int v2, .int x4] [] s3 _
        refine g_iinc (pc := 72) K (1) dX7_isSo_72 rfl (by decide) (by decide) ?_
        change G X 75 [.ref (X.B + 67), .int x1, .int x2, .int v2, .int (x4 + (1))] [] s3 _
        refine g_goto (pc := 75) K 5 dX7_isSo_75 (by decide) ?_
        exact g_wk (ih v2 (x4 + (1)) s3) ⟨rfl, ⟨rfl, ⟨rfl, ⟨rfl, ⟨rfl, trivial⟩⟩⟩⟩⟩
      · refine g_if_eq (pc := 15) K 70 dX7_isSo_15 (by decide) ?_ ?_
        · refine g_iconst (pc := 70) K (0) dX7_isSo_70 (by decide) ?_
          exact g_wk (hkj1 (0) s) ⟨rfl, ⟨rfl, ⟨rfl, ⟨rfl, trivial⟩⟩⟩⟩
        · refine g_iload_n (pc := 18) K 1 dX7_isSo_18 rfl rfl ?_
          refine g_iload_n (pc := 19) K 2 dX7_isSo_19 rfl rfl ?_
          refine g_aload_n (pc := 20) K 0 dX7_isSo_20 rfl rfl ?_
          refine gg_7_10 (pc := 21) K (by decide) kd_67 kX7_32 dX7_isSo_21 ?_
          refine g_iconst (pc := 24) K (3) dX7_isSo_24 (by decide) ?_
          refine g_iload (pc := 25) K dX7_isSo_25 rfl ?_
          refine g_imul (pc := 27) K dX7_isSo_27 ?_
          refine g_iaload (pc := 28) K (by decide) kd_75 ln_75 dX7_isSo_28 (fun v4 => ?_)
          refine g_aload_n (pc := 29) K 0 dX7_isSo_29 rfl rfl ?_
          refine gg_7_10 (pc := 30) K (by decide) kd_67 kX7_32 dX7_isSo_30 ?_
          refine g_iconst (pc := 33) K (3) dX7_isSo_33 (by decide) ?_
          refine g_iload (pc := 34) K dX7_isSo_34 rfl ?_
          refine g_imul (pc := 36) K dX7_isSo_36 ?_
          refine g_iconst (pc := 37) K (1) dX7_isSo_37 (by decide) ?_
          refine g_iadd (pc := 38) K dX7_isSo_38 ?_
          refine g_iaload (pc := 39) K (by decide) kd_75 ln_75 dX7_isSo_39 (fun v5 => ?_)
          refine g_callS (pc := 40) (S := []) K (qX7_hadAsked X.E x1 x2 v4 v5) (by decide) (by decide) wcX7_hadAsked wiX7 kX7_174 wtX7_hadAsked hyX7_hadAsked rfl rfl (Nat.le_of_ble_eq_true rfl) dX7_isSo_40 (fun r6 s7 => ?_)
          change G X 43 [.ref (X.B + 67), .int x1, .int x2, .int x3, .int x4] [.int r6] s7 _
          refine g_aload_n (pc := 43) K 0 dX7_isSo_43 rfl rfl ?_
          refine gg_7_10 (pc := 44) K (by decide) kd_67 kX7_32 dX7_isSo_44 ?_
          refine g_iconst (pc := 47) K (3) dX7_isSo_47 (by decide) ?_
          refine g_iload (pc := 48) K dX7_isSo_48 rfl ?_
          refine g_imul (pc := 50) K dX7_isSo_50 ?_
          refine g_iconst (pc := 51) K (2) dX7_isSo_51 (by decide) ?_
          refine g_iadd (pc := 52) K dX7_isSo_52 ?_
          refine g_iaload (pc := 53) K (by decide) kd_75 ln_75 dX7_isSo_53 (fun v8 => ?_)
          refine g_iconst (pc := 54) K (1) dX7_isSo_54 (by decide) ?_
          refine g_jn (κ := Int32 → St → Option (Int32 × St)) (fun kj9 => ∀ (v10 : Int32) (s11 : St), G X 63 [.ref (X.B + 67), .int x1, .int x2, .null, .int x4] [.int v10, .int r6] s11 (kj9 v10 s11)) (fun v10 s11 => ?_) (fun kj9 hkj9 => ?_)
          · refine g_icmp_ne (pc := 63) K 70 dX7_isSo_63 (by decide) ?_ ?_
            · refine g_iconst (pc := 70) K (0) dX7_isSo_70 (by decide) ?_
              exact g_wk (hkj1 (0) s11) ⟨rfl, ⟨rfl, ⟨rfl, ⟨rfl, trivial⟩⟩⟩⟩
            · refine g_iconst (pc := 66) K (1) dX7_isSo_66 (by decide) ?_
              refine g_goto (pc := 67) K 71 dX7_isSo_67 (by decide) ?_
              exact g_wk (hkj1 (1) s11) ⟨rfl, ⟨rfl, ⟨rfl, ⟨rfl, trivial⟩⟩⟩⟩
          · refine g_icmp_ne (pc := 55) K 62 dX7_isSo_55 (by decide) ?_ ?_
            · refine g_iconst (pc := 62) K (0) dX7_isSo_62 (by decide) ?_
              exact g_wk (hkj9 (0) s7) ⟨rfl, ⟨rfl, ⟨rfl, ⟨rfl, trivial⟩⟩⟩⟩
            · refine g_iconst (pc := 58) K (1) dX7_isSo_58 (by decide) ?_
              refine g_goto (pc := 59) K 63 dX7_isSo_59 (by decide) ?_
              exact g_wk (hkj9 (1) s7) ⟨rfl, ⟨rfl, ⟨rfl, ⟨rfl, trivial⟩⟩⟩⟩
set_option maxRecDepth 20000 in
set_option maxHeartbeats 4000000 in
theorem tX7_isSo {X : Cx} (K : Ok X cX7_isSo RX7 5 2) (hR : RZ X cX7_isSo) (a1 : Int32) (a2 : Int32) (s : St) : G X 0 [.ref (X.B + 67), .int a1, .int a2, .null, .null] [] s (M_X7_isSo a1 a2 s) := by
  unfold M_X7_isSo
  refine g_iconst (pc := 0) K (1) dX7_isSo_0 (by decide) ?_
  refine g_istore_n (pc := 1) K 3 dX7_isSo_1 rfl (by decide) ?_
  change G X 2 [.ref (X.B + 67), .int a1, .int a2, .int (1), .null] [] s _
  refine g_iconst (pc := 2) K (0) dX7_isSo_2 (by decide) ?_
  refine g_istore (pc := 3) K dX7_isSo_3 (by decide) ?_
  change G X 5 [.ref (X.B + 67), .int a1, .int a2, .int (1), .int (0)] [] s _
  refine g_weak (L' := [.ref (X.B + 67), .int a1, .int a2, .int (1), .int (0)]) ⟨rfl, ⟨rfl, ⟨rfl, ⟨rfl, ⟨rfl, trivial⟩⟩⟩⟩⟩ ?_
  refine tM_X7_isSo_L5 K hR a1 a2 _ (fun v12 s13 => ?_) 400 (1) (0) s
  refine g_iload_n (pc := 78) K 3 dX7_isSo_78 rfl rfl ?_
  exact g_zr (pc := 79) hR dX7_isSo_79
theorem qX7_isSo (E : Ce) (a1 : Int32) (a2 : Int32) : Con E yX7_isSo cX7_isSo 5 (some .boolean) 2 [.ref (E.B + 67), .int a1, .int a2] (M_X7_isSo a1 a2) :=
  Con.of (by decide) (List.forall_mem_cons.mpr ⟨rfl, List.forall_mem_cons.mpr ⟨rfl, List.forall_mem_cons.mpr ⟨rfl, fun _ h => absurd h List.not_mem_nil⟩⟩⟩) (Nat.le_of_ble_eq_true rfl) (Or.inr (Or.inr rfl)) [.ref (E.B + 67), .int a1, .int a2, .null, .null] ⟨rfl, ⟨rfl, ⟨rfl, trivial⟩⟩⟩ (fun X s hE hok hI hZ hV => by subst hE; exact tX7_isSo hok (hZ rfl) a1 a2 s)
theorem hyX7_ones : yX7_ones.cls ≠ "java/lang/invoke/MethodHandle" ∧ yX7_ones.cls ≠ "java/lang/invoke/VarHandle" ∧ (parseMethodDescriptor yX7_ones.desc).map (fun d => d.parameters.length) = some 1 := by decide +kernel
set_option maxRecDepth 20000 in
set_option maxHeartbeats 4000000 in
theorem tM_X7_ones_L33 {X : Cx} (K : Ok X cX7_ones RX7 7 3) (hR : RI X cX7_ones) (x1 : Int32) (x5 : Int32) (kk : Int32 → Int32 → Int32 → St → Option (Int32 × St)) (hkk : ∀ (x2 x3 x4 : Int32) (s : St), G X 75 [.ref (X.B + 67), .int x1, .int x2, .int x3, .int x4, .int x5, .null] [] s (kk x2 x3 x4 s)) : ∀ (fu : Nat) (x2 x3 x4 x6 : Int32) (s : St), G X 33 [.ref (X.B + 67), .int x1, .int x2, .int x3, .int x4, .int x5, .int x6] [] s (M_X7_ones_L33 x1 x5 kk fu x2 x3 x4 x6 s) := by
  intro fu
  induction fu with
  | zero => intro x2 x3 x4 x6 s; exact g_none
  | succ fu ih =>
    intro x2 x3 x4 x6 s
    rw [M_X7_ones_L33]
    refine g_iload (pc := 33) K dX7_ones_33 rfl ?_
    refine g_bipush (pc := 35) K (6) dX7_ones_35 (by decide) ?_
    refine g_icmp_gt (pc := 37) K 75 dX7_ones_37 (by decide) ?_ ?_
    · exact g_wk (hkk x2 x3 x4 s) ⟨rfl, ⟨rfl, ⟨rfl, ⟨rfl, ⟨rfl, ⟨rfl, trivial⟩⟩⟩⟩⟩⟩
    · refine g_aload_n (pc := 40) K 0 dX7_ones_40 rfl rfl ?_
      refine g_iload (pc := 41) K dX7_ones_41 rfl ?_
      refine g_iload (pc := 43) K dX7_ones_43 rfl ?_
      refine g_callV (pc := 45) (S := []) K (qX7_isSo X.E x5 x6) (by decide) (ci := 7) rfl (fun _ => ⟨_, ce_7 kd_67⟩) (by decide) (by decide) wcX7_isSo wiX7 kX7_178 wmX7_isSo weX7_isSo hyX7_isSo rfl rfl (Nat.le_of_ble_eq_true rfl) dX7_ones_45 (fun r3 s4 => ?_)
      change G X 48 [.ref (X.B + 67), .int x1, .int x2, .int x3, .int x4, .int x5, .int x6] [.int r3] s4 _
      refine g_jn (κ := Int32 → Int32 → Int32 → St → Option (Int32 × St)) (fun kj5 => ∀ (v6 v7 v8 : Int32) (s9 : St), G X 69 [.ref (X.B + 67), .int x1, .int v6, .int v7, .int v8, .int x5, .int x6] [] s9 (kj5 v6 v7 v8 s9)) (fun v6 v7 v8 s9 => ?_) (fun kj5 hkj5 => ?_)
      · refine g_iinc (pc := 69) K (1) dX7_ones_69 rfl (by decide) (by decide) ?_
        change G X 72 [.ref (X.B + 67), .int x1, .int v6, .int v7, .int v8, .int x5, .int (x6 + (1))] [] s9 _
        refine g_goto (pc := 72) K 33 dX7_ones_72 (by decide) ?_
        exact g_wk (ih v6 v7 v8 (x6 + (1)) s9) ⟨rfl, ⟨rfl, ⟨rfl, ⟨rfl, ⟨rfl, ⟨rfl, ⟨rfl, trivial⟩⟩⟩⟩⟩⟩⟩
      · refine g_if_eq (pc := 48) K 69 dX7_ones_48 (by decide) ?_ ?_
        · exact g_wk (hkj5 x2 x3 x4 s4) ⟨rfl, ⟨rfl, ⟨rfl, ⟨rfl, ⟨rfl, ⟨rfl, ⟨rfl, trivial⟩⟩⟩⟩⟩⟩⟩
        · refine g_iload_n (pc := 51) K 2 dX7_ones_51 rfl rfl ?_
          refine g_jn (κ := Int32 → St → Option (Int32 × St)) (fun kj10 => ∀ (v11 : Int32) (s12 : St), G X 61 [.ref (X.B + 67), .int x1, .int x2, .null, .null, .int x5, .int x6] [.int v11] s12 (kj10 v11 s12)) (fun v11 s12 => ?_) (fun kj10 hkj10 => ?_)
          · refine g_istore_n (pc := 61) K 3 dX7_ones_61 rfl (by decide) ?_
            change G X 62 [.ref (X.B + 67), .int x1, .int x2, .int v11, .null, .int x5, .int x6] [] s12 _
            refine g_iload (pc := 62) K dX7_ones_62 rfl ?_
            refine g_istore (pc := 64) K dX7_ones_64 (by decide) ?_
            change G X 66 [.ref (X.B + 67), .int x1, .int x2, .int v11, .int x5, .int x5, .int x6] [] s12 _
            refine g_iinc (pc := 66) K (1) dX7_ones_66 rfl (by decide) (by decide) ?_
            change G X 69 [.ref (X.B + 67), .int x1, .int (x2 + (1)), .int v11, .int x5, .int x5, .int x6] [] s12 _
            exact g_wk (hkj5 (x2 + (1)) v11 x5 s12) ⟨rfl, ⟨rfl, ⟨rfl, ⟨rfl, ⟨rfl, ⟨rfl, ⟨rfl, trivial⟩⟩⟩⟩⟩⟩⟩
          · refine g_if_ne (pc := 52) K 60 dX7_ones_52 (by decide) ?_ ?_
            · refine g_iload_n (pc := 60) K 3 dX7_ones_60 rfl rfl ?_
              exact g_wk (hkj10 x3 s4) ⟨rfl, ⟨rfl, ⟨rfl, ⟨rfl, ⟨rfl, trivial⟩⟩⟩⟩⟩
            · refine g_iload (pc := 55) K dX7_ones_55 rfl ?_
              refine g_goto (pc := 57) K 61 dX7_ones_57 (by decide) ?_
              exact g_wk (hkj10 x5 s4) ⟨rfl, ⟨rfl, ⟨rfl, ⟨rfl, ⟨rfl, trivial⟩⟩⟩⟩⟩
set_option maxRecDepth 20000 in
set_option maxHeartbeats 4000000 in
theorem tM_X7_ones_L23 {X : Cx} (K : Ok X cX7_ones RX7 7 3) (hR : RI X cX7_ones) (x1 : Int32) (kk : Int32 → Int32 → Int32 → St → Option (Int32 × St)) (hkk : ∀ (x2 x3 x4 : Int32) (s : St), G X 81 [.null, .int x1, .int x2, .int x3, .int x4, .null, .null] [] s (kk x2 x3 x4 s)) : ∀ (fu : Nat) (x2 x3 x4 x5 : Int32) (s : St), G X 23 [.ref (X.B + 67), .int x1, .int x2, .int x3, .int x4, .int x5, .null] [] s (M_X7_ones_L23 x1 kk fu x2 x3 x4 x5 s) := by
  intro fu
  induction fu with
  | zero => intro x2 x3 x4 x5 s; exact g_none
  | succ fu ih =>
    intro x2 x3 x4 x5 s
    rw [M_X7_ones_L23]
    refine g_iload (pc := 23) K dX7_ones_23 rfl ?_
    refine g_bipush (pc := 25) K (20) dX7_ones_25 (by decide) ?_
    refine g_icmp_gt (pc := 27) K 81 dX7_ones_27 (by decide) ?_ ?_
    · exact g_wk (hkk x2 x3 x4 s) ⟨rfl, ⟨rfl, ⟨rfl, ⟨rfl, trivial⟩⟩⟩⟩
    · refine g_iconst (pc := 30) K (0) dX7_ones_30 (by decide) ?_
      refine g_istore (pc := 31) K dX7_ones_31 (by decide) ?_
      change G X 33 [.ref (X.B + 67), .int x1, .int x2, .int x3, .int x4, .int x5, .int (0)] [] s _
      refine g_weak (L' := [.ref (X.B + 67), .int x1, .int x2, .int x3, .int x4, .int x5, .int (0)]) ⟨rfl, ⟨rfl, ⟨rfl, ⟨rfl, ⟨rfl, ⟨rfl, ⟨rfl, trivial⟩⟩⟩⟩⟩⟩⟩ ?_
      refine tM_X7_ones_L33 K hR x1 x5 _ (fun v13 v14 v15 s16 => ?_) 400 x2 x3 x4 (0) s
      refine g_iinc (pc := 75) K (1) dX7_ones_75 rfl (by decide) (by decide) ?_
      change G X 78 [.ref (X.B + 67), .int x1, .int v13, .int v14, .int v15, .int (x5 + (1)), .null] [] s16 _
      refine g_goto (pc := 78) K 23 dX7_ones_78 (by decide) ?_
      exact g_wk (ih v13 v14 v15 (x5 + (1)) s16) ⟨rfl, ⟨rfl, ⟨rfl, ⟨rfl, ⟨rfl, ⟨rfl, trivial⟩⟩⟩⟩⟩⟩
set_option maxRecDepth 20000 in
set_option maxHeartbeats 4000000 in
theorem tX7_ones {X : Cx} (K : Ok X cX7_ones RX7 7 3) (hR : RI X cX7_ones) (a1 : Int32) (s : St) : G X 0 [.ref (X.B + 67), .int a1, .null, .null, .null, .null, .null] [] s (M_X7_ones a1 s) := by
  unfold M_X7_ones
  refine g_iload_n (pc := 0) K 1 dX7_ones_0 rfl rfl ?_
  refine g_iconst (pc := 1) K (0) dX7_ones_1 (by decide) ?_
  refine g_iconst (pc := 2) K (2) dX7_ones_2 (by decide) ?_
  refine g_callS (pc := 3) (S := []) K (qX7_in X.E a1 (0) (2)) (by decide) (by decide) wcX7_in wiX7 kX7_51 wtX7_in hyX7_in rfl rfl (Nat.le_of_ble_eq_true rfl) dX7_ones_3 (fun r1 s2 => ?_)
  change G X 6 [.ref (X.B + 67), .int a1, .null, .null, .null, .null, .null] [.int r1] s2 _
  refine g_if_ne (pc := 6) K 11 dX7_ones_6 (by decide) ?_ ?_
  · refine g_iconst (pc := 11) K (0) dX7_ones_11 (by decide) ?_
    refine g_istore_n (pc := 12) K 2 dX7_ones_12 rfl (by decide) ?_
    change G X 13 [.ref (X.B + 67), .int a1, .int (0), .null, .null, .null, .null] [] s2 _
    refine g_bipush (pc := 13) K (-9) dX7_ones_13 (by decide) ?_
    refine g_istore_n (pc := 15) K 3 dX7_ones_15 rfl (by decide) ?_
    change G X 16 [.ref (X.B + 67), .int a1, .int (0), .int (-9), .null, .null, .null] [] s2 _
    refine g_bipush (pc := 16) K (-9) dX7_ones_16 (by decide) ?_
    refine g_istore (pc := 18) K dX7_ones_18 (by decide) ?_
    change G X 20 [.ref (X.B + 67), .int a1, .int (0), .int (-9), .int (-9), .null, .null] [] s2 _
    refine g_iconst (pc := 20) K (0) dX7_ones_20 (by decide) ?_
    refine g_istore (pc := 21) K dX7_ones_21 (by decide) ?_
    change G X 23 [.ref (X.B + 67), .int a1, .int (0), .int (-9), .int (-9), .int (0), .null] [] s2 _
    refine g_weak (L' := [.ref (X.B + 67), .int a1, .int (0), .int (-9), .int (-9), .int (0), .null]) ⟨rfl, ⟨rfl, ⟨rfl, ⟨rfl, ⟨rfl, ⟨rfl, trivial⟩⟩⟩⟩⟩⟩ ?_
    refine tM_X7_ones_L23 K hR a1 _ (fun v17 v18 v19 s20 => ?_) 400 (0) (-9) (-9) (0) s2
    refine g_iload_n (pc := 81) K 1 dX7_ones_81 rfl rfl ?_
    refine g_if_ne (pc := 82) K 89 dX7_ones_82 (by decide) ?_ ?_
    · refine g_iload_n (pc := 89) K 1 dX7_ones_89 rfl rfl ?_
      refine g_iconst (pc := 90) K (1) dX7_ones_90 (by decide) ?_
      refine g_icmp_ne (pc := 91) K 98 dX7_ones_91 (by decide) ?_ ?_
      · refine g_iload (pc := 98) K dX7_ones_98 rfl ?_
        exact g_ir (pc := 100) hR dX7_ones_100
      · refine g_iload_n (pc := 94) K 3 dX7_ones_94 rfl rfl ?_
        refine g_goto (pc := 95) K 100 dX7_ones_95 (by decide) ?_
        exact g_ir (pc := 100) hR dX7_ones_100
    · refine g_iload_n (pc := 85) K 2 dX7_ones_85 rfl rfl ?_
      refine g_goto (pc := 86) K 100 dX7_ones_86 (by decide) ?_
      exact g_ir (pc := 100) hR dX7_ones_100
  · refine g_iconst (pc := 9) K (-1) dX7_ones_9 (by decide) ?_
    exact g_ir (pc := 10) hR dX7_ones_10
theorem qX7_ones (E : Ce) (a1 : Int32) : Con E yX7_ones cX7_ones 7 (some .int) 3 [.ref (E.B + 67), .int a1] (M_X7_ones a1) :=
  Con.of (by decide) (List.forall_mem_cons.mpr ⟨rfl, List.forall_mem_cons.mpr ⟨rfl, fun _ h => absurd h List.not_mem_nil⟩⟩) (Nat.le_of_ble_eq_true rfl) (Or.inr (Or.inl rfl)) [.ref (E.B + 67), .int a1, .null, .null, .null, .null, .null] ⟨rfl, ⟨rfl, trivial⟩⟩ (fun X s hE hok hI hZ hV => by subst hE; exact tX7_ones hok (hI rfl) a1 s)
theorem hyX7_look : yX7_look.cls ≠ "java/lang/invoke/MethodHandle" ∧ yX7_look.cls ≠ "java/lang/invoke/VarHandle" ∧ (parseMethodDescriptor yX7_look.desc).map (fun d => d.parameters.length) = some 1 := by decide +kernel
set_option maxRecDepth 20000 in
set_option maxHeartbeats 4000000 in
theorem tM_X7_look_L57 {X : Cx} (K : Ok X cX7_look RX7 9 4) (hR : RI X cX7_look) (x1 : Int32) (x2 : Int32) (x3 : Int32) (x4 : Int32) (x5 : Int32) (x7 : Int32) (kk : Int32 → St → Option (Int32 × St)) (hkk : ∀ (x6 : Int32) (s : St), G X 104 [.ref (X.B + 67), .int x1, .int x2, .int x3, .int x4, .int x5, .int x6, .int x7, .null] [] s (kk x6 s)) : ∀ (fu : Nat) (x6 x8 : Int32) (s : St), G X 57 [.ref (X.B + 67), .int x1, .int x2, .int x3, .int x4, .int x5, .int x6, .int x7, .int x8] [] s (M_X7_look_L57 x1 x2 x3 x4 x5 x7 kk fu x6 x8 s) := by
  intro fu
  induction fu with
  | zero => intro x6 x8 s; exact g_none
  | succ fu ih =>
    intro x6 x8 s
    rw [M_X7_look_L57]
    refine g_iload (pc := 57) K dX7_look_57 rfl ?_
    refine g_bipush (pc := 59) K (6) dX7_look_59 (by decide) ?_
    refine g_icmp_gt (pc := 61) K 104 dX7_look_61 (by decide) ?_ ?_
    · exact g_wk (hkk x6 s) ⟨rfl, ⟨rfl, ⟨rfl, ⟨rfl, ⟨rfl, ⟨rfl, ⟨rfl, ⟨rfl, trivial⟩⟩⟩⟩⟩⟩⟩⟩
    · refine g_iload (pc := 64) K dX7_look_64 rfl ?_
      refine g_aload_n (pc := 66) K 0 dX7_look_66 rfl rfl ?_
      refine g_iload (pc := 67) K dX7_look_67 rfl ?_
      refine g_iload (pc := 69) K dX7_look_69 rfl ?_
      refine g_callV (pc := 71) (S := [.int x6]) K (qX7_isSo X.E x7 x8) (by decide) (ci := 7) rfl (fun _ => ⟨_, ce_7 kd_67⟩) (by decide) (by decide) wcX7_isSo wiX7 kX7_178 wmX7_isSo weX7_isSo hyX7_isSo rfl rfl (Nat.le_of_ble_eq_true rfl) dX7_look_71 (fun r5 s6 => ?_)
      change G X 74 [.ref (X.B + 67), .int x1, .int x2, .int x3, .int x4, .int x5, .int x6, .int x7, .int x8] [.int r5, .int x6] s6 _
      refine g_jn (κ := Int32 → St → Option (Int32 × St)) (fun kj7 => ∀ (v8 : Int32) (s9 : St), G X 95 [.ref (X.B + 67), .int x1, .int x2, .int x3, .int x4, .int x5, .null, .int x7, .int x8] [.int v8, .int x6] s9 (kj7 v8 s9)) (fun v8 s9 => ?_) (fun kj7 hkj7 => ?_)
      · refine g_iadd (pc := 95) K dX7_look_95 ?_
        refine g_istore (pc := 96) K dX7_look_96 (by decide) ?_
        change G X 98 [.ref (X.B + 67), .int x1, .int x2, .int x3, .int x4, .int x5, .int (x6 + v8), .int x7, .int x8] [] s9 _
        refine g_iinc (pc := 98) K (1) dX7_look_98 rfl (by decide) (by decide) ?_
        change G X 101 [.ref (X.B + 67), .int x1, .int x2, .int x3, .int x4, .int x5, .int (x6 + v8), .int x7, .int (x8 + (1))] [] s9 _
        refine g_goto (pc := 101) K 57 dX7_look_101 (by decide) ?_
        exact g_wk (ih (x6 + v8) (x8 + (1)) s9) ⟨rfl, ⟨rfl, ⟨rfl, ⟨rfl, ⟨rfl, ⟨rfl, ⟨rfl, ⟨rfl, ⟨rfl, trivial⟩⟩⟩⟩⟩⟩⟩⟩⟩
      · refine g_if_eq (pc := 74) K 94 dX7_look_74 (by decide) ?_ ?_
        · refine g_iconst (pc := 94) K (0) dX7_look_94 (by decide) ?_
          exact g_wk (hkj7 (0) s6) ⟨rfl, ⟨rfl, ⟨rfl, ⟨rfl, ⟨rfl, ⟨rfl, ⟨rfl, ⟨rfl, trivial⟩⟩⟩⟩⟩⟩⟩⟩
        · refine g_iload (pc := 77) K dX7_look_77 rfl ?_
          refine g_iload (pc := 79) K dX7_look_79 rfl ?_
          refine g_iload_n (pc := 81) K 1 dX7_look_81 rfl rfl ?_
          refine g_iload (pc := 82) K dX7_look_82 rfl ?_
          refine g_callS (pc := 84) (S := [.int x6]) K (qX7_hadAsked X.E x7 x8 x1 x5) (by decide) (by decide) wcX7_hadAsked wiX7 kX7_174 wtX7_hadAsked hyX7_hadAsked rfl rfl (Nat.le_of_ble_eq_true rfl) dX7_look_84 (fun r10 s11 => ?_)
          change G X 87 [.ref (X.B + 67), .int x1, .int x2, .int x3, .int x4, .int x5, .int x6, .int x7, .int x8] [.int r10, .int x6] s11 _
          refine g_if_eq (pc := 87) K 94 dX7_look_87 (by decide) ?_ ?_
          · refine g_iconst (pc := 94) K (0) dX7_look_94 (by decide) ?_
            exact g_wk (hkj7 (0) s11) ⟨rfl, ⟨rfl, ⟨rfl, ⟨rfl, ⟨rfl, ⟨rfl, ⟨rfl, ⟨rfl, trivial⟩⟩⟩⟩⟩⟩⟩⟩
          · refine g_iconst (pc := 90) K (1) dX7_look_90 (by decide) ?_
            refine g_goto (pc := 91) K 95 dX7_look_91 (by decide) ?_
            exact g_wk (hkj7 (1) s11) ⟨rfl, ⟨rfl, ⟨rfl, ⟨rfl, ⟨rfl, ⟨rfl, ⟨rfl, ⟨rfl, trivial⟩⟩⟩⟩⟩⟩⟩⟩
set_option maxRecDepth 20000 in
set_option maxHeartbeats 4000000 in
theorem tM_X7_look_L47 {X : Cx} (K : Ok X cX7_look RX7 9 4) (hR : RI X cX7_look) (x1 : Int32) (x2 : Int32) (x3 : Int32) (x4 : Int32) (x5 : Int32) (kk : Int32 → St → Option (Int32 × St)) (hkk : ∀ (x6 : Int32) (s : St), G X 110 [.ref (X.B + 67), .int x1, .int x2, .int x3, .int x4, .int x5, .int x6, .null, .null] [] s (kk x6 s)) : ∀ (fu : Nat) (x6 x7 : Int32) (s : St), G X 47 [.ref (X.B + 67), .int x1, .int x2, .int x3, .int x4, .int x5, .int x6, .int x7, .null] [] s (M_X7_look_L47 x1 x2 x3 x4 x5 kk fu x6 x7 s) := by
  intro fu
  induction fu with
  | zero => intro x6 x7 s; exact g_none
  | succ fu ih =>
    intro x6 x7 s
    rw [M_X7_look_L47]
    refine g_iload (pc := 47) K dX7_look_47 rfl ?_
    refine g_bipush (pc := 49) K (20) dX7_look_49 (by decide) ?_
    refine g_icmp_gt (pc := 51) K 110 dX7_look_51 (by decide) ?_ ?_
    · exact g_wk (hkk x6 s) ⟨rfl, ⟨rfl, ⟨rfl, ⟨rfl, ⟨rfl, ⟨rfl, ⟨rfl, trivial⟩⟩⟩⟩⟩⟩⟩
    · refine g_iconst (pc := 54) K (0) dX7_look_54 (by decide) ?_
      refine g_istore (pc := 55) K dX7_look_55 (by decide) ?_
      change G X 57 [.ref (X.B + 67), .int x1, .int x2, .int x3, .int x4, .int x5, .int x6, .int x7, .int (0)] [] s _
      refine g_weak (L' := [.ref (X.B + 67), .int x1, .int x2, .int x3, .int x4, .int x5, .int x6, .int x7, .int (0)]) ⟨rfl, ⟨rfl, ⟨rfl, ⟨rfl, ⟨rfl, ⟨rfl, ⟨rfl, ⟨rfl, ⟨rfl, trivial⟩⟩⟩⟩⟩⟩⟩⟩⟩ ?_
      refine tM_X7_look_L57 K hR x1 x2 x3 x4 x5 x7 _ (fun v12 s13 => ?_) 400 x6 (0) s
      refine g_iinc (pc := 104) K (1) dX7_look_104 rfl (by decide) (by decide) ?_
      change G X 107 [.ref (X.B + 67), .int x1, .int x2, .int x3, .int x4, .int x5, .int v12, .int (x7 + (1)), .null] [] s13 _
      refine g_goto (pc := 107) K 47 dX7_look_107 (by decide) ?_
      exact g_wk (ih v12 (x7 + (1)) s13) ⟨rfl, ⟨rfl, ⟨rfl, ⟨rfl, ⟨rfl, ⟨rfl, ⟨rfl, ⟨rfl, trivial⟩⟩⟩⟩⟩⟩⟩⟩
set_option maxRecDepth 20000 in
set_option maxHeartbeats 4000000 in
theorem tM_X7_look_L29 {X : Cx} (K : Ok X cX7_look RX7 9 4) (hR : RI X cX7_look) (x1 : Int32) (x2 : Int32) (kk : Int32 → St → Option (Int32 × St)) (hkk : ∀ (x3 : Int32) (s : St), G X 166 [.null, .null, .null, .int x3, .null, .null, .null, .null, .null] [] s (kk x3 s)) : ∀ (fu : Nat) (x3 x4 x5 : Int32) (s : St), G X 29 [.ref (X.B + 67), .int x1, .int x2, .int x3, .int x4, .int x5, .null, .null, .null] [] s (M_X7_look_L29 x1 x2 kk fu x3 x4 x5 s) := by
  intro fu
  induction fu with
  | zero => intro x3 x4 x5 s; exact g_none
  | succ fu ih =>
    intro x3 x4 x5 s
    rw [M_X7_look_L29]
    refine g_iload (pc := 29) K dX7_look_29 rfl ?_
    refine g_bipush (pc := 31) K (6) dX7_look_31 (by decide) ?_
    refine g_icmp_gt (pc := 33) K 166 dX7_look_33 (by decide) ?_ ?_
    · exact g_wk (hkk x3 s) ⟨rfl, trivial⟩
    · refine g_iload_n (pc := 36) K 2 dX7_look_36 rfl rfl ?_
      refine g_iconst (pc := 37) K (1) dX7_look_37 (by decide) ?_
      refine g_icmp_le (pc := 38) K 166 dX7_look_38 (by decide) ?_ ?_
      · exact g_wk (hkk x3 s) ⟨rfl, trivial⟩
      · refine g_iconst (pc := 41) K (0) dX7_look_41 (by decide) ?_
        refine g_istore (pc := 42) K dX7_look_42 (by decide) ?_
        change G X 44 [.ref (X.B + 67), .int x1, .int x2, .int x3, .int x4, .int x5, .int (0), .null, .null] [] s _
        refine g_iconst (pc := 44) K (0) dX7_look_44 (by decide) ?_
        refine g_istore (pc := 45) K dX7_look_45 (by decide) ?_
        change G X 47 [.ref (X.B + 67), .int x1, .int x2, .int x3, .int x4, .int x5, .int (0), .int (0), .null] [] s _
        refine g_weak (L' := [.ref (X.B + 67), .int x1, .int x2, .int x3, .int x4, .int x5, .int (0), .int (0), .null]) ⟨rfl, ⟨rfl, ⟨rfl, ⟨rfl, ⟨rfl, ⟨rfl, ⟨rfl, ⟨rfl, trivial⟩⟩⟩⟩⟩⟩⟩⟩ ?_
        refine tM_X7_look_L47 K hR x1 x2 x3 x4 x5 _ (fun v14 s15 => ?_) 400 (0) (0) s
        refine g_iload (pc := 110) K dX7_look_110 rfl ?_
        refine g_iload_n (pc := 112) K 2 dX7_look_112 rfl rfl ?_
        refine g_iload (pc := 113) K dX7_look_113 rfl ?_
        refine g_isub (pc := 115) K dX7_look_115 ?_
        refine g_jn (κ := Int32 → St → Option (Int32 × St)) (fun kj16 => ∀ (v17 : Int32) (s18 : St), G X 128 [.ref (X.B + 67), .int x1, .int x2, .int x3, .int x4, .int x5, .null, .null, .null] [.int v17] s18 (kj16 v17 s18)) (fun v17 s18 => ?_) (fun kj16 hkj16 => ?_)
        · refine g_istore (pc := 128) K dX7_look_128 (by decide) ?_
          change G X 130 [.ref (X.B + 67), .int x1, .int x2, .int x3, .int x4, .int x5, .null, .int v17, .null] [] s18 _
          refine g_iload (pc := 130) K dX7_look_130 rfl ?_
          refine g_iload (pc := 132) K dX7_look_132 rfl ?_
          refine g_jn (κ := Int32 → St → Option (Int32 × St)) (fun kj19 => ∀ (v20 : Int32) (s21 : St), G X 143 [.ref (X.B + 67), .int x1, .int x2, .null, .int x4, .int x5, .null, .int v17, .null] [.int v20] s21 (kj19 v20 s21)) (fun v20 s21 => ?_) (fun kj19 hkj19 => ?_)
          · refine g_istore_n (pc := 143) K 3 dX7_look_143 rfl (by decide) ?_
            change G X 144 [.ref (X.B + 67), .int x1, .int x2, .int v20, .int x4, .int x5, .null, .int v17, .null] [] s21 _
            refine g_iload (pc := 144) K dX7_look_144 rfl ?_
            refine g_iload (pc := 146) K dX7_look_146 rfl ?_
            refine g_jn (κ := Int32 → St → Option (Int32 × St)) (fun kj22 => ∀ (v23 : Int32) (s24 : St), G X 158 [.ref (X.B + 67), .int x1, .int x2, .int v20, .null, .int x5, .null, .null, .null] [.int v23] s24 (kj22 v23 s24)) (fun v23 s24 => ?_) (fun kj22 hkj22 => ?_)
            · refine g_istore (pc := 158) K dX7_look_158 (by decide) ?_
              change G X 160 [.ref (X.B + 67), .int x1, .int x2, .int v20, .int v23, .int x5, .null, .null, .null] [] s24 _
              refine g_iinc (pc := 160) K (1) dX7_look_160 rfl (by decide) (by decide) ?_
              change G X 163 [.ref (X.B + 67), .int x1, .int x2, .int v20, .int v23, .int (x5 + (1)), .null, .null, .null] [] s24 _
              refine g_goto (pc := 163) K 29 dX7_look_163 (by decide) ?_
              exact g_wk (ih v20 v23 (x5 + (1)) s24) ⟨rfl, ⟨rfl, ⟨rfl, ⟨rfl, ⟨rfl, ⟨rfl, trivial⟩⟩⟩⟩⟩⟩
            · refine g_icmp_ge (pc := 148) K 156 dX7_look_148 (by decide) ?_ ?_
              · refine g_iload (pc := 156) K dX7_look_156 rfl ?_
                exact g_wk (hkj22 x4 s21) ⟨rfl, ⟨rfl, ⟨rfl, ⟨rfl, ⟨rfl, trivial⟩⟩⟩⟩⟩
              · refine g_iload (pc := 151) K dX7_look_151 rfl ?_
                refine g_goto (pc := 153) K 158 dX7_look_153 (by decide) ?_
                exact g_wk (hkj22 v17 s21) ⟨rfl, ⟨rfl, ⟨rfl, ⟨rfl, ⟨rfl, trivial⟩⟩⟩⟩⟩
          · refine g_icmp_ge (pc := 134) K 142 dX7_look_134 (by decide) ?_ ?_
            · refine g_iload_n (pc := 142) K 3 dX7_look_142 rfl rfl ?_
              exact g_wk (hkj19 x3 s18) ⟨rfl, ⟨rfl, ⟨rfl, ⟨rfl, ⟨rfl, ⟨rfl, trivial⟩⟩⟩⟩⟩⟩
            · refine g_iload (pc := 137) K dX7_look_137 rfl ?_
              refine g_goto (pc := 139) K 143 dX7_look_139 (by decide) ?_
              exact g_wk (hkj19 x5 s18) ⟨rfl, ⟨rfl, ⟨rfl, ⟨rfl, ⟨rfl, ⟨rfl, trivial⟩⟩⟩⟩⟩⟩
        · refine g_icmp_le (pc := 116) K 124 dX7_look_116 (by decide) ?_ ?_
          · refine g_iload_n (pc := 124) K 2 dX7_look_124 rfl rfl ?_
            refine g_iload (pc := 125) K dX7_look_125 rfl ?_
            refine g_isub (pc := 127) K dX7_look_127 ?_
            exact g_wk (hkj16 (x2 - v14) s15) ⟨rfl, ⟨rfl, ⟨rfl, ⟨rfl, ⟨rfl, ⟨rfl, trivial⟩⟩⟩⟩⟩⟩
          · refine g_iload (pc := 119) K dX7_look_119 rfl ?_
            refine g_goto (pc := 121) K 128 dX7_look_121 (by decide) ?_
            exact g_wk (hkj16 v14 s15) ⟨rfl, ⟨rfl, ⟨rfl, ⟨rfl, ⟨rfl, ⟨rfl, trivial⟩⟩⟩⟩⟩⟩
set_option maxRecDepth 20000 in
set_option maxHeartbeats 4000000 in
theorem tX7_look {X : Cx} (K : Ok X cX7_look RX7 9 4) (hR : RI X cX7_look) (a1 : Int32) (s : St) : G X 0 [.ref (X.B + 67), .int a1, .null, .null, .null, .null, .null, .null, .null] [] s (M_X7_look a1 s) := by
  unfold M_X7_look
  refine g_iload_n (pc := 0) K 1 dX7_look_0 rfl rfl ?_
  refine g_iconst (pc := 1) K (0) dX7_look_1 (by decide) ?_
  refine g_bipush (pc := 2) K (20) dX7_look_2 (by decide) ?_
  refine g_callS (pc := 4) (S := []) K (qX7_in X.E a1 (0) (20)) (by decide) (by decide) wcX7_in wiX7 kX7_51 wtX7_in hyX7_in rfl rfl (Nat.le_of_ble_eq_true rfl) dX7_look_4 (fun r1 s2 => ?_)
  change G X 7 [.ref (X.B + 67), .int a1, .null, .null, .null, .null, .null, .null, .null] [.int r1] s2 _
  refine g_if_ne (pc := 7) K 12 dX7_look_7 (by decide) ?_ ?_
  · refine g_aload_n (pc := 12) K 0 dX7_look_12 rfl rfl ?_
    refine g_iconst (pc := 13) K (0) dX7_look_13 (by decide) ?_
    refine g_callV (pc := 14) (S := []) K (qX7_ones X.E (0)) (by decide) (ci := 7) rfl (fun _ => ⟨_, ce_7 kd_67⟩) (by decide) (by decide) wcX7_ones wiX7 kX7_181 wmX7_ones weX7_ones hyX7_ones rfl rfl (Nat.le_of_ble_eq_true rfl) dX7_look_14 (fun r3 s4 => ?_)
    change G X 17 [.ref (X.B + 67), .int a1, .null, .null, .null, .null, .null, .null, .null] [.int r3] s4 _
    refine g_istore_n (pc := 17) K 2 dX7_look_17 rfl (by decide) ?_
    change G X 18 [.ref (X.B + 67), .int a1, .int r3, .null, .null, .null, .null, .null, .null] [] s4 _
    refine g_bipush (pc := 18) K (-9) dX7_look_18 (by decide) ?_
    refine g_istore_n (pc := 20) K 3 dX7_look_20 rfl (by decide) ?_
    change G X 21 [.ref (X.B + 67), .int a1, .int r3, .int (-9), .null, .null, .null, .null, .null] [] s4 _
    refine g_iload_n (pc := 21) K 2 dX7_look_21 rfl rfl ?_
    refine g_iconst (pc := 22) K (1) dX7_look_22 (by decide) ?_
    refine g_iadd (pc := 23) K dX7_look_23 ?_
    refine g_istore (pc := 24) K dX7_look_24 (by decide) ?_
    change G X 26 [.ref (X.B + 67), .int a1, .int r3, .int (-9), .int (r3 + (1)), .null, .null, .null, .null] [] s4 _
    refine g_iconst (pc := 26) K (0) dX7_look_26 (by decide) ?_
    refine g_istore (pc := 27) K dX7_look_27 (by decide) ?_
    change G X 29 [.ref (X.B + 67), .int a1, .int r3, .int (-9), .int (r3 + (1)), .int (0), .null, .null, .null] [] s4 _
    refine g_weak (L' := [.ref (X.B + 67), .int a1, .int r3, .int (-9), .int (r3 + (1)), .int (0), .null, .null, .null]) ⟨rfl, ⟨rfl, ⟨rfl, ⟨rfl, ⟨rfl, ⟨rfl, trivial⟩⟩⟩⟩⟩⟩ ?_
    refine tM_X7_look_L29 K hR a1 r3 _ (fun v25 s26 => ?_) 400 (-9) (r3 + (1)) (0) s4
    refine g_iload_n (pc := 166) K 3 dX7_look_166 rfl rfl ?_
    exact g_ir (pc := 167) hR dX7_look_167
  · refine g_iconst (pc := 10) K (-1) dX7_look_10 (by decide) ?_
    exact g_ir (pc := 11) hR dX7_look_11
theorem qX7_look (E : Ce) (a1 : Int32) : Con E yX7_look cX7_look 9 (some .int) 4 [.ref (E.B + 67), .int a1] (M_X7_look a1) :=
  Con.of (by decide) (List.forall_mem_cons.mpr ⟨rfl, List.forall_mem_cons.mpr ⟨rfl, fun _ h => absurd h List.not_mem_nil⟩⟩) (Nat.le_of_ble_eq_true rfl) (Or.inr (Or.inl rfl)) [.ref (E.B + 67), .int a1, .null, .null, .null, .null, .null, .null, .null] ⟨rfl, ⟨rfl, trivial⟩⟩ (fun X s hE hok hI hZ hV => by subst hE; exact tX7_look hok (hI rfl) a1 s)
theorem hyX7_rate : yX7_rate.cls ≠ "java/lang/invoke/MethodHandle" ∧ yX7_rate.cls ≠ "java/lang/invoke/VarHandle" ∧ (parseMethodDescriptor yX7_rate.desc).map (fun d => d.parameters.length) = some 2 := by decide +kernel
set_option maxRecDepth 20000 in
set_option maxHeartbeats 4000000 in
theorem tX7_rate {X : Cx} (K : Ok X cX7_rate RX7 6 3) (hR : RI X cX7_rate) (a1 : Int32) (a2 : Int32) (s : St) : G X 0 [.ref (X.B + 67), .int a1, .int a2, .null, .null, .null] [] s (M_X7_rate a1 a2 s) := by
  unfold M_X7_rate
  refine g_iload_n (pc := 0) K 1 dX7_rate_0 rfl rfl ?_
  refine g_iconst (pc := 1) K (0) dX7_rate_1 (by decide) ?_
  refine g_iconst (pc := 2) K (5) dX7_rate_2 (by decide) ?_
  refine g_callS (pc := 3) (S := []) K (qX7_in X.E a1 (0) (5)) (by decide) (by decide) wcX7_in wiX7 kX7_51 wtX7_in hyX7_in rfl rfl (Nat.le_of_ble_eq_true rfl) dX7_rate_3 (fun r1 s2 => ?_)
  change G X 6 [.ref (X.B + 67), .int a1, .int a2, .null, .null, .null] [.int r1] s2 _
  refine g_if_eq (pc := 6) K 17 dX7_rate_6 (by decide) ?_ ?_
  · refine g_ldc (pc := 17) K kX7_184 dX7_rate_17 ?_
    exact g_ir (pc := 19) hR dX7_rate_19
  · refine g_aload_n (pc := 9) K 0 dX7_rate_9 rfl rfl ?_
    refine g_iload_n (pc := 10) K 2 dX7_rate_10 rfl rfl ?_
    refine g_callV (pc := 11) (S := []) K (qX7_isFarmer X.E a2) (by decide) (ci := 7) rfl (fun _ => ⟨_, ce_7 kd_67⟩) (by decide) (by decide) wcX7_isFarmer wiX7 kX7_143 wmX7_isFarmer weX7_isFarmer hyX7_isFarmer rfl rfl (Nat.le_of_ble_eq_true rfl) dX7_rate_11 (fun r3 s4 => ?_)
    change G X 14 [.ref (X.B + 67), .int a1, .int a2, .null, .null, .null] [.int r3] s4 _
    refine g_if_ne (pc := 14) K 20 dX7_rate_14 (by decide) ?_ ?_
    · refine g_aload_n (pc := 20) K 0 dX7_rate_20 rfl rfl ?_
      refine gg_7_4 (pc := 21) K (by decide) kd_67 kX7_19 dX7_rate_21 ?_
      refine g_iconst (pc := 24) K (2) dX7_rate_24 (by decide) ?_
      refine g_iload_n (pc := 25) K 2 dX7_rate_25 rfl rfl ?_
      refine g_iadd (pc := 26) K dX7_rate_26 ?_
      refine g_iaload (pc := 27) K (by decide) kd_71 ln_71 dX7_rate_27 (fun v5 => ?_)
      refine g_istore_n (pc := 28) K 3 dX7_rate_28 rfl (by decide) ?_
      change G X 29 [.ref (X.B + 67), .int a1, .int a2, .int v5, .null, .null] [] s4 _
      refine g_iload_n (pc := 29) K 3 dX7_rate_29 rfl rfl ?_
      refine g_aload_n (pc := 30) K 0 dX7_rate_30 rfl rfl ?_
      refine g_iload_n (pc := 31) K 2 dX7_rate_31 rfl rfl ?_
      refine g_callV (pc := 32) (S := [.int v5]) K (qX7_hangWith X.E a2) (by decide) (ci := 7) rfl (fun _ => ⟨_, ce_7 kd_67⟩) (by decide) (by decide) wcX7_hangWith wiX7 kX7_146 wmX7_hangWith weX7_hangWith hyX7_hangWith rfl rfl (Nat.le_of_ble_eq_true rfl) dX7_rate_32 (fun r6 s7 => ?_)
      change G X 35 [.ref (X.B + 67), .int a1, .int a2, .int v5, .null, .null] [.int r6, .int v5] s7 _
      refine g_callS (pc := 35) (S := [.int v5]) K (qX7_bits X.E r6) (by decide) (by decide) wcX7_bits wiX7 kX7_114 wtX7_bits hyX7_bits rfl rfl (Nat.le_of_ble_eq_true rfl) dX7_rate_35 (fun r8 s9 => ?_)
      change G X 38 [.ref (X.B + 67), .int a1, .int a2, .int v5, .null, .null] [.int r8, .int v5] s9 _
      refine g_iadd (pc := 38) K dX7_rate_38 ?_
      refine g_istore (pc := 39) K dX7_rate_39 (by decide) ?_
      change G X 41 [.ref (X.B + 67), .int a1, .int a2, .int v5, .int (v5 + r8), .null] [] s9 _
      refine g_iload_n (pc := 41) K 3 dX7_rate_41 rfl rfl ?_
      refine g_aload_n (pc := 42) K 0 dX7_rate_42 rfl rfl ?_
      refine gg_7_2 (pc := 43) K (by decide) kd_67 kX7_13 dX7_rate_43 ?_
      refine g_iload_n (pc := 46) K 2 dX7_rate_46 rfl rfl ?_
      refine g_iaload (pc := 47) K (by decide) kd_69 ln_69 dX7_rate_47 (fun v10 => ?_)
      refine g_isub (pc := 48) K dX7_rate_48 ?_
      refine g_istore (pc := 49) K dX7_rate_49 (by decide) ?_
      change G X 51 [.ref (X.B + 67), .int a1, .int a2, .int v5, .int (v5 + r8), .int (v5 - v10)] [] s9 _
      refine g_iload_n (pc := 51) K 1 dX7_rate_51 rfl rfl ?_
      refine g_case (pc := 52) (1) ?_ (fun n12 => ?_)
      · refine g_tin (pc := 52) (off := 36) K 88 dX7_rate_52 (by decide) (by decide) (by decide) (by decide) ?_
        refine g_aload_n (pc := 88) K 0 dX7_rate_88 rfl rfl ?_
        refine g_dup (pc := 89) K dX7_rate_89 rfl ?_
        refine gg_7_11 (pc := 90) K (by decide) kd_67 kX7_185 dX7_rate_90 ?_
        refine g_ldc2 (pc := 93) K kX7_189 dX7_rate_93 ?_
        refine g_ladd (pc := 96) K dX7_rate_96 ?_
        refine gp_7_11 (pc := 97) K (by decide) kd_67 kX7_185 dX7_rate_97 (fun s11 => ?_)
        refine g_iload (pc := 100) K dX7_rate_100 rfl ?_
        exact g_ir (pc := 102) hR dX7_rate_102
      refine g_case (pc := 52) (2) ?_ (fun n14 => ?_)
      · refine g_tin (pc := 52) (off := 51) K 103 dX7_rate_52 (by decide) (by decide) (by decide) (by decide) ?_
        refine g_aload_n (pc := 103) K 0 dX7_rate_103 rfl rfl ?_
        refine g_dup (pc := 104) K dX7_rate_104 rfl ?_
        refine gg_7_11 (pc := 105) K (by decide) kd_67 kX7_185 dX7_rate_105 ?_
        refine g_ldc2 (pc := 108) K kX7_191 dX7_rate_108 ?_
        refine g_ladd (pc := 111) K dX7_rate_111 ?_
        refine gp_7_11 (pc := 112) K (by decide) kd_67 kX7_185 dX7_rate_112 (fun s13 => ?_)
        refine g_iload (pc := 115) K dX7_rate_115 rfl ?_
        exact g_ir (pc := 117) hR dX7_rate_117
      refine g_case (pc := 52) (3) ?_ (fun n16 => ?_)
      · refine g_tin (pc := 52) (off := 66) K 118 dX7_rate_52 (by decide) (by decide) (by decide) (by decide) ?_
        refine g_aload_n (pc := 118) K 0 dX7_rate_118 rfl rfl ?_
        refine g_dup (pc := 119) K dX7_rate_119 rfl ?_
        refine gg_7_11 (pc := 120) K (by decide) kd_67 kX7_185 dX7_rate_120 ?_
        refine g_ldc2 (pc := 123) K kX7_193 dX7_rate_123 ?_
        refine g_ladd (pc := 126) K dX7_rate_126 ?_
        refine gp_7_11 (pc := 127) K (by decide) kd_67 kX7_185 dX7_rate_127 (fun s15 => ?_)
        refine g_iconst (pc := 130) K (2) dX7_rate_130 (by decide) ?_
        refine g_iload (pc := 131) K dX7_rate_131 rfl ?_
        refine g_imul (pc := 133) K dX7_rate_133 ?_
        exact g_ir (pc := 134) hR dX7_rate_134
      refine g_case (pc := 52) (4) ?_ (fun n18 => ?_)
      · refine g_tin (pc := 52) (off := 83) K 135 dX7_rate_52 (by decide) (by decide) (by decide) (by decide) ?_
        refine g_aload_n (pc := 135) K 0 dX7_rate_135 rfl rfl ?_
        refine g_dup (pc := 136) K dX7_rate_136 rfl ?_
        refine gg_7_11 (pc := 137) K (by decide) kd_67 kX7_185 dX7_rate_137 ?_
        refine g_ldc2 (pc := 140) K kX7_195 dX7_rate_140 ?_
        refine g_ladd (pc := 143) K dX7_rate_143 ?_
        refine gp_7_11 (pc := 144) K (by decide) kd_67 kX7_185 dX7_rate_144 (fun s17 => ?_)
        refine g_iload (pc := 147) K dX7_rate_147 rfl ?_
        refine g_iload_n (pc := 149) K 2 dX7_rate_149 rfl rfl ?_
        refine g_iadd (pc := 150) K dX7_rate_150 ?_
        exact g_ir (pc := 151) hR dX7_rate_151
      refine g_case (pc := 52) (5) ?_ (fun n21 => ?_)
      · refine g_tin (pc := 52) (off := 100) K 152 dX7_rate_52 (by decide) (by decide) (by decide) (by decide) ?_
        refine g_aload_n (pc := 152) K 0 dX7_rate_152 rfl rfl ?_
        refine g_dup (pc := 153) K dX7_rate_153 rfl ?_
        refine gg_7_11 (pc := 154) K (by decide) kd_67 kX7_185 dX7_rate_154 ?_
        refine g_ldc2 (pc := 157) K kX7_197 dX7_rate_157 ?_
        refine g_ladd (pc := 160) K dX7_rate_160 ?_
        refine gp_7_11 (pc := 161) K (by decide) kd_67 kX7_185 dX7_rate_161 (fun s19 => ?_)
        refine g_iload_n (pc := 164) K 3 dX7_rate_164 rfl rfl ?_
        refine g_aload_n (pc := 165) K 0 dX7_rate_165 rfl rfl ?_
        refine gg_7_4 (pc := 166) K (by decide) kd_67 kX7_19 dX7_rate_166 ?_
        refine g_iconst (pc := 169) K (0) dX7_rate_169 (by decide) ?_
        refine g_iaload (pc := 170) K (by decide) kd_71 ln_71 dX7_rate_170 (fun v20 => ?_)
        refine g_iadd (pc := 171) K dX7_rate_171 ?_
        exact g_ir (pc := 172) hR dX7_rate_172
      refine g_tout (pc := 52) K 173 dX7_rate_52 (by have an12 := lv_neT n12 (a := 1) (by decide); have an14 := lv_neT n14 (a := 2) (by decide); have an16 := lv_neT n16 (a := 3) (by decide); have an18 := lv_neT n18 (a := 4) (by decide); have an21 := lv_neT n21 (a := 5) (by decide); omega) (by decide) ?_
      refine g_aload_n (pc := 173) K 0 dX7_rate_173 rfl rfl ?_
      refine g_dup (pc := 174) K dX7_rate_174 rfl ?_
      refine gg_7_11 (pc := 175) K (by decide) kd_67 kX7_185 dX7_rate_175 ?_
      refine g_lconst (pc := 178) K (1) dX7_rate_178 (by decide) ?_
      refine g_ladd (pc := 179) K dX7_rate_179 ?_
      refine gp_7_11 (pc := 180) K (by decide) kd_67 kX7_185 dX7_rate_180 (fun s22 => ?_)
      refine g_iload_n (pc := 183) K 3 dX7_rate_183 rfl rfl ?_
      exact g_ir (pc := 184) hR dX7_rate_184
    · refine g_ldc (pc := 17) K kX7_184 dX7_rate_17 ?_
      exact g_ir (pc := 19) hR dX7_rate_19
theorem qX7_rate (E : Ce) (a1 : Int32) (a2 : Int32) : Con E yX7_rate cX7_rate 6 (some .int) 3 [.ref (E.B + 67), .int a1, .int a2] (M_X7_rate a1 a2) :=
  Con.of (by decide) (List.forall_mem_cons.mpr ⟨rfl, List.forall_mem_cons.mpr ⟨rfl, List.forall_mem_cons.mpr ⟨rfl, fun _ h => absurd h List.not_mem_nil⟩⟩⟩) (Nat.le_of_ble_eq_true rfl) (Or.inr (Or.inl rfl)) [.ref (E.B + 67), .int a1, .int a2, .null, .null, .null] ⟨rfl, ⟨rfl, ⟨rfl, trivial⟩⟩⟩ (fun X s hE hok hI hZ hV => by subst hE; exact tX7_rate hok (hI rfl) a1 a2 s)
theorem hyX7_keep : yX7_keep.cls ≠ "java/lang/invoke/MethodHandle" ∧ yX7_keep.cls ≠ "java/lang/invoke/VarHandle" ∧ (parseMethodDescriptor yX7_keep.desc).map (fun d => d.parameters.length) = some 1 := by decide +kernel
set_option maxRecDepth 20000 in
set_option maxHeartbeats 4000000 in
theorem tX7_keep {X : Cx} (K : Ok X cX7_keep RX7 2 2) (hR : RI X cX7_keep) (a1 : Int32) (s : St) : G X 0 [.ref (X.B + 67), .int a1] [] s (M_X7_keep a1 s) := by
  unfold M_X7_keep
  refine g_iload_n (pc := 0) K 1 dX7_keep_0 rfl rfl ?_
  refine g_iconst (pc := 1) K (0) dX7_keep_1 (by decide) ?_
  refine g_iconst (pc := 2) K (1) dX7_keep_2 (by decide) ?_
  refine g_callS (pc := 3) (S := []) K (qX7_in X.E a1 (0) (1)) (by decide) (by decide) wcX7_in wiX7 kX7_51 wtX7_in hyX7_in rfl rfl (Nat.le_of_ble_eq_true rfl) dX7_keep_3 (fun r1 s2 => ?_)
  change G X 6 [.ref (X.B + 67), .int a1] [.int r1] s2 _
  refine g_if_ne (pc := 6) K 11 dX7_keep_6 (by decide) ?_ ?_
  · refine g_aload_n (pc := 11) K 0 dX7_keep_11 rfl rfl ?_
    refine gg_7_7 (pc := 12) K (by decide) kd_67 kX7_25 dX7_keep_12 ?_
    refine g_bipush (pc := 15) K (14) dX7_keep_15 (by decide) ?_
    refine g_iload_n (pc := 17) K 1 dX7_keep_17 rfl rfl ?_
    refine g_imul (pc := 18) K dX7_keep_18 ?_
    refine g_aload_n (pc := 19) K 0 dX7_keep_19 rfl rfl ?_
    refine gg_7_4 (pc := 20) K (by decide) kd_67 kX7_19 dX7_keep_20 ?_
    refine g_iconst (pc := 23) K (0) dX7_keep_23 (by decide) ?_
    refine g_callS (pc := 24) (S := []) K (qX7_copy X.E 73 71 arr_73 arr_71 ((14) * a1) (0)) (by decide) (by decide) wcX7_copy wiX7 kX7_110 wtX7_copy hyX7_copy rfl rfl (Nat.le_of_ble_eq_true rfl) dX7_keep_24 (fun r3 s4 => ?_)
    change G X 27 [.ref (X.B + 67), .int a1] [] s4 _
    refine g_aload_n (pc := 27) K 0 dX7_keep_27 rfl rfl ?_
    refine gg_7_8 (pc := 28) K (by decide) kd_67 kX7_28 dX7_keep_28 ?_
    refine g_iload_n (pc := 31) K 1 dX7_keep_31 rfl rfl ?_
    refine g_iconst (pc := 32) K (1) dX7_keep_32 (by decide) ?_
    refine g_bastore (pc := 33) K (by decide) kd_74 ln_74 dX7_keep_33 (fun s5 => ?_)
    refine g_aload_n (pc := 34) K 0 dX7_keep_34 rfl rfl ?_
    refine gg_7_4 (pc := 35) K (by decide) kd_67 kX7_19 dX7_keep_35 ?_
    refine g_iconst (pc := 38) K (0) dX7_keep_38 (by decide) ?_
    refine g_iaload (pc := 39) K (by decide) kd_71 ln_71 dX7_keep_39 (fun v6 => ?_)
    exact g_ir (pc := 40) hR dX7_keep_40
  · refine g_iconst (pc := 9) K (-1) dX7_keep_9 (by decide) ?_
    exact g_ir (pc := 10) hR dX7_keep_10
theorem qX7_keep (E : Ce) (a1 : Int32) : Con E yX7_keep cX7_keep 2 (some .int) 2 [.ref (E.B + 67), .int a1] (M_X7_keep a1) :=
  Con.of (by decide) (List.forall_mem_cons.mpr ⟨rfl, List.forall_mem_cons.mpr ⟨rfl, fun _ h => absurd h List.not_mem_nil⟩⟩) (Nat.le_of_ble_eq_true rfl) (Or.inr (Or.inl rfl)) [.ref (E.B + 67), .int a1] ⟨rfl, ⟨rfl, trivial⟩⟩ (fun X s hE hok hI hZ hV => by subst hE; exact tX7_keep hok (hI rfl) a1 s)
theorem hyX7_back : yX7_back.cls ≠ "java/lang/invoke/MethodHandle" ∧ yX7_back.cls ≠ "java/lang/invoke/VarHandle" ∧ (parseMethodDescriptor yX7_back.desc).map (fun d => d.parameters.length) = some 1 := by decide +kernel
set_option maxRecDepth 20000 in
set_option maxHeartbeats 4000000 in
theorem tX7_back {X : Cx} (K : Ok X cX7_back RX7 2 2) (hR : RI X cX7_back) (a1 : Int32) (s : St) : G X 0 [.ref (X.B + 67), .int a1] [] s (M_X7_back a1 s) := by
  unfold M_X7_back
  refine g_iload_n (pc := 0) K 1 dX7_back_0 rfl rfl ?_
  refine g_iconst (pc := 1) K (0) dX7_back_1 (by decide) ?_
  refine g_iconst (pc := 2) K (1) dX7_back_2 (by decide) ?_
  refine g_callS (pc := 3) (S := []) K (qX7_in X.E a1 (0) (1)) (by decide) (by decide) wcX7_in wiX7 kX7_51 wtX7_in hyX7_in rfl rfl (Nat.le_of_ble_eq_true rfl) dX7_back_3 (fun r1 s2 => ?_)
  change G X 6 [.ref (X.B + 67), .int a1] [.int r1] s2 _
  refine g_if_ne (pc := 6) K 11 dX7_back_6 (by decide) ?_ ?_
  · refine g_aload_n (pc := 11) K 0 dX7_back_11 rfl rfl ?_
    refine gg_7_8 (pc := 12) K (by decide) kd_67 kX7_28 dX7_back_12 ?_
    refine g_iload_n (pc := 15) K 1 dX7_back_15 rfl rfl ?_
    refine g_baload (pc := 16) K (by decide) kd_74 ln_74 dX7_back_16 (fun v3 => ?_)
    refine g_if_ne (pc := 17) K 23 dX7_back_17 (by decide) ?_ ?_
    · refine g_aload_n (pc := 23) K 0 dX7_back_23 rfl rfl ?_
      refine gg_7_4 (pc := 24) K (by decide) kd_67 kX7_19 dX7_back_24 ?_
      refine g_iconst (pc := 27) K (0) dX7_back_27 (by decide) ?_
      refine g_aload_n (pc := 28) K 0 dX7_back_28 rfl rfl ?_
      refine gg_7_7 (pc := 29) K (by decide) kd_67 kX7_25 dX7_back_29 ?_
      refine g_bipush (pc := 32) K (14) dX7_back_32 (by decide) ?_
      refine g_iload_n (pc := 34) K 1 dX7_back_34 rfl rfl ?_
      refine g_imul (pc := 35) K dX7_back_35 ?_
      refine g_callS (pc := 36) (S := []) K (qX7_copy X.E 71 73 arr_71 arr_73 (0) ((14) * a1)) (by decide) (by decide) wcX7_copy wiX7 kX7_110 wtX7_copy hyX7_copy rfl rfl (Nat.le_of_ble_eq_true rfl) dX7_back_36 (fun r4 s5 => ?_)
      change G X 39 [.ref (X.B + 67), .int a1] [] s5 _
      refine g_aload_n (pc := 39) K 0 dX7_back_39 rfl rfl ?_
      refine g_iconst (pc := 40) K (0) dX7_back_40 (by decide) ?_
      refine gp_7_6 (pc := 41) K (by decide) kd_67 kX7_104 dX7_back_41 (fun s6 => ?_)
      refine g_aload_n (pc := 44) K 0 dX7_back_44 rfl rfl ?_
      refine gg_7_4 (pc := 45) K (by decide) kd_67 kX7_19 dX7_back_45 ?_
      refine g_iconst (pc := 48) K (0) dX7_back_48 (by decide) ?_
      refine g_iaload (pc := 49) K (by decide) kd_71 ln_71 dX7_back_49 (fun v7 => ?_)
      exact g_ir (pc := 50) hR dX7_back_50
    · refine g_bipush (pc := 20) K (-2) dX7_back_20 (by decide) ?_
      exact g_ir (pc := 22) hR dX7_back_22
  · refine g_iconst (pc := 9) K (-1) dX7_back_9 (by decide) ?_
    exact g_ir (pc := 10) hR dX7_back_10
theorem qX7_back (E : Ce) (a1 : Int32) : Con E yX7_back cX7_back 2 (some .int) 2 [.ref (E.B + 67), .int a1] (M_X7_back a1) :=
  Con.of (by decide) (List.forall_mem_cons.mpr ⟨rfl, List.forall_mem_cons.mpr ⟨rfl, fun _ h => absurd h List.not_mem_nil⟩⟩) (Nat.le_of_ble_eq_true rfl) (Or.inr (Or.inl rfl)) [.ref (E.B + 67), .int a1] ⟨rfl, ⟨rfl, trivial⟩⟩ (fun X s hE hok hI hZ hV => by subst hE; exact tX7_back hok (hI rfl) a1 s)
theorem hyX7_count : yX7_count.cls ≠ "java/lang/invoke/MethodHandle" ∧ yX7_count.cls ≠ "java/lang/invoke/VarHandle" ∧ (parseMethodDescriptor yX7_count.desc).map (fun d => d.parameters.length) = some 1 := by decide +kernel
set_option maxRecDepth 20000 in
set_option maxHeartbeats 4000000 in
theorem tX7_count {X : Cx} (K : Ok X cX7_count RX7 2 1) (hR : RI X cX7_count) (a1 : Int32) (s : St) : G X 0 [.ref (X.B + 67), .int a1] [] s (M_X7_count a1 s) := by
  unfold M_X7_count
  refine g_iload_n (pc := 0) K 1 dX7_count_0 rfl rfl ?_
  refine g_if_ne (pc := 1) K 11 dX7_count_1 (by decide) ?_ ?_
  · refine g_iload_n (pc := 11) K 1 dX7_count_11 rfl rfl ?_
    refine g_iconst (pc := 12) K (1) dX7_count_12 (by decide) ?_
    refine g_icmp_ne (pc := 13) K 23 dX7_count_13 (by decide) ?_ ?_
    · refine g_iload_n (pc := 23) K 1 dX7_count_23 rfl rfl ?_
      refine g_iconst (pc := 24) K (2) dX7_count_24 (by decide) ?_
      refine g_icmp_ne (pc := 25) K 35 dX7_count_25 (by decide) ?_ ?_
      · refine g_iconst (pc := 35) K (-1) dX7_count_35 (by decide) ?_
        exact g_ir (pc := 36) hR dX7_count_36
      · refine g_aload_n (pc := 28) K 0 dX7_count_28 rfl rfl ?_
        refine gg_7_13 (pc := 29) K (by decide) kd_67 kX7_55 dX7_count_29 ?_
        refine g_goto (pc := 32) K 36 dX7_count_32 (by decide) ?_
        exact g_ir (pc := 36) hR dX7_count_36
    · refine g_aload_n (pc := 16) K 0 dX7_count_16 rfl rfl ?_
      refine gg_7_9 (pc := 17) K (by decide) kd_67 kX7_107 dX7_count_17 ?_
      refine g_goto (pc := 20) K 36 dX7_count_20 (by decide) ?_
      exact g_ir (pc := 36) hR dX7_count_36
  · refine g_aload_n (pc := 4) K 0 dX7_count_4 rfl rfl ?_
    refine gg_7_0 (pc := 5) K (by decide) kd_67 kX7_47 dX7_count_5 ?_
    refine g_goto (pc := 8) K 36 dX7_count_8 (by decide) ?_
    exact g_ir (pc := 36) hR dX7_count_36
theorem qX7_count (E : Ce) (a1 : Int32) : Con E yX7_count cX7_count 2 (some .int) 1 [.ref (E.B + 67), .int a1] (M_X7_count a1) :=
  Con.of (by decide) (List.forall_mem_cons.mpr ⟨rfl, List.forall_mem_cons.mpr ⟨rfl, fun _ h => absurd h List.not_mem_nil⟩⟩) (Nat.le_of_ble_eq_true rfl) (Or.inr (Or.inl rfl)) [.ref (E.B + 67), .int a1] ⟨rfl, ⟨rfl, trivial⟩⟩ (fun X s hE hok hI hZ hV => by subst hE; exact tX7_count hok (hI rfl) a1 s)
