theorem kd_0 : kd 0 = 6 := by decide +kernel
theorem kd_1 : kd 1 = 5 := by decide +kernel
theorem kd_2 : kd 2 = 9 := by decide +kernel
theorem ln_2 : ln 2 = 140 := by decide +kernel
theorem kd_3 : kd 3 = 1 := by decide +kernel
theorem kd_4 : kd 4 = 8 := by decide +kernel
theorem ln_4 : ln 4 = 6 := by decide +kernel
theorem kd_5 : kd 5 = 8 := by decide +kernel
theorem ln_5 : ln 5 = 6 := by decide +kernel
theorem kd_6 : kd 6 = 8 := by decide +kernel
theorem ln_6 : ln 6 = 6 := by decide +kernel
theorem kd_7 : kd 7 = 8 := by decide +kernel
theorem ln_7 : ln 7 = 6 := by decide +kernel
theorem kd_8 : kd 8 = 8 := by decide +kernel
theorem ln_8 : ln 8 = 6 := by decide +kernel
theorem kd_9 : kd 9 = 1 := by decide +kernel
theorem kd_10 : kd 10 = 8 := by decide +kernel
theorem ln_10 : ln 10 = 6 := by decide +kernel
theorem kd_11 : kd 11 = 8 := by decide +kernel
theorem ln_11 : ln 11 = 6 := by decide +kernel
theorem kd_12 : kd 12 = 8 := by decide +kernel
theorem ln_12 : ln 12 = 6 := by decide +kernel
theorem kd_13 : kd 13 = 8 := by decide +kernel
theorem ln_13 : ln 13 = 6 := by decide +kernel
theorem kd_14 : kd 14 = 8 := by decide +kernel
theorem ln_14 : ln 14 = 6 := by decide +kernel
theorem kd_15 : kd 15 = 3 := by decide +kernel
theorem kd_16 : kd 16 = 8 := by decide +kernel
theorem ln_16 : ln 16 = 6 := by decide +kernel
theorem kd_17 : kd 17 = 8 := by decide +kernel
theorem ln_17 : ln 17 = 6 := by decide +kernel
theorem kd_18 : kd 18 = 3 := by decide +kernel
theorem kd_19 : kd 19 = 8 := by decide +kernel
theorem ln_19 : ln 19 = 6 := by decide +kernel
theorem kd_20 : kd 20 = 8 := by decide +kernel
theorem ln_20 : ln 20 = 6 := by decide +kernel
theorem kd_21 : kd 21 = 2 := by decide +kernel
theorem kd_22 : kd 22 = 11 := by decide +kernel
theorem ln_22 : ln 22 = 10 := by decide +kernel
theorem kd_23 : kd 23 = 3 := by decide +kernel
theorem kd_24 : kd 24 = 8 := by decide +kernel
theorem ln_24 : ln 24 = 6 := by decide +kernel
theorem kd_25 : kd 25 = 8 := by decide +kernel
theorem ln_25 : ln 25 = 6 := by decide +kernel
theorem kd_26 : kd 26 = 3 := by decide +kernel
theorem kd_27 : kd 27 = 8 := by decide +kernel
theorem ln_27 : ln 27 = 6 := by decide +kernel
theorem kd_28 : kd 28 = 8 := by decide +kernel
theorem ln_28 : ln 28 = 6 := by decide +kernel
theorem kd_29 : kd 29 = 3 := by decide +kernel
theorem kd_30 : kd 30 = 8 := by decide +kernel
theorem ln_30 : ln 30 = 6 := by decide +kernel
theorem kd_31 : kd 31 = 8 := by decide +kernel
theorem ln_31 : ln 31 = 6 := by decide +kernel
theorem kd_32 : kd 32 = 3 := by decide +kernel
theorem kd_33 : kd 33 = 8 := by decide +kernel
theorem ln_33 : ln 33 = 6 := by decide +kernel
theorem kd_34 : kd 34 = 8 := by decide +kernel
theorem ln_34 : ln 34 = 6 := by decide +kernel
theorem kd_35 : kd 35 = 3 := by decide +kernel
theorem kd_36 : kd 36 = 8 := by decide +kernel
theorem ln_36 : ln 36 = 6 := by decide +kernel
theorem kd_37 : kd 37 = 8 := by decide +kernel
theorem ln_37 : ln 37 = 6 := by decide +kernel
theorem kd_38 : kd 38 = 3 := by decide +kernel
theorem kd_39 : kd 39 = 8 := by decide +kernel
theorem ln_39 : ln 39 = 6 := by decide +kernel
theorem kd_40 : kd 40 = 8 := by decide +kernel
theorem ln_40 : ln 40 = 6 := by decide +kernel
theorem kd_41 : kd 41 = 3 := by decide +kernel
theorem kd_42 : kd 42 = 8 := by decide +kernel
theorem ln_42 : ln 42 = 6 := by decide +kernel
theorem kd_43 : kd 43 = 8 := by decide +kernel
theorem ln_43 : ln 43 = 6 := by decide +kernel
theorem kd_44 : kd 44 = 3 := by decide +kernel
theorem kd_45 : kd 45 = 8 := by decide +kernel
theorem ln_45 : ln 45 = 6 := by decide +kernel
theorem kd_46 : kd 46 = 8 := by decide +kernel
theorem ln_46 : ln 46 = 6 := by decide +kernel
theorem kd_47 : kd 47 = 3 := by decide +kernel
theorem kd_48 : kd 48 = 8 := by decide +kernel
theorem ln_48 : ln 48 = 6 := by decide +kernel
theorem kd_49 : kd 49 = 8 := by decide +kernel
theorem ln_49 : ln 49 = 6 := by decide +kernel
theorem kd_50 : kd 50 = 3 := by decide +kernel
theorem kd_51 : kd 51 = 8 := by decide +kernel
theorem ln_51 : ln 51 = 6 := by decide +kernel
theorem kd_52 : kd 52 = 8 := by decide +kernel
theorem ln_52 : ln 52 = 6 := by decide +kernel
theorem kd_53 : kd 53 = 11 := by decide +kernel
theorem ln_53 : ln 53 = 2 := by decide +kernel
theorem kd_54 : kd 54 = 3 := by decide +kernel
theorem kd_55 : kd 55 = 8 := by decide +kernel
theorem ln_55 : ln 55 = 6 := by decide +kernel
theorem kd_56 : kd 56 = 8 := by decide +kernel
theorem ln_56 : ln 56 = 6 := by decide +kernel
theorem kd_57 : kd 57 = 3 := by decide +kernel
theorem kd_58 : kd 58 = 8 := by decide +kernel
theorem ln_58 : ln 58 = 6 := by decide +kernel
theorem kd_59 : kd 59 = 8 := by decide +kernel
theorem ln_59 : ln 59 = 6 := by decide +kernel
theorem kd_60 : kd 60 = 10 := by decide +kernel
theorem ln_60 : ln 60 = 2 := by decide +kernel
theorem kd_61 : kd 61 = 0 := by decide +kernel
theorem kd_62 : kd 62 = 8 := by decide +kernel
theorem ln_62 : ln 62 = 6 := by decide +kernel
theorem kd_63 : kd 63 = 8 := by decide +kernel
theorem ln_63 : ln 63 = 6 := by decide +kernel
theorem kd_64 : kd 64 = 4 := by decide +kernel
theorem kd_65 : kd 65 = 10 := by decide +kernel
theorem ln_65 : ln 65 = 147 := by decide +kernel
theorem kd_66 : kd 66 = 8 := by decide +kernel
theorem ln_66 : ln 66 = 9 := by decide +kernel
theorem kd_67 : kd 67 = 7 := by decide +kernel
theorem kd_68 : kd 68 = 8 := by decide +kernel
theorem ln_68 : ln 68 = 6 := by decide +kernel
theorem kd_69 : kd 69 = 8 := by decide +kernel
theorem ln_69 : ln 69 = 6 := by decide +kernel
theorem kd_70 : kd 70 = 8 := by decide +kernel
theorem ln_70 : ln 70 = 6 := by decide +kernel
theorem kd_71 : kd 71 = 8 := by decide +kernel
theorem ln_71 : ln 71 = 14 := by decide +kernel
theorem kd_72 : kd 72 = 8 := by decide +kernel
theorem ln_72 : ln 72 = 140 := by decide +kernel
theorem kd_73 : kd 73 = 8 := by decide +kernel
theorem ln_73 : ln 73 = 28 := by decide +kernel
theorem kd_74 : kd 74 = 10 := by decide +kernel
theorem ln_74 : ln 74 = 2 := by decide +kernel
theorem kd_75 : kd 75 = 8 := by decide +kernel
theorem ln_75 : ln 75 = 18 := by decide +kernel
theorem kd_76 : kd 76 = 8 := by decide +kernel
theorem ln_76 : ln 76 = 140 := by decide +kernel
theorem kd_77 : kd 77 = 8 := by decide +kernel
theorem ln_77 : ln 77 = 30 := by decide +kernel
theorem kd_78 : kd 78 = 8 := by decide +kernel
theorem ln_78 : ln 78 = 14 := by decide +kernel
theorem kd_79 : kd 79 = 8 := by decide +kernel
theorem ln_79 : ln 79 = 6 := by decide +kernel
theorem tX0 : ∀ w ∈ u_ws RX0 TX0 4, w ∈ TB := by decide +kernel
theorem tX1 : ∀ w ∈ u_ws RX1 TX1 6, w ∈ TB := by decide +kernel
theorem tX2 : ∀ w ∈ u_ws RX2 TX2 3, w ∈ TB := by decide +kernel
theorem tX3 : ∀ w ∈ u_ws RX3 TX3 5, w ∈ TB := by decide +kernel
theorem tX4 : ∀ w ∈ u_ws RX4 TX4 2, w ∈ TB := by decide +kernel
theorem tX5 : ∀ w ∈ u_ws RX5 TX5 6, w ∈ TB := by decide +kernel
theorem tX6 : ∀ w ∈ u_ws RX6 TX6 12, w ∈ TB := by decide +kernel
theorem tX7 : ∀ w ∈ u_ws RX7 TX7 25, w ∈ TB := by decide +kernel
theorem kJ6_265 : Cond.constant RJ6 265 (1431655765) ∈ TB := tb_mem 364 (by decide +kernel) (by decide +kernel)
theorem kJ6_266 : Cond.constant RJ6 266 (858993459) ∈ TB := tb_mem 365 (by decide +kernel) (by decide +kernel)
theorem kJ6_267 : Cond.constant RJ6 267 (252645135) ∈ TB := tb_mem 366 (by decide +kernel) (by decide +kernel)
theorem kL_9 : Cond.methodLink RL 9 yX6_init ∈ TB := tb_mem 76 (by decide +kernel) (by decide +kernel)
theorem kL_12 : Cond.methodLink RL 12 yX7_init ∈ TB := tb_mem 564 (by decide +kernel) (by decide +kernel)
theorem kL_13 : Cond.methodLink RL 13 yX6_type ∈ TB := tb_mem 270 (by decide +kernel) (by decide +kernel)
theorem kL_17 : Cond.methodLink RL 17 yX7_type ∈ TB := tb_mem 644 (by decide +kernel) (by decide +kernel)
theorem kL_18 : Cond.methodLink RL 18 yX6_clear ∈ TB := tb_mem 281 (by decide +kernel) (by decide +kernel)
theorem kL_22 : Cond.methodLink RL 22 yX7_clear ∈ TB := tb_mem 651 (by decide +kernel) (by decide +kernel)
theorem kL_23 : Cond.methodLink RL 23 yX6_valley ∈ TB := tb_mem 285 (by decide +kernel) (by decide +kernel)
theorem kL_26 : Cond.methodLink RL 26 yX7_valley ∈ TB := tb_mem 655 (by decide +kernel) (by decide +kernel)
theorem kL_27 : Cond.methodLink RL 27 yX6_farmer ∈ TB := tb_mem 335 (by decide +kernel) (by decide +kernel)
theorem kL_31 : Cond.methodLink RL 31 yX7_farmer ∈ TB := tb_mem 686 (by decide +kernel) (by decide +kernel)
theorem kL_32 : Cond.methodLink RL 32 yX6_now ∈ TB := tb_mem 393 (by decide +kernel) (by decide +kernel)
theorem kL_35 : Cond.methodLink RL 35 yX7_now ∈ TB := tb_mem 743 (by decide +kernel) (by decide +kernel)
theorem kL_36 : Cond.methodLink RL 36 yX6_day ∈ TB := tb_mem 405 (by decide +kernel) (by decide +kernel)
theorem kL_39 : Cond.methodLink RL 39 yX7_day ∈ TB := tb_mem 747 (by decide +kernel) (by decide +kernel)
theorem kL_40 : Cond.methodLink RL 40 yX6_brings ∈ TB := tb_mem 415 (by decide +kernel) (by decide +kernel)
theorem kL_43 : Cond.methodLink RL 43 yX7_brings ∈ TB := tb_mem 755 (by decide +kernel) (by decide +kernel)
theorem kL_44 : Cond.methodLink RL 44 yX6_hangs ∈ TB := tb_mem 420 (by decide +kernel) (by decide +kernel)
theorem kL_47 : Cond.methodLink RL 47 yX7_hangs ∈ TB := tb_mem 759 (by decide +kernel) (by decide +kernel)
theorem kL_48 : Cond.methodLink RL 48 yX6_undo ∈ TB := tb_mem 424 (by decide +kernel) (by decide +kernel)
theorem kL_51 : Cond.methodLink RL 51 yX7_undo ∈ TB := tb_mem 763 (by decide +kernel) (by decide +kernel)
theorem kL_52 : Cond.methodLink RL 52 yX6_start ∈ TB := tb_mem 432 (by decide +kernel) (by decide +kernel)
theorem kL_55 : Cond.methodLink RL 55 yX7_start ∈ TB := tb_mem 767 (by decide +kernel) (by decide +kernel)
theorem kL_56 : Cond.methodLink RL 56 yX6_hang ∈ TB := tb_mem 440 (by decide +kernel) (by decide +kernel)
theorem kL_59 : Cond.methodLink RL 59 yX7_hang ∈ TB := tb_mem 775 (by decide +kernel) (by decide +kernel)
theorem kL_60 : Cond.methodLink RL 60 yX6_odds ∈ TB := tb_mem 457 (by decide +kernel) (by decide +kernel)
theorem kL_64 : Cond.methodLink RL 64 yX7_odds ∈ TB := tb_mem 786 (by decide +kernel) (by decide +kernel)
theorem kL_65 : Cond.methodLink RL 65 yX6_sees ∈ TB := tb_mem 468 (by decide +kernel) (by decide +kernel)
theorem kL_69 : Cond.methodLink RL 69 yX7_sees ∈ TB := tb_mem 793 (by decide +kernel) (by decide +kernel)
theorem kL_70 : Cond.methodLink RL 70 yX6_forget ∈ TB := tb_mem 476 (by decide +kernel) (by decide +kernel)
theorem kL_73 : Cond.methodLink RL 73 yX7_forget ∈ TB := tb_mem 797 (by decide +kernel) (by decide +kernel)
theorem kL_74 : Cond.methodLink RL 74 yX6_ones ∈ TB := tb_mem 480 (by decide +kernel) (by decide +kernel)
theorem kL_77 : Cond.methodLink RL 77 yX7_ones ∈ TB := tb_mem 801 (by decide +kernel) (by decide +kernel)
theorem kL_78 : Cond.methodLink RL 78 yX6_look ∈ TB := tb_mem 501 (by decide +kernel) (by decide +kernel)
theorem kL_81 : Cond.methodLink RL 81 yX7_look ∈ TB := tb_mem 812 (by decide +kernel) (by decide +kernel)
theorem kL_82 : Cond.methodLink RL 82 yX6_rate ∈ TB := tb_mem 512 (by decide +kernel) (by decide +kernel)
theorem kL_85 : Cond.methodLink RL 85 yX7_rate ∈ TB := tb_mem 817 (by decide +kernel) (by decide +kernel)
theorem kL_86 : Cond.methodLink RL 86 yX6_keep ∈ TB := tb_mem 546 (by decide +kernel) (by decide +kernel)
theorem kL_89 : Cond.methodLink RL 89 yX7_keep ∈ TB := tb_mem 827 (by decide +kernel) (by decide +kernel)
theorem kL_90 : Cond.methodLink RL 90 yX6_back ∈ TB := tb_mem 550 (by decide +kernel) (by decide +kernel)
theorem kL_93 : Cond.methodLink RL 93 yX7_back ∈ TB := tb_mem 831 (by decide +kernel) (by decide +kernel)
theorem kL_94 : Cond.methodLink RL 94 yX6_count ∈ TB := tb_mem 554 (by decide +kernel) (by decide +kernel)
theorem kL_97 : Cond.methodLink RL 97 yX7_count ∈ TB := tb_mem 835 (by decide +kernel) (by decide +kernel)
theorem kL_98 : Cond.methodLink RL 98 yX6_trace ∈ TB := tb_mem 558 (by decide +kernel) (by decide +kernel)
theorem kL_102 : Cond.methodLink RL 102 yX7_trace ∈ TB := tb_mem 839 (by decide +kernel) (by decide +kernel)
theorem kX0_9 : lk RX0 9 "ScytheKeepers$Barns" "keeper" "[I" := Or.inl (tb_mem 206 (by decide +kernel) (by decide +kernel))
theorem kX0_15 : lk RX0 15 "ScytheKeepers$Barns" "tried" "[I" := Or.inl (tb_mem 208 (by decide +kernel) (by decide +kernel))
theorem kX0_18 : lk RX0 18 "ScytheKeepers$Barns" "farms" "LScytheKeepers$Farms;" := Or.inl (tb_mem 203 (by decide +kernel) (by decide +kernel))
theorem kX0_22 : lk RX0 22 "ScytheKeepers$Barns" "far" "I" := Or.inl (tb_mem 204 (by decide +kernel) (by decide +kernel))
theorem kX0_26 : Cond.methodLink RX0 26 yX0_hangFrom ∈ TB := tb_mem 448 (by decide +kernel) (by decide +kernel)
theorem kX0_30 : lk RX0 30 "ScytheKeepers$Farms" "size" "I" := Or.inr ⟨"ScytheKeepers", nb_mem 56 (by decide +kernel) (by decide +kernel)⟩
theorem kX0_41 : lk RX0 41 "ScytheKeepers$Farms" "farm" "[I" := Or.inr ⟨"ScytheKeepers", nb_mem 60 (by decide +kernel) (by decide +kernel)⟩
theorem kX0_44 : Cond.methodLink RX0 44 yJ9_abs_0f7a4 ∈ TB := tb_mem 454 (by decide +kernel) (by decide +kernel)
theorem kX1_9 : lk RX1 9 "ScytheKeepers$Farms" "farm" "[I" := Or.inl (tb_mem 121 (by decide +kernel) (by decide +kernel))
theorem kX1_15 : lk RX1 15 "ScytheKeepers$Farms" "field" "[I" := Or.inl (tb_mem 125 (by decide +kernel) (by decide +kernel))
theorem kX1_18 : lk RX1 18 "ScytheKeepers$Farms" "shame" "[I" := Or.inl (tb_mem 128 (by decide +kernel) (by decide +kernel))
theorem kX1_21 : lk RX1 21 "ScytheKeepers$Farms" "nerve" "[I" := Or.inl (tb_mem 131 (by decide +kernel) (by decide +kernel))
theorem kX1_24 : lk RX1 24 "ScytheKeepers$Farms" "keeper" "[I" := Or.inl (tb_mem 134 (by decide +kernel) (by decide +kernel))
theorem kX1_27 : lk RX1 27 "ScytheKeepers$Farms" "size" "I" := Or.inl (tb_mem 116 (by decide +kernel) (by decide +kernel))
theorem kX1_31 : Cond.methodLink RX1 31 yX1_has ∈ TB := tb_mem 319 (by decide +kernel) (by decide +kernel)
theorem kX1_35 : Cond.methodLink RX1 35 yJ6_bitCount_0f7a4 ∈ TB := tb_mem 361 (by decide +kernel) (by decide +kernel)
theorem kX2_11 : lk RX2 11 "ScytheKeepers$History" "scenes" "[LScytheKeepers$Scene;" := Or.inl (tb_mem 186 (by decide +kernel) (by decide +kernel))
theorem kX2_17 : Cond.methodLinkNest RX2 17 yX3_init "ScytheKeepers" ∈ NB := nb_mem 123 (by decide +kernel) (by decide +kernel)
theorem kX2_20 : lk RX2 20 "ScytheKeepers$History" "next" "I" := Or.inl (tb_mem 187 (by decide +kernel) (by decide +kernel))
theorem kX2_24 : Cond.methodLinkNest RX2 24 yX3_copyFrom "ScytheKeepers" ∈ NB := nb_mem 351 (by decide +kernel) (by decide +kernel)
theorem kX2_28 : lk RX2 28 "ScytheKeepers$History" "size" "I" := Or.inl (tb_mem 188 (by decide +kernel) (by decide +kernel))
theorem kX2_31 : Cond.methodLink RX2 31 yJ9_min_7cf53 ∈ TB := tb_mem 414 (by decide +kernel) (by decide +kernel)
theorem kX3_9 : lk RX3 9 "ScytheKeepers$Scene" "left" "[I" := Or.inl (tb_mem 162 (by decide +kernel) (by decide +kernel))
theorem kX3_15 : lk RX3 15 "ScytheKeepers$Scene" "keeper" "[I" := Or.inl (tb_mem 164 (by decide +kernel) (by decide +kernel))
theorem kX3_18 : lk RX3 18 "ScytheKeepers$Scene" "farms" "LScytheKeepers$Farms;" := Or.inl (tb_mem 157 (by decide +kernel) (by decide +kernel))
theorem kX3_22 : lk RX3 22 "ScytheKeepers$Scene" "date" "I" := Or.inl (tb_mem 158 (by decide +kernel) (by decide +kernel))
theorem kX3_26 : lk RX3 26 "ScytheKeepers$Scene" "asked" "I" := Or.inl (tb_mem 160 (by decide +kernel) (by decide +kernel))
theorem kX3_29 : lk RX3 29 "ScytheKeepers$Farms" "field" "[I" := Or.inr ⟨"ScytheKeepers", nb_mem 64 (by decide +kernel) (by decide +kernel)⟩
theorem kX3_34 : lk RX3 34 "ScytheKeepers$Farms" "keeper" "[I" := Or.inr ⟨"ScytheKeepers", nb_mem 73 (by decide +kernel) (by decide +kernel)⟩
theorem kX3_35 : lk RX3 35 "ScytheKeepers$Farms" "size" "I" := Or.inr ⟨"ScytheKeepers", nb_mem 58 (by decide +kernel) (by decide +kernel)⟩
theorem kX3_38 : Cond.methodLinkNest RX3 38 yX1_has "ScytheKeepers" ∈ NB := nb_mem 290 (by decide +kernel) (by decide +kernel)
theorem kX3_42 : Cond.methodLinkNest RX3 42 yX1_askedBehind "ScytheKeepers" ∈ NB := nb_mem 321 (by decide +kernel) (by decide +kernel)
theorem kX3_46 : Cond.methodLink RX3 46 yX3_mowAll ∈ TB := tb_mem 384 (by decide +kernel) (by decide +kernel)
theorem kX3_50 : Cond.methodLink RX3 50 yX3_hasAsked ∈ TB := tb_mem 388 (by decide +kernel) (by decide +kernel)
theorem kX3_53 : Cond.methodLink RX3 53 yX3_mowsForAnother ∈ TB := tb_mem 389 (by decide +kernel) (by decide +kernel)
theorem kX4_11 : lk RX4 11 "ScytheKeepers$Stranger" "ruledOut" "[Z" := Or.inl (tb_mem 227 (by decide +kernel) (by decide +kernel))
theorem kX4_15 : lk RX4 15 "ScytheKeepers$Stranger" "seen" "I" := Or.inl (tb_mem 225 (by decide +kernel) (by decide +kernel))
theorem kX4_19 : Cond.methodLink RX4 19 yX4_numberOfNerve ∈ TB := tb_mem 488 (by decide +kernel) (by decide +kernel)
theorem kX4_23 : Cond.methodLink RX4 23 yX4_number ∈ TB := tb_mem 496 (by decide +kernel) (by decide +kernel)
theorem kX4_27 : Cond.methodLink RX4 27 yJ9_max_7cf53 ∈ TB := tb_mem 509 (by decide +kernel) (by decide +kernel)
theorem kX5_9 : lk RX5 9 "ScytheKeepers$Text" "letters" "[C" := Or.inl (tb_mem 88 (by decide +kernel) (by decide +kernel))
theorem kX5_15 : lk RX5 15 "ScytheKeepers$Text" "length" "I" := Or.inl (tb_mem 89 (by decide +kernel) (by decide +kernel))
theorem kX5_19 : lk RX5 19 "ScytheKeepers$Text" "next" "I" := Or.inl (tb_mem 91 (by decide +kernel) (by decide +kernel))
theorem kX5_22 : lk RX5 22 "ScytheKeepers$Farms" "size" "I" := Or.inr ⟨"ScytheKeepers", nb_mem 55 (by decide +kernel) (by decide +kernel)⟩
theorem kX5_27 : Cond.methodLink RX5 27 yX5_step ∈ TB := tb_mem 293 (by decide +kernel) (by decide +kernel)
theorem kX5_30 : lk RX5 30 "ScytheKeepers$Text" "token" "I" := Or.inl (tb_mem 94 (by decide +kernel) (by decide +kernel))
theorem kX5_33 : Cond.methodLink RX5 33 yX5_tellsOne ∈ TB := tb_mem 307 (by decide +kernel) (by decide +kernel)
theorem kX5_37 : Cond.methodLinkNest RX5 37 yX1_keepersAreThere "ScytheKeepers" ∈ NB := nb_mem 253 (by decide +kernel) (by decide +kernel)
theorem kX5_41 : lk RX5 41 "ScytheKeepers$Farms" "farm" "[I" := Or.inr ⟨"ScytheKeepers", nb_mem 61 (by decide +kernel) (by decide +kernel)⟩
theorem kX5_45 : Cond.methodLink RX5 45 yX5_tellsNumber ∈ TB := tb_mem 311 (by decide +kernel) (by decide +kernel)
theorem kX5_49 : lk RX5 49 "ScytheKeepers$Farms" "field" "[I" := Or.inr ⟨"ScytheKeepers", nb_mem 65 (by decide +kernel) (by decide +kernel)⟩
theorem kX5_52 : lk RX5 52 "ScytheKeepers$Farms" "shame" "[I" := Or.inr ⟨"ScytheKeepers", nb_mem 67 (by decide +kernel) (by decide +kernel)⟩
theorem kX5_55 : lk RX5 55 "ScytheKeepers$Farms" "nerve" "[I" := Or.inr ⟨"ScytheKeepers", nb_mem 70 (by decide +kernel) (by decide +kernel)⟩
theorem kX5_58 : lk RX5 58 "ScytheKeepers$Farms" "keeper" "[I" := Or.inr ⟨"ScytheKeepers", nb_mem 74 (by decide +kernel) (by decide +kernel)⟩
theorem kX5_61 : lk RX5 61 "ScytheKeepers$Text" "number" "I" := Or.inl (tb_mem 95 (by decide +kernel) (by decide +kernel))
theorem kX5_64 : lk RX5 64 "ScytheKeepers$Text" "place" "I" := Or.inl (tb_mem 93 (by decide +kernel) (by decide +kernel))
theorem kX5_67 : Cond.methodLink RX5 67 yX5_isDigit ∈ TB := tb_mem 297 (by decide +kernel) (by decide +kernel)
theorem kX5_71 : Cond.methodLink RX5 71 yX5_stepOverNumber ∈ TB := tb_mem 300 (by decide +kernel) (by decide +kernel)
theorem kX5_74 : Cond.methodLink RX5 74 yJ9_min_7cf53 ∈ TB := tb_mem 304 (by decide +kernel) (by decide +kernel)
theorem kX6_9 : Cond.methodLinkNest RX6 9 yX5_init "ScytheKeepers" ∈ NB := nb_mem 22 (by decide +kernel) (by decide +kernel)
theorem kX6_10 : lk RX6 10 "ScytheKeepers" "text" "LScytheKeepers$Text;" := Or.inl (tb_mem 233 (by decide +kernel) (by decide +kernel))
theorem kX6_18 : Cond.methodLinkNest RX6 18 yX1_init "ScytheKeepers" ∈ NB := nb_mem 50 (by decide +kernel) (by decide +kernel)
theorem kX6_19 : lk RX6 19 "ScytheKeepers" "draft" "LScytheKeepers$Farms;" := Or.inl (tb_mem 234 (by decide +kernel) (by decide +kernel))
theorem kX6_23 : lk RX6 23 "ScytheKeepers" "farms" "LScytheKeepers$Farms;" := Or.inl (tb_mem 235 (by decide +kernel) (by decide +kernel))
theorem kX6_28 : Cond.methodLinkNest RX6 28 yX3_init "ScytheKeepers" ∈ NB := nb_mem 91 (by decide +kernel) (by decide +kernel)
theorem kX6_31 : lk RX6 31 "ScytheKeepers" "scene" "LScytheKeepers$Scene;" := Or.inl (tb_mem 236 (by decide +kernel) (by decide +kernel))
theorem kX6_35 : lk RX6 35 "ScytheKeepers" "trial" "LScytheKeepers$Scene;" := Or.inl (tb_mem 237 (by decide +kernel) (by decide +kernel))
theorem kX6_40 : Cond.methodLinkNest RX6 40 yX2_init "ScytheKeepers" ∈ NB := nb_mem 117 (by decide +kernel) (by decide +kernel)
theorem kX6_41 : lk RX6 41 "ScytheKeepers" "history" "LScytheKeepers$History;" := Or.inl (tb_mem 238 (by decide +kernel) (by decide +kernel))
theorem kX6_45 : lk RX6 45 "ScytheKeepers" "images" "[LScytheKeepers$Scene;" := Or.inl (tb_mem 239 (by decide +kernel) (by decide +kernel))
theorem kX6_49 : lk RX6 49 "ScytheKeepers" "imageKept" "[Z" := Or.inl (tb_mem 240 (by decide +kernel) (by decide +kernel))
theorem kX6_55 : Cond.methodLinkNest RX6 55 yX0_init "ScytheKeepers" ∈ NB := nb_mem 137 (by decide +kernel) (by decide +kernel)
theorem kX6_56 : lk RX6 56 "ScytheKeepers" "barns" "LScytheKeepers$Barns;" := Or.inl (tb_mem 241 (by decide +kernel) (by decide +kernel))
theorem kX6_62 : Cond.methodLinkNest RX6 62 yX4_init "ScytheKeepers" ∈ NB := nb_mem 159 (by decide +kernel) (by decide +kernel)
theorem kX6_63 : lk RX6 63 "ScytheKeepers" "stranger" "LScytheKeepers$Stranger;" := Or.inl (tb_mem 242 (by decide +kernel) (by decide +kernel))
theorem kX6_67 : lk RX6 67 "ScytheKeepers" "weights" "[I" := Or.inl (tb_mem 243 (by decide +kernel) (by decide +kernel))
theorem kX6_71 : Cond.methodLink RX6 71 yX6_within ∈ TB := tb_mem 274 (by decide +kernel) (by decide +kernel)
theorem kX6_75 : Cond.methodLinkNest RX6 75 yX5_add "ScytheKeepers" ∈ NB := nb_mem 215 (by decide +kernel) (by decide +kernel)
theorem kX6_79 : lk RX6 79 "ScytheKeepers$Text" "length" "I" := Or.inr ⟨"ScytheKeepers", nb_mem 28 (by decide +kernel) (by decide +kernel)⟩
theorem kX6_83 : Cond.methodLinkNest RX6 83 yX5_tells "ScytheKeepers" ∈ NB := nb_mem 227 (by decide +kernel) (by decide +kernel)
theorem kX6_87 : lk RX6 87 "ScytheKeepers$Text" "place" "I" := Or.inr ⟨"ScytheKeepers", nb_mem 30 (by decide +kernel) (by decide +kernel)⟩
theorem kX6_90 : Cond.methodLinkNest RX6 90 yX1_copyFrom "ScytheKeepers" ∈ NB := nb_mem 261 (by decide +kernel) (by decide +kernel)
theorem kX6_93 : Cond.methodLinkNest RX6 93 yX3_begin "ScytheKeepers" ∈ NB := nb_mem 265 (by decide +kernel) (by decide +kernel)
theorem kX6_96 : lk RX6 96 "ScytheKeepers$History" "size" "I" := Or.inr ⟨"ScytheKeepers", nb_mem 127 (by decide +kernel) (by decide +kernel)⟩
theorem kX6_99 : Cond.methodLinkNest RX6 99 yX4_begin "ScytheKeepers" ∈ NB := nb_mem 269 (by decide +kernel) (by decide +kernel)
theorem kX6_100 : lk RX6 100 "ScytheKeepers$Farms" "size" "I" := Or.inr ⟨"ScytheKeepers", nb_mem 57 (by decide +kernel) (by decide +kernel)⟩
theorem kX6_101 : Cond.methodLinkNest RX6 101 yX1_has "ScytheKeepers" ∈ NB := nb_mem 277 (by decide +kernel) (by decide +kernel)
theorem kX6_104 : lk RX6 104 "ScytheKeepers$Farms" "farm" "[I" := Or.inr ⟨"ScytheKeepers", nb_mem 62 (by decide +kernel) (by decide +kernel)⟩
theorem kX6_107 : lk RX6 107 "ScytheKeepers$Scene" "left" "[I" := Or.inr ⟨"ScytheKeepers", nb_mem 101 (by decide +kernel) (by decide +kernel)⟩
theorem kX6_110 : lk RX6 110 "ScytheKeepers$Farms" "shame" "[I" := Or.inr ⟨"ScytheKeepers", nb_mem 68 (by decide +kernel) (by decide +kernel)⟩
theorem kX6_113 : lk RX6 113 "ScytheKeepers$Farms" "nerve" "[I" := Or.inr ⟨"ScytheKeepers", nb_mem 71 (by decide +kernel) (by decide +kernel)⟩
theorem kX6_116 : lk RX6 116 "ScytheKeepers$Scene" "keeper" "[I" := Or.inr ⟨"ScytheKeepers", nb_mem 103 (by decide +kernel) (by decide +kernel)⟩
theorem kX6_119 : Cond.methodLinkNest RX6 119 yX3_hasAsked "ScytheKeepers" ∈ NB := nb_mem 278 (by decide +kernel) (by decide +kernel)
theorem kX6_122 : Cond.methodLinkNest RX6 122 yX3_hungWith "ScytheKeepers" ∈ NB := nb_mem 282 (by decide +kernel) (by decide +kernel)
theorem kX6_126 : Cond.methodLinkNest RX6 126 yX3_ringOf "ScytheKeepers" ∈ NB := nb_mem 286 (by decide +kernel) (by decide +kernel)
theorem kX6_129 : Cond.methodLink RX6 129 yX6_daysTillAsked ∈ TB := tb_mem 353 (by decide +kernel) (by decide +kernel)
theorem kX6_132 : Cond.methodLink RX6 132 yX6_daysTillMown ∈ TB := tb_mem 367 (by decide +kernel) (by decide +kernel)
theorem kX6_135 : lk RX6 135 "ScytheKeepers$Scene" "date" "I" := Or.inr ⟨"ScytheKeepers", nb_mem 97 (by decide +kernel) (by decide +kernel)⟩
theorem kX6_138 : lk RX6 138 "ScytheKeepers$Scene" "asked" "I" := Or.inr ⟨"ScytheKeepers", nb_mem 99 (by decide +kernel) (by decide +kernel)⟩
theorem kX6_141 : Cond.methodLinkNest RX6 141 yX3_leftTogether "ScytheKeepers" ∈ NB := nb_mem 335 (by decide +kernel) (by decide +kernel)
theorem kX6_145 : Cond.methodLinkNest RX6 145 yX1_everyone "ScytheKeepers" ∈ NB := nb_mem 339 (by decide +kernel) (by decide +kernel)
theorem kX6_148 : Cond.methodLinkNest RX6 148 yX2_push "ScytheKeepers" ∈ NB := nb_mem 347 (by decide +kernel) (by decide +kernel)
theorem kX6_152 : Cond.methodLinkNest RX6 152 yX3_pass "ScytheKeepers" ∈ NB := nb_mem 317 (by decide +kernel) (by decide +kernel)
theorem kX6_156 : Cond.methodLink RX6 156 yJ6_bitCount_0f7a4 ∈ TB := tb_mem 419 (by decide +kernel) (by decide +kernel)
theorem kX6_161 : Cond.methodLinkNest RX6 161 yX2_pop "ScytheKeepers" ∈ NB := nb_mem 366 (by decide +kernel) (by decide +kernel)
theorem kX6_164 : Cond.methodLink RX6 164 yX6_allAskBehind ∈ TB := tb_mem 436 (by decide +kernel) (by decide +kernel)
theorem kX6_168 : Cond.methodLinkNest RX6 168 yX0_search "ScytheKeepers" ∈ NB := nb_mem 382 (by decide +kernel) (by decide +kernel)
theorem kX6_171 : lk RX6 171 "ScytheKeepers$Barns" "far" "I" := Or.inr ⟨"ScytheKeepers", nb_mem 143 (by decide +kernel) (by decide +kernel)⟩
theorem kX6_174 : lk RX6 174 "ScytheKeepers$Barns" "keeper" "[I" := Or.inr ⟨"ScytheKeepers", nb_mem 145 (by decide +kernel) (by decide +kernel)⟩
theorem kX6_175 : Cond.methodLink RX6 175 yX6_weigh ∈ TB := tb_mem 461 (by decide +kernel) (by decide +kernel)
theorem kX6_179 : Cond.methodLink RX6 179 yX6_commonDivisor ∈ TB := tb_mem 465 (by decide +kernel) (by decide +kernel)
theorem kX6_183 : lk RX6 183 "ScytheKeepers$Stranger" "seen" "I" := Or.inr ⟨"ScytheKeepers", nb_mem 164 (by decide +kernel) (by decide +kernel)⟩
theorem kX6_186 : Cond.methodLinkNest RX6 186 yX4_learn "ScytheKeepers" ∈ NB := nb_mem 410 (by decide +kernel) (by decide +kernel)
theorem kX6_190 : Cond.methodLinkNest RX6 190 yX4_number "ScytheKeepers" ∈ NB := nb_mem 422 (by decide +kernel) (by decide +kernel)
theorem kX6_193 : Cond.methodLinkNest RX6 193 yX4_leastShame "ScytheKeepers" ∈ NB := nb_mem 430 (by decide +kernel) (by decide +kernel)
theorem kX6_196 : Cond.methodLinkNest RX6 196 yX4_greatestShame "ScytheKeepers" ∈ NB := nb_mem 435 (by decide +kernel) (by decide +kernel)
theorem kX6_199 : Cond.methodLinkNest RX6 199 yX4_bestOthers "ScytheKeepers" ∈ NB := nb_mem 443 (by decide +kernel) (by decide +kernel)
theorem kX6_202 : Cond.constant RX6 202 (-1000000) ∈ TB := tb_mem 516 (by decide +kernel) (by decide +kernel)
theorem kX6_203 : Cond.methodLink RX6 203 yX6_asFarmer ∈ TB := tb_mem 517 (by decide +kernel) (by decide +kernel)
theorem kX6_206 : Cond.methodLink RX6 206 yX6_asMower ∈ TB := tb_mem 521 (by decide +kernel) (by decide +kernel)
theorem kX6_209 : Cond.methodLink RX6 209 yX6_asLate ∈ TB := tb_mem 526 (by decide +kernel) (by decide +kernel)
theorem kX6_212 : Cond.methodLink RX6 212 yX6_asSon ∈ TB := tb_mem 531 (by decide +kernel) (by decide +kernel)
theorem kX6_215 : Cond.methodLink RX6 215 yX6_asCousin ∈ TB := tb_mem 536 (by decide +kernel) (by decide +kernel)
theorem kX6_218 : Cond.methodLink RX6 218 yX6_asSnow ∈ TB := tb_mem 541 (by decide +kernel) (by decide +kernel)
theorem kX6_221 : Cond.methodLinkNest RX6 221 yX3_copyFrom "ScytheKeepers" ∈ NB := nb_mem 309 (by decide +kernel) (by decide +kernel)
theorem kX6_223 : lk RX6 223 "ScytheKeepers" "traced" "J" := Or.inl (tb_mem 244 (by decide +kernel) (by decide +kernel))
theorem kX6_227 : Cond.methodLinkNest RX6 227 yX1_askedBehind "ScytheKeepers" ∈ NB := nb_mem 295 (by decide +kernel) (by decide +kernel)
theorem kX6_230 : Cond.methodLinkNest RX6 230 yX3_allMown "ScytheKeepers" ∈ NB := nb_mem 313 (by decide +kernel) (by decide +kernel)
theorem kX6_233 : Cond.constantLong RX6 233 (10) ∈ TB := tb_mem 525 (by decide +kernel) (by decide +kernel)
theorem kX6_235 : Cond.constantLong RX6 235 (100) ∈ TB := tb_mem 530 (by decide +kernel) (by decide +kernel)
theorem kX6_237 : Cond.constantLong RX6 237 (1000) ∈ TB := tb_mem 535 (by decide +kernel) (by decide +kernel)
theorem kX6_239 : Cond.constantLong RX6 239 (10000) ∈ TB := tb_mem 540 (by decide +kernel) (by decide +kernel)
theorem kX6_241 : Cond.constantLong RX6 241 (100000) ∈ TB := tb_mem 545 (by decide +kernel) (by decide +kernel)
theorem kX7_7 : lk RX7 7 "ScytheKeepersModel" "farms" "[I" := Or.inl (tb_mem 569 (by decide +kernel) (by decide +kernel))
theorem kX7_13 : lk RX7 13 "ScytheKeepersModel" "shames" "[I" := Or.inl (tb_mem 570 (by decide +kernel) (by decide +kernel))
theorem kX7_16 : lk RX7 16 "ScytheKeepersModel" "nerves" "[I" := Or.inl (tb_mem 571 (by decide +kernel) (by decide +kernel))
theorem kX7_19 : lk RX7 19 "ScytheKeepersModel" "st" "[I" := Or.inl (tb_mem 572 (by decide +kernel) (by decide +kernel))
theorem kX7_22 : lk RX7 22 "ScytheKeepersModel" "was" "[I" := Or.inl (tb_mem 573 (by decide +kernel) (by decide +kernel))
theorem kX7_25 : lk RX7 25 "ScytheKeepersModel" "images" "[I" := Or.inl (tb_mem 575 (by decide +kernel) (by decide +kernel))
theorem kX7_28 : lk RX7 28 "ScytheKeepersModel" "isKept" "[Z" := Or.inl (tb_mem 576 (by decide +kernel) (by decide +kernel))
theorem kX7_32 : lk RX7 32 "ScytheKeepersModel" "told" "[I" := Or.inl (tb_mem 578 (by decide +kernel) (by decide +kernel))
theorem kX7_35 : lk RX7 35 "ScytheKeepersModel" "text" "[I" := Or.inl (tb_mem 580 (by decide +kernel) (by decide +kernel))
theorem kX7_38 : lk RX7 38 "ScytheKeepersModel" "said" "[I" := Or.inl (tb_mem 589 (by decide +kernel) (by decide +kernel))
theorem kX7_41 : lk RX7 41 "ScytheKeepersModel" "now" "[I" := Or.inl (tb_mem 590 (by decide +kernel) (by decide +kernel))
theorem kX7_44 : lk RX7 44 "ScytheKeepersModel" "tried" "[I" := Or.inl (tb_mem 592 (by decide +kernel) (by decide +kernel))
theorem kX7_47 : lk RX7 47 "ScytheKeepersModel" "farmers" "I" := Or.inl (tb_mem 568 (by decide +kernel) (by decide +kernel))
theorem kX7_51 : Cond.methodLink RX7 51 yX7_in ∈ TB := tb_mem 648 (by decide +kernel) (by decide +kernel)
theorem kX7_55 : lk RX7 55 "ScytheKeepersModel" "texted" "I" := Or.inl (tb_mem 581 (by decide +kernel) (by decide +kernel))
theorem kX7_58 : lk RX7 58 "ScytheKeepersModel" "cursor" "I" := Or.inl (tb_mem 582 (by decide +kernel) (by decide +kernel))
theorem kX7_61 : Cond.methodLink RX7 61 yX7_letterAt ∈ TB := tb_mem 663 (by decide +kernel) (by decide +kernel)
theorem kX7_65 : lk RX7 65 "ScytheKeepersModel" "start" "I" := Or.inl (tb_mem 583 (by decide +kernel) (by decide +kernel))
theorem kX7_68 : lk RX7 68 "ScytheKeepersModel" "number" "I" := Or.inl (tb_mem 585 (by decide +kernel) (by decide +kernel))
theorem kX7_71 : lk RX7 71 "ScytheKeepersModel" "token" "I" := Or.inl (tb_mem 584 (by decide +kernel) (by decide +kernel))
theorem kX7_74 : Cond.methodLink RX7 74 yX7_isFigure ∈ TB := tb_mem 667 (by decide +kernel) (by decide +kernel)
theorem kX7_78 : lk RX7 78 "ScytheKeepersModel" "isWrong" "Z" := Or.inl (tb_mem 586 (by decide +kernel) (by decide +kernel))
theorem kX7_82 : Cond.methodLink RX7 82 yX7_next ∈ TB := tb_mem 659 (by decide +kernel) (by decide +kernel)
theorem kX7_85 : lk RX7 85 "ScytheKeepersModel" "saidFarmers" "I" := Or.inl (tb_mem 588 (by decide +kernel) (by decide +kernel))
theorem kX7_88 : Cond.methodLink RX7 88 yX7_takesNumber ∈ TB := tb_mem 678 (by decide +kernel) (by decide +kernel)
theorem kX7_92 : Cond.methodLink RX7 92 yX7_readFarmer ∈ TB := tb_mem 674 (by decide +kernel) (by decide +kernel)
theorem kX7_95 : lk RX7 95 "ScytheKeepersModel" "items" "I" := Or.inl (tb_mem 587 (by decide +kernel) (by decide +kernel))
theorem kX7_98 : Cond.methodLink RX7 98 yX7_readItem ∈ TB := tb_mem 670 (by decide +kernel) (by decide +kernel)
theorem kX7_101 : Cond.methodLink RX7 101 yX7_settles ∈ TB := tb_mem 682 (by decide +kernel) (by decide +kernel)
theorem kX7_104 : lk RX7 104 "ScytheKeepersModel" "known" "I" := Or.inl (tb_mem 574 (by decide +kernel) (by decide +kernel))
theorem kX7_107 : lk RX7 107 "ScytheKeepersModel" "toldMany" "I" := Or.inl (tb_mem 577 (by decide +kernel) (by decide +kernel))
theorem kX7_110 : Cond.methodLink RX7 110 yX7_copy ∈ TB := tb_mem 710 (by decide +kernel) (by decide +kernel)
theorem kX7_114 : Cond.methodLink RX7 114 yX7_bits ∈ TB := tb_mem 724 (by decide +kernel) (by decide +kernel)
theorem kX7_117 : Cond.methodLink RX7 117 yX7_has ∈ TB := tb_mem 713 (by decide +kernel) (by decide +kernel)
theorem kX7_121 : lk RX7 121 "ScytheKeepersModel" "bare" "I" := Or.inl (tb_mem 591 (by decide +kernel) (by decide +kernel))
theorem kX7_124 : Cond.methodLink RX7 124 yX7_asks ∈ TB := tb_mem 720 (by decide +kernel) (by decide +kernel)
theorem kX7_127 : Cond.methodLink RX7 127 yX7_mowsOwn ∈ TB := tb_mem 727 (by decide +kernel) (by decide +kernel)
theorem kX7_130 : Cond.methodLink RX7 130 yX7_mowsOther ∈ TB := tb_mem 731 (by decide +kernel) (by decide +kernel)
theorem kX7_133 : Cond.methodLink RX7 133 yX7_asItIs ∈ TB := tb_mem 706 (by decide +kernel) (by decide +kernel)
theorem kX7_136 : Cond.methodLink RX7 136 yX7_goesBy ∈ TB := tb_mem 716 (by decide +kernel) (by decide +kernel)
theorem kX7_139 : Cond.methodLink RX7 139 yX7_leftAll ∈ TB := tb_mem 739 (by decide +kernel) (by decide +kernel)
theorem kX7_143 : Cond.methodLink RX7 143 yX7_isFarmer ∈ TB := tb_mem 690 (by decide +kernel) (by decide +kernel)
theorem kX7_146 : Cond.methodLink RX7 146 yX7_hangWith ∈ TB := tb_mem 694 (by decide +kernel) (by decide +kernel)
theorem kX7_149 : Cond.methodLink RX7 149 yX7_ring ∈ TB := tb_mem 698 (by decide +kernel) (by decide +kernel)
theorem kX7_152 : Cond.methodLink RX7 152 yX7_daysTillAsked ∈ TB := tb_mem 702 (by decide +kernel) (by decide +kernel)
theorem kX7_155 : Cond.methodLink RX7 155 yX7_daysTillDone ∈ TB := tb_mem 735 (by decide +kernel) (by decide +kernel)
theorem kX7_158 : Cond.methodLink RX7 158 yX7_remembers ∈ TB := tb_mem 751 (by decide +kernel) (by decide +kernel)
theorem kX7_161 : Cond.methodLink RX7 161 yX7_allAskedBy ∈ TB := tb_mem 771 (by decide +kernel) (by decide +kernel)
theorem kX7_164 : Cond.methodLink RX7 164 yX7_far ∈ TB := tb_mem 783 (by decide +kernel) (by decide +kernel)
theorem kX7_167 : Cond.methodLink RX7 167 yX7_farBy ∈ TB := tb_mem 779 (by decide +kernel) (by decide +kernel)
theorem kX7_170 : Cond.methodLink RX7 170 yX7_lowest ∈ TB := tb_mem 790 (by decide +kernel) (by decide +kernel)
theorem kX7_174 : Cond.methodLink RX7 174 yX7_hadAsked ∈ TB := tb_mem 809 (by decide +kernel) (by decide +kernel)
theorem kX7_178 : Cond.methodLink RX7 178 yX7_isSo ∈ TB := tb_mem 805 (by decide +kernel) (by decide +kernel)
theorem kX7_181 : Cond.methodLink RX7 181 yX7_ones ∈ TB := tb_mem 816 (by decide +kernel) (by decide +kernel)
theorem kX7_184 : Cond.constant RX7 184 (-1000000) ∈ TB := tb_mem 821 (by decide +kernel) (by decide +kernel)
theorem kX7_185 : lk RX7 185 "ScytheKeepersModel" "trace" "J" := Or.inl (tb_mem 579 (by decide +kernel) (by decide +kernel))
theorem kX7_189 : Cond.constantLong RX7 189 (11) ∈ TB := tb_mem 822 (by decide +kernel) (by decide +kernel)
theorem kX7_191 : Cond.constantLong RX7 191 (101) ∈ TB := tb_mem 823 (by decide +kernel) (by decide +kernel)
theorem kX7_193 : Cond.constantLong RX7 193 (1011) ∈ TB := tb_mem 824 (by decide +kernel) (by decide +kernel)
theorem kX7_195 : Cond.constantLong RX7 195 (10101) ∈ TB := tb_mem 825 (by decide +kernel) (by decide +kernel)
theorem kX7_197 : Cond.constantLong RX7 197 (100001) ∈ TB := tb_mem 826 (by decide +kernel) (by decide +kernel)
theorem wcX6_init : Cond.code yX6_init cX6_init 2 none ∈ TB := tb_mem 78 (by decide +kernel) (by decide +kernel)
theorem wmX6_init : Cond.instanceMethod yX6_init ∈ TB := tb_mem 77 (by decide +kernel) (by decide +kernel)
theorem wcX5_init : Cond.code yX5_init cX5_init 1 none ∈ TB := tb_mem 86 (by decide +kernel) (by decide +kernel)
theorem wmX5_init : Cond.instanceMethod yX5_init ∈ TB := tb_mem 85 (by decide +kernel) (by decide +kernel)
theorem wcX1_init : Cond.code yX1_init cX1_init 1 none ∈ TB := tb_mem 114 (by decide +kernel) (by decide +kernel)
theorem wmX1_init : Cond.instanceMethod yX1_init ∈ TB := tb_mem 113 (by decide +kernel) (by decide +kernel)
theorem wcX3_init : Cond.code yX3_init cX3_init 2 none ∈ TB := tb_mem 155 (by decide +kernel) (by decide +kernel)
theorem wmX3_init : Cond.instanceMethod yX3_init ∈ TB := tb_mem 154 (by decide +kernel) (by decide +kernel)
theorem wcX2_init : Cond.code yX2_init cX2_init 3 none ∈ TB := tb_mem 181 (by decide +kernel) (by decide +kernel)
theorem wmX2_init : Cond.instanceMethod yX2_init ∈ TB := tb_mem 180 (by decide +kernel) (by decide +kernel)
theorem wcX0_init : Cond.code yX0_init cX0_init 2 none ∈ TB := tb_mem 201 (by decide +kernel) (by decide +kernel)
theorem wmX0_init : Cond.instanceMethod yX0_init ∈ TB := tb_mem 200 (by decide +kernel) (by decide +kernel)
theorem wcX4_init : Cond.code yX4_init cX4_init 1 none ∈ TB := tb_mem 223 (by decide +kernel) (by decide +kernel)
theorem wmX4_init : Cond.instanceMethod yX4_init ∈ TB := tb_mem 222 (by decide +kernel) (by decide +kernel)
theorem wcX6_type : Cond.code yX6_type cX6_type 2 (some .int) ∈ TB := tb_mem 273 (by decide +kernel) (by decide +kernel)
theorem wmX6_type : Cond.instanceMethod yX6_type ∈ TB := tb_mem 271 (by decide +kernel) (by decide +kernel)
theorem weX6_type : Cond.selects RX6 yX6_type yX6_type ∈ TB := tb_mem 272 (by decide +kernel) (by decide +kernel)
theorem wcX6_within : Cond.code yX6_within cX6_within 3 (some .boolean) ∈ TB := tb_mem 276 (by decide +kernel) (by decide +kernel)
theorem wtX6_within : Cond.static yX6_within ∈ TB := tb_mem 275 (by decide +kernel) (by decide +kernel)
theorem wcX5_add : Cond.code yX5_add cX5_add 2 (some .boolean) ∈ TB := tb_mem 280 (by decide +kernel) (by decide +kernel)
theorem wmX5_add : Cond.instanceMethod yX5_add ∈ TB := tb_mem 279 (by decide +kernel) (by decide +kernel)
theorem weX5_add : Cond.selects RX5 yX5_add yX5_add ∈ TB := tb_mem 0 (by decide +kernel) (by decide +kernel)
theorem wcX6_clear : Cond.code yX6_clear cX6_clear 2 (some .int) ∈ TB := tb_mem 284 (by decide +kernel) (by decide +kernel)
theorem wmX6_clear : Cond.instanceMethod yX6_clear ∈ TB := tb_mem 282 (by decide +kernel) (by decide +kernel)
theorem weX6_clear : Cond.selects RX6 yX6_clear yX6_clear ∈ TB := tb_mem 283 (by decide +kernel) (by decide +kernel)
theorem wcX6_valley : Cond.code yX6_valley cX6_valley 2 (some .int) ∈ TB := tb_mem 288 (by decide +kernel) (by decide +kernel)
theorem wmX6_valley : Cond.instanceMethod yX6_valley ∈ TB := tb_mem 286 (by decide +kernel) (by decide +kernel)
theorem weX6_valley : Cond.selects RX6 yX6_valley yX6_valley ∈ TB := tb_mem 287 (by decide +kernel) (by decide +kernel)
theorem wcX5_tells : Cond.code yX5_tells cX5_tells 3 (some .boolean) ∈ TB := tb_mem 292 (by decide +kernel) (by decide +kernel)
theorem wmX5_tells : Cond.instanceMethod yX5_tells ∈ TB := tb_mem 291 (by decide +kernel) (by decide +kernel)
theorem weX5_tells : Cond.selects RX5 yX5_tells yX5_tells ∈ TB := tb_mem 1 (by decide +kernel) (by decide +kernel)
theorem wcX5_step : Cond.code yX5_step cX5_step 1 none ∈ TB := tb_mem 296 (by decide +kernel) (by decide +kernel)
theorem wmX5_step : Cond.instanceMethod yX5_step ∈ TB := tb_mem 295 (by decide +kernel) (by decide +kernel)
theorem weX5_step : Cond.selects RX5 yX5_step yX5_step ∈ TB := tb_mem 2 (by decide +kernel) (by decide +kernel)
theorem wcX5_isDigit : Cond.code yX5_isDigit cX5_isDigit 1 (some .boolean) ∈ TB := tb_mem 299 (by decide +kernel) (by decide +kernel)
theorem wtX5_isDigit : Cond.static yX5_isDigit ∈ TB := tb_mem 298 (by decide +kernel) (by decide +kernel)
theorem wcX5_stepOverNumber : Cond.code yX5_stepOverNumber cX5_stepOverNumber 2 none ∈ TB := tb_mem 303 (by decide +kernel) (by decide +kernel)
theorem wmX5_stepOverNumber : Cond.instanceMethod yX5_stepOverNumber ∈ TB := tb_mem 302 (by decide +kernel) (by decide +kernel)
theorem weX5_stepOverNumber : Cond.selects RX5 yX5_stepOverNumber yX5_stepOverNumber ∈ TB := tb_mem 3 (by decide +kernel) (by decide +kernel)
theorem wcJ9_min_7cf53 : Cond.code yJ9_min_7cf53 cJ9_min_7cf53 2 (some .int) ∈ TB := tb_mem 306 (by decide +kernel) (by decide +kernel)
theorem wtJ9_min_7cf53 : Cond.static yJ9_min_7cf53 ∈ TB := tb_mem 305 (by decide +kernel) (by decide +kernel)
theorem wcX5_tellsOne : Cond.code yX5_tellsOne cX5_tellsOne 4 (some .boolean) ∈ TB := tb_mem 310 (by decide +kernel) (by decide +kernel)
theorem wmX5_tellsOne : Cond.instanceMethod yX5_tellsOne ∈ TB := tb_mem 309 (by decide +kernel) (by decide +kernel)
theorem weX5_tellsOne : Cond.selects RX5 yX5_tellsOne yX5_tellsOne ∈ TB := tb_mem 4 (by decide +kernel) (by decide +kernel)
theorem wcX5_tellsNumber : Cond.code yX5_tellsNumber cX5_tellsNumber 5 (some .boolean) ∈ TB := tb_mem 314 (by decide +kernel) (by decide +kernel)
theorem wmX5_tellsNumber : Cond.instanceMethod yX5_tellsNumber ∈ TB := tb_mem 313 (by decide +kernel) (by decide +kernel)
theorem weX5_tellsNumber : Cond.selects RX5 yX5_tellsNumber yX5_tellsNumber ∈ TB := tb_mem 5 (by decide +kernel) (by decide +kernel)
theorem wcX1_keepersAreThere : Cond.code yX1_keepersAreThere cX1_keepersAreThere 2 (some .boolean) ∈ TB := tb_mem 318 (by decide +kernel) (by decide +kernel)
theorem wmX1_keepersAreThere : Cond.instanceMethod yX1_keepersAreThere ∈ TB := tb_mem 317 (by decide +kernel) (by decide +kernel)
theorem weX1_keepersAreThere : Cond.selects RX1 yX1_keepersAreThere yX1_keepersAreThere ∈ TB := tb_mem 6 (by decide +kernel) (by decide +kernel)
theorem wcX1_has : Cond.code yX1_has cX1_has 2 (some .boolean) ∈ TB := tb_mem 322 (by decide +kernel) (by decide +kernel)
theorem wmX1_has : Cond.instanceMethod yX1_has ∈ TB := tb_mem 321 (by decide +kernel) (by decide +kernel)
theorem weX1_has : Cond.selects RX1 yX1_has yX1_has ∈ TB := tb_mem 7 (by decide +kernel) (by decide +kernel)
theorem wcX1_copyFrom : Cond.code yX1_copyFrom cX1_copyFrom 3 none ∈ TB := tb_mem 326 (by decide +kernel) (by decide +kernel)
theorem wmX1_copyFrom : Cond.instanceMethod yX1_copyFrom ∈ TB := tb_mem 325 (by decide +kernel) (by decide +kernel)
theorem weX1_copyFrom : Cond.selects RX1 yX1_copyFrom yX1_copyFrom ∈ TB := tb_mem 8 (by decide +kernel) (by decide +kernel)
theorem wcX3_begin : Cond.code yX3_begin cX3_begin 2 none ∈ TB := tb_mem 330 (by decide +kernel) (by decide +kernel)
theorem wmX3_begin : Cond.instanceMethod yX3_begin ∈ TB := tb_mem 329 (by decide +kernel) (by decide +kernel)
theorem weX3_begin : Cond.selects RX3 yX3_begin yX3_begin ∈ TB := tb_mem 9 (by decide +kernel) (by decide +kernel)
theorem wcX4_begin : Cond.code yX4_begin cX4_begin 2 none ∈ TB := tb_mem 334 (by decide +kernel) (by decide +kernel)
theorem wmX4_begin : Cond.instanceMethod yX4_begin ∈ TB := tb_mem 333 (by decide +kernel) (by decide +kernel)
theorem weX4_begin : Cond.selects RX4 yX4_begin yX4_begin ∈ TB := tb_mem 10 (by decide +kernel) (by decide +kernel)
theorem wcX6_farmer : Cond.code yX6_farmer cX6_farmer 3 (some .int) ∈ TB := tb_mem 338 (by decide +kernel) (by decide +kernel)
theorem wmX6_farmer : Cond.instanceMethod yX6_farmer ∈ TB := tb_mem 336 (by decide +kernel) (by decide +kernel)
theorem weX6_farmer : Cond.selects RX6 yX6_farmer yX6_farmer ∈ TB := tb_mem 337 (by decide +kernel) (by decide +kernel)
theorem wcX3_hasAsked : Cond.code yX3_hasAsked cX3_hasAsked 2 (some .boolean) ∈ TB := tb_mem 343 (by decide +kernel) (by decide +kernel)
theorem wmX3_hasAsked : Cond.instanceMethod yX3_hasAsked ∈ TB := tb_mem 342 (by decide +kernel) (by decide +kernel)
theorem weX3_hasAsked : Cond.selects RX3 yX3_hasAsked yX3_hasAsked ∈ TB := tb_mem 11 (by decide +kernel) (by decide +kernel)
theorem wcX3_hungWith : Cond.code yX3_hungWith cX3_hungWith 4 (some .int) ∈ TB := tb_mem 347 (by decide +kernel) (by decide +kernel)
theorem wmX3_hungWith : Cond.instanceMethod yX3_hungWith ∈ TB := tb_mem 346 (by decide +kernel) (by decide +kernel)
theorem weX3_hungWith : Cond.selects RX3 yX3_hungWith yX3_hungWith ∈ TB := tb_mem 12 (by decide +kernel) (by decide +kernel)
theorem wcX3_ringOf : Cond.code yX3_ringOf cX3_ringOf 4 (some .int) ∈ TB := tb_mem 351 (by decide +kernel) (by decide +kernel)
theorem wmX3_ringOf : Cond.instanceMethod yX3_ringOf ∈ TB := tb_mem 350 (by decide +kernel) (by decide +kernel)
theorem weX3_ringOf : Cond.selects RX3 yX3_ringOf yX3_ringOf ∈ TB := tb_mem 13 (by decide +kernel) (by decide +kernel)
theorem wcX6_daysTillAsked : Cond.code yX6_daysTillAsked cX6_daysTillAsked 4 (some .int) ∈ TB := tb_mem 356 (by decide +kernel) (by decide +kernel)
theorem wmX6_daysTillAsked : Cond.instanceMethod yX6_daysTillAsked ∈ TB := tb_mem 355 (by decide +kernel) (by decide +kernel)
theorem weX6_daysTillAsked : Cond.selects RX6 yX6_daysTillAsked yX6_daysTillAsked ∈ TB := tb_mem 14 (by decide +kernel) (by decide +kernel)
theorem wcX1_askedBehind : Cond.code yX1_askedBehind cX1_askedBehind 6 (some .int) ∈ TB := tb_mem 360 (by decide +kernel) (by decide +kernel)
theorem wmX1_askedBehind : Cond.instanceMethod yX1_askedBehind ∈ TB := tb_mem 359 (by decide +kernel) (by decide +kernel)
theorem weX1_askedBehind : Cond.selects RX1 yX1_askedBehind yX1_askedBehind ∈ TB := tb_mem 15 (by decide +kernel) (by decide +kernel)
theorem wcJ6_bitCount_0f7a4 : Cond.code yJ6_bitCount_0f7a4 cJ6_bitCount_0f7a4 1 (some .int) ∈ TB := tb_mem 363 (by decide +kernel) (by decide +kernel)
theorem wtJ6_bitCount_0f7a4 : Cond.static yJ6_bitCount_0f7a4 ∈ TB := tb_mem 362 (by decide +kernel) (by decide +kernel)
theorem wcX6_daysTillMown : Cond.code yX6_daysTillMown cX6_daysTillMown 3 (some .int) ∈ TB := tb_mem 370 (by decide +kernel) (by decide +kernel)
theorem wmX6_daysTillMown : Cond.instanceMethod yX6_daysTillMown ∈ TB := tb_mem 369 (by decide +kernel) (by decide +kernel)
theorem weX6_daysTillMown : Cond.selects RX6 yX6_daysTillMown yX6_daysTillMown ∈ TB := tb_mem 16 (by decide +kernel) (by decide +kernel)
theorem wcX3_copyFrom : Cond.code yX3_copyFrom cX3_copyFrom 3 none ∈ TB := tb_mem 374 (by decide +kernel) (by decide +kernel)
theorem wmX3_copyFrom : Cond.instanceMethod yX3_copyFrom ∈ TB := tb_mem 373 (by decide +kernel) (by decide +kernel)
theorem weX3_copyFrom : Cond.selects RX3 yX3_copyFrom yX3_copyFrom ∈ TB := tb_mem 17 (by decide +kernel) (by decide +kernel)
theorem wcX3_allMown : Cond.code yX3_allMown cX3_allMown 3 (some .boolean) ∈ TB := tb_mem 378 (by decide +kernel) (by decide +kernel)
theorem wmX3_allMown : Cond.instanceMethod yX3_allMown ∈ TB := tb_mem 377 (by decide +kernel) (by decide +kernel)
theorem weX3_allMown : Cond.selects RX3 yX3_allMown yX3_allMown ∈ TB := tb_mem 18 (by decide +kernel) (by decide +kernel)
theorem wcX3_pass : Cond.code yX3_pass cX3_pass 2 (some .int) ∈ TB := tb_mem 382 (by decide +kernel) (by decide +kernel)
theorem wmX3_pass : Cond.instanceMethod yX3_pass ∈ TB := tb_mem 381 (by decide +kernel) (by decide +kernel)
theorem weX3_pass : Cond.selects RX3 yX3_pass yX3_pass ∈ TB := tb_mem 19 (by decide +kernel) (by decide +kernel)
theorem wcX3_mowAll : Cond.code yX3_mowAll cX3_mowAll 4 (some .int) ∈ TB := tb_mem 387 (by decide +kernel) (by decide +kernel)
theorem wmX3_mowAll : Cond.instanceMethod yX3_mowAll ∈ TB := tb_mem 386 (by decide +kernel) (by decide +kernel)
theorem weX3_mowAll : Cond.selects RX3 yX3_mowAll yX3_mowAll ∈ TB := tb_mem 20 (by decide +kernel) (by decide +kernel)
theorem wcX3_mowsForAnother : Cond.code yX3_mowsForAnother cX3_mowsForAnother 3 (some .boolean) ∈ TB := tb_mem 392 (by decide +kernel) (by decide +kernel)
theorem wmX3_mowsForAnother : Cond.instanceMethod yX3_mowsForAnother ∈ TB := tb_mem 391 (by decide +kernel) (by decide +kernel)
theorem weX3_mowsForAnother : Cond.selects RX3 yX3_mowsForAnother yX3_mowsForAnother ∈ TB := tb_mem 21 (by decide +kernel) (by decide +kernel)
theorem wcX6_now : Cond.code yX6_now cX6_now 2 (some .int) ∈ TB := tb_mem 396 (by decide +kernel) (by decide +kernel)
theorem wmX6_now : Cond.instanceMethod yX6_now ∈ TB := tb_mem 394 (by decide +kernel) (by decide +kernel)
theorem weX6_now : Cond.selects RX6 yX6_now yX6_now ∈ TB := tb_mem 395 (by decide +kernel) (by decide +kernel)
theorem wcX3_leftTogether : Cond.code yX3_leftTogether cX3_leftTogether 3 (some .int) ∈ TB := tb_mem 400 (by decide +kernel) (by decide +kernel)
theorem wmX3_leftTogether : Cond.instanceMethod yX3_leftTogether ∈ TB := tb_mem 399 (by decide +kernel) (by decide +kernel)
theorem weX3_leftTogether : Cond.selects RX3 yX3_leftTogether yX3_leftTogether ∈ TB := tb_mem 22 (by decide +kernel) (by decide +kernel)
theorem wcX1_everyone : Cond.code yX1_everyone cX1_everyone 1 (some .int) ∈ TB := tb_mem 404 (by decide +kernel) (by decide +kernel)
theorem wmX1_everyone : Cond.instanceMethod yX1_everyone ∈ TB := tb_mem 403 (by decide +kernel) (by decide +kernel)
theorem weX1_everyone : Cond.selects RX1 yX1_everyone yX1_everyone ∈ TB := tb_mem 23 (by decide +kernel) (by decide +kernel)
theorem wcX6_day : Cond.code yX6_day cX6_day 2 (some .int) ∈ TB := tb_mem 408 (by decide +kernel) (by decide +kernel)
theorem wmX6_day : Cond.instanceMethod yX6_day ∈ TB := tb_mem 406 (by decide +kernel) (by decide +kernel)
theorem weX6_day : Cond.selects RX6 yX6_day yX6_day ∈ TB := tb_mem 407 (by decide +kernel) (by decide +kernel)
theorem wcX2_push : Cond.code yX2_push cX2_push 2 none ∈ TB := tb_mem 412 (by decide +kernel) (by decide +kernel)
theorem wmX2_push : Cond.instanceMethod yX2_push ∈ TB := tb_mem 411 (by decide +kernel) (by decide +kernel)
theorem weX2_push : Cond.selects RX2 yX2_push yX2_push ∈ TB := tb_mem 24 (by decide +kernel) (by decide +kernel)
theorem wcX6_brings : Cond.code yX6_brings cX6_brings 2 (some .int) ∈ TB := tb_mem 418 (by decide +kernel) (by decide +kernel)
theorem wmX6_brings : Cond.instanceMethod yX6_brings ∈ TB := tb_mem 416 (by decide +kernel) (by decide +kernel)
theorem weX6_brings : Cond.selects RX6 yX6_brings yX6_brings ∈ TB := tb_mem 417 (by decide +kernel) (by decide +kernel)
theorem wcX6_hangs : Cond.code yX6_hangs cX6_hangs 4 (some .int) ∈ TB := tb_mem 423 (by decide +kernel) (by decide +kernel)
theorem wmX6_hangs : Cond.instanceMethod yX6_hangs ∈ TB := tb_mem 421 (by decide +kernel) (by decide +kernel)
theorem weX6_hangs : Cond.selects RX6 yX6_hangs yX6_hangs ∈ TB := tb_mem 422 (by decide +kernel) (by decide +kernel)
theorem wcX6_undo : Cond.code yX6_undo cX6_undo 1 (some .int) ∈ TB := tb_mem 427 (by decide +kernel) (by decide +kernel)
theorem wmX6_undo : Cond.instanceMethod yX6_undo ∈ TB := tb_mem 425 (by decide +kernel) (by decide +kernel)
theorem weX6_undo : Cond.selects RX6 yX6_undo yX6_undo ∈ TB := tb_mem 426 (by decide +kernel) (by decide +kernel)
theorem wcX2_pop : Cond.code yX2_pop cX2_pop 2 none ∈ TB := tb_mem 431 (by decide +kernel) (by decide +kernel)
theorem wmX2_pop : Cond.instanceMethod yX2_pop ∈ TB := tb_mem 430 (by decide +kernel) (by decide +kernel)
theorem weX2_pop : Cond.selects RX2 yX2_pop yX2_pop ∈ TB := tb_mem 25 (by decide +kernel) (by decide +kernel)
theorem wcX6_start : Cond.code yX6_start cX6_start 6 (some .int) ∈ TB := tb_mem 435 (by decide +kernel) (by decide +kernel)
theorem wmX6_start : Cond.instanceMethod yX6_start ∈ TB := tb_mem 433 (by decide +kernel) (by decide +kernel)
theorem weX6_start : Cond.selects RX6 yX6_start yX6_start ∈ TB := tb_mem 434 (by decide +kernel) (by decide +kernel)
theorem wcX6_allAskBehind : Cond.code yX6_allAskBehind cX6_allAskBehind 5 (some .boolean) ∈ TB := tb_mem 439 (by decide +kernel) (by decide +kernel)
theorem wmX6_allAskBehind : Cond.instanceMethod yX6_allAskBehind ∈ TB := tb_mem 438 (by decide +kernel) (by decide +kernel)
theorem weX6_allAskBehind : Cond.selects RX6 yX6_allAskBehind yX6_allAskBehind ∈ TB := tb_mem 26 (by decide +kernel) (by decide +kernel)
theorem wcX6_hang : Cond.code yX6_hang cX6_hang 2 (some .int) ∈ TB := tb_mem 443 (by decide +kernel) (by decide +kernel)
theorem wmX6_hang : Cond.instanceMethod yX6_hang ∈ TB := tb_mem 441 (by decide +kernel) (by decide +kernel)
theorem weX6_hang : Cond.selects RX6 yX6_hang yX6_hang ∈ TB := tb_mem 442 (by decide +kernel) (by decide +kernel)
theorem wcX0_search : Cond.code yX0_search cX0_search 1 none ∈ TB := tb_mem 447 (by decide +kernel) (by decide +kernel)
theorem wmX0_search : Cond.instanceMethod yX0_search ∈ TB := tb_mem 446 (by decide +kernel) (by decide +kernel)
theorem weX0_search : Cond.selects RX0 yX0_search yX0_search ∈ TB := tb_mem 27 (by decide +kernel) (by decide +kernel)
theorem wcX0_hangFrom : Cond.code yX0_hangFrom cX0_hangFrom 6 none ∈ TB := tb_mem 450 (by decide +kernel) (by decide +kernel)
theorem wtX0_hangFrom : Cond.static yX0_hangFrom ∈ TB := tb_mem 449 (by decide +kernel) (by decide +kernel)
theorem wcJ9_abs_0f7a4 : Cond.code yJ9_abs_0f7a4 cJ9_abs_0f7a4 1 (some .int) ∈ TB := tb_mem 456 (by decide +kernel) (by decide +kernel)
theorem wtJ9_abs_0f7a4 : Cond.static yJ9_abs_0f7a4 ∈ TB := tb_mem 455 (by decide +kernel) (by decide +kernel)
theorem wcX6_odds : Cond.code yX6_odds cX6_odds 9 (some .int) ∈ TB := tb_mem 460 (by decide +kernel) (by decide +kernel)
theorem wmX6_odds : Cond.instanceMethod yX6_odds ∈ TB := tb_mem 458 (by decide +kernel) (by decide +kernel)
theorem weX6_odds : Cond.selects RX6 yX6_odds yX6_odds ∈ TB := tb_mem 459 (by decide +kernel) (by decide +kernel)
theorem wcX6_weigh : Cond.code yX6_weigh cX6_weigh 5 none ∈ TB := tb_mem 464 (by decide +kernel) (by decide +kernel)
theorem wmX6_weigh : Cond.instanceMethod yX6_weigh ∈ TB := tb_mem 463 (by decide +kernel) (by decide +kernel)
theorem weX6_weigh : Cond.selects RX6 yX6_weigh yX6_weigh ∈ TB := tb_mem 28 (by decide +kernel) (by decide +kernel)
theorem wcX6_commonDivisor : Cond.code yX6_commonDivisor cX6_commonDivisor 6 (some .int) ∈ TB := tb_mem 467 (by decide +kernel) (by decide +kernel)
theorem wtX6_commonDivisor : Cond.static yX6_commonDivisor ∈ TB := tb_mem 466 (by decide +kernel) (by decide +kernel)
theorem wcX6_sees : Cond.code yX6_sees cX6_sees 4 (some .int) ∈ TB := tb_mem 471 (by decide +kernel) (by decide +kernel)
theorem wmX6_sees : Cond.instanceMethod yX6_sees ∈ TB := tb_mem 469 (by decide +kernel) (by decide +kernel)
theorem weX6_sees : Cond.selects RX6 yX6_sees yX6_sees ∈ TB := tb_mem 470 (by decide +kernel) (by decide +kernel)
theorem wcX4_learn : Cond.code yX4_learn cX4_learn 7 none ∈ TB := tb_mem 475 (by decide +kernel) (by decide +kernel)
theorem wmX4_learn : Cond.instanceMethod yX4_learn ∈ TB := tb_mem 474 (by decide +kernel) (by decide +kernel)
theorem weX4_learn : Cond.selects RX4 yX4_learn yX4_learn ∈ TB := tb_mem 29 (by decide +kernel) (by decide +kernel)
theorem wcX6_forget : Cond.code yX6_forget cX6_forget 2 (some .int) ∈ TB := tb_mem 479 (by decide +kernel) (by decide +kernel)
theorem wmX6_forget : Cond.instanceMethod yX6_forget ∈ TB := tb_mem 477 (by decide +kernel) (by decide +kernel)
theorem weX6_forget : Cond.selects RX6 yX6_forget yX6_forget ∈ TB := tb_mem 478 (by decide +kernel) (by decide +kernel)
theorem wcX6_ones : Cond.code yX6_ones cX6_ones 2 (some .int) ∈ TB := tb_mem 483 (by decide +kernel) (by decide +kernel)
theorem wmX6_ones : Cond.instanceMethod yX6_ones ∈ TB := tb_mem 481 (by decide +kernel) (by decide +kernel)
theorem weX6_ones : Cond.selects RX6 yX6_ones yX6_ones ∈ TB := tb_mem 482 (by decide +kernel) (by decide +kernel)
theorem wcX4_number : Cond.code yX4_number cX4_number 5 (some .int) ∈ TB := tb_mem 487 (by decide +kernel) (by decide +kernel)
theorem wmX4_number : Cond.instanceMethod yX4_number ∈ TB := tb_mem 486 (by decide +kernel) (by decide +kernel)
theorem weX4_number : Cond.selects RX4 yX4_number yX4_number ∈ TB := tb_mem 30 (by decide +kernel) (by decide +kernel)
theorem wcX4_numberOfNerve : Cond.code yX4_numberOfNerve cX4_numberOfNerve 6 (some .int) ∈ TB := tb_mem 491 (by decide +kernel) (by decide +kernel)
theorem wmX4_numberOfNerve : Cond.instanceMethod yX4_numberOfNerve ∈ TB := tb_mem 490 (by decide +kernel) (by decide +kernel)
theorem weX4_numberOfNerve : Cond.selects RX4 yX4_numberOfNerve yX4_numberOfNerve ∈ TB := tb_mem 31 (by decide +kernel) (by decide +kernel)
theorem wcX4_leastShame : Cond.code yX4_leastShame cX4_leastShame 2 (some .int) ∈ TB := tb_mem 495 (by decide +kernel) (by decide +kernel)
theorem wmX4_leastShame : Cond.instanceMethod yX4_leastShame ∈ TB := tb_mem 494 (by decide +kernel) (by decide +kernel)
theorem weX4_leastShame : Cond.selects RX4 yX4_leastShame yX4_leastShame ∈ TB := tb_mem 32 (by decide +kernel) (by decide +kernel)
theorem wcX4_greatestShame : Cond.code yX4_greatestShame cX4_greatestShame 2 (some .int) ∈ TB := tb_mem 500 (by decide +kernel) (by decide +kernel)
theorem wmX4_greatestShame : Cond.instanceMethod yX4_greatestShame ∈ TB := tb_mem 499 (by decide +kernel) (by decide +kernel)
theorem weX4_greatestShame : Cond.selects RX4 yX4_greatestShame yX4_greatestShame ∈ TB := tb_mem 33 (by decide +kernel) (by decide +kernel)
theorem wcX6_look : Cond.code yX6_look cX6_look 2 (some .int) ∈ TB := tb_mem 504 (by decide +kernel) (by decide +kernel)
theorem wmX6_look : Cond.instanceMethod yX6_look ∈ TB := tb_mem 502 (by decide +kernel) (by decide +kernel)
theorem weX6_look : Cond.selects RX6 yX6_look yX6_look ∈ TB := tb_mem 503 (by decide +kernel) (by decide +kernel)
theorem wcX4_bestOthers : Cond.code yX4_bestOthers cX4_bestOthers 8 (some .int) ∈ TB := tb_mem 508 (by decide +kernel) (by decide +kernel)
theorem wmX4_bestOthers : Cond.instanceMethod yX4_bestOthers ∈ TB := tb_mem 507 (by decide +kernel) (by decide +kernel)
theorem weX4_bestOthers : Cond.selects RX4 yX4_bestOthers yX4_bestOthers ∈ TB := tb_mem 34 (by decide +kernel) (by decide +kernel)
theorem wcJ9_max_7cf53 : Cond.code yJ9_max_7cf53 cJ9_max_7cf53 2 (some .int) ∈ TB := tb_mem 511 (by decide +kernel) (by decide +kernel)
theorem wtJ9_max_7cf53 : Cond.static yJ9_max_7cf53 ∈ TB := tb_mem 510 (by decide +kernel) (by decide +kernel)
theorem wcX6_rate : Cond.code yX6_rate cX6_rate 3 (some .int) ∈ TB := tb_mem 515 (by decide +kernel) (by decide +kernel)
theorem wmX6_rate : Cond.instanceMethod yX6_rate ∈ TB := tb_mem 513 (by decide +kernel) (by decide +kernel)
theorem weX6_rate : Cond.selects RX6 yX6_rate yX6_rate ∈ TB := tb_mem 514 (by decide +kernel) (by decide +kernel)
theorem wcX6_asFarmer : Cond.code yX6_asFarmer cX6_asFarmer 2 (some .int) ∈ TB := tb_mem 520 (by decide +kernel) (by decide +kernel)
theorem wmX6_asFarmer : Cond.instanceMethod yX6_asFarmer ∈ TB := tb_mem 519 (by decide +kernel) (by decide +kernel)
theorem weX6_asFarmer : Cond.selects RX6 yX6_asFarmer yX6_asFarmer ∈ TB := tb_mem 35 (by decide +kernel) (by decide +kernel)
theorem wcX6_asMower : Cond.code yX6_asMower cX6_asMower 2 (some .int) ∈ TB := tb_mem 524 (by decide +kernel) (by decide +kernel)
theorem wmX6_asMower : Cond.instanceMethod yX6_asMower ∈ TB := tb_mem 523 (by decide +kernel) (by decide +kernel)
theorem weX6_asMower : Cond.selects RX6 yX6_asMower yX6_asMower ∈ TB := tb_mem 36 (by decide +kernel) (by decide +kernel)
theorem wcX6_asLate : Cond.code yX6_asLate cX6_asLate 2 (some .int) ∈ TB := tb_mem 529 (by decide +kernel) (by decide +kernel)
theorem wmX6_asLate : Cond.instanceMethod yX6_asLate ∈ TB := tb_mem 528 (by decide +kernel) (by decide +kernel)
theorem weX6_asLate : Cond.selects RX6 yX6_asLate yX6_asLate ∈ TB := tb_mem 37 (by decide +kernel) (by decide +kernel)
theorem wcX6_asSon : Cond.code yX6_asSon cX6_asSon 2 (some .int) ∈ TB := tb_mem 534 (by decide +kernel) (by decide +kernel)
theorem wmX6_asSon : Cond.instanceMethod yX6_asSon ∈ TB := tb_mem 533 (by decide +kernel) (by decide +kernel)
theorem weX6_asSon : Cond.selects RX6 yX6_asSon yX6_asSon ∈ TB := tb_mem 38 (by decide +kernel) (by decide +kernel)
theorem wcX6_asCousin : Cond.code yX6_asCousin cX6_asCousin 2 (some .int) ∈ TB := tb_mem 539 (by decide +kernel) (by decide +kernel)
theorem wmX6_asCousin : Cond.instanceMethod yX6_asCousin ∈ TB := tb_mem 538 (by decide +kernel) (by decide +kernel)
theorem weX6_asCousin : Cond.selects RX6 yX6_asCousin yX6_asCousin ∈ TB := tb_mem 39 (by decide +kernel) (by decide +kernel)
theorem wcX6_asSnow : Cond.code yX6_asSnow cX6_asSnow 2 (some .int) ∈ TB := tb_mem 544 (by decide +kernel) (by decide +kernel)
theorem wmX6_asSnow : Cond.instanceMethod yX6_asSnow ∈ TB := tb_mem 543 (by decide +kernel) (by decide +kernel)
theorem weX6_asSnow : Cond.selects RX6 yX6_asSnow yX6_asSnow ∈ TB := tb_mem 40 (by decide +kernel) (by decide +kernel)
theorem wcX6_keep : Cond.code yX6_keep cX6_keep 2 (some .int) ∈ TB := tb_mem 549 (by decide +kernel) (by decide +kernel)
theorem wmX6_keep : Cond.instanceMethod yX6_keep ∈ TB := tb_mem 547 (by decide +kernel) (by decide +kernel)
theorem weX6_keep : Cond.selects RX6 yX6_keep yX6_keep ∈ TB := tb_mem 548 (by decide +kernel) (by decide +kernel)
theorem wcX6_back : Cond.code yX6_back cX6_back 2 (some .int) ∈ TB := tb_mem 553 (by decide +kernel) (by decide +kernel)
theorem wmX6_back : Cond.instanceMethod yX6_back ∈ TB := tb_mem 551 (by decide +kernel) (by decide +kernel)
theorem weX6_back : Cond.selects RX6 yX6_back yX6_back ∈ TB := tb_mem 552 (by decide +kernel) (by decide +kernel)
theorem wcX6_count : Cond.code yX6_count cX6_count 2 (some .int) ∈ TB := tb_mem 557 (by decide +kernel) (by decide +kernel)
theorem wmX6_count : Cond.instanceMethod yX6_count ∈ TB := tb_mem 555 (by decide +kernel) (by decide +kernel)
theorem weX6_count : Cond.selects RX6 yX6_count yX6_count ∈ TB := tb_mem 556 (by decide +kernel) (by decide +kernel)
theorem wcX6_trace : Cond.code yX6_trace cX6_trace 1 (some .long) ∈ TB := tb_mem 561 (by decide +kernel) (by decide +kernel)
theorem wmX6_trace : Cond.instanceMethod yX6_trace ∈ TB := tb_mem 559 (by decide +kernel) (by decide +kernel)
theorem weX6_trace : Cond.selects RX6 yX6_trace yX6_trace ∈ TB := tb_mem 560 (by decide +kernel) (by decide +kernel)
theorem wcX7_init : Cond.code yX7_init cX7_init 1 none ∈ TB := tb_mem 566 (by decide +kernel) (by decide +kernel)
theorem wmX7_init : Cond.instanceMethod yX7_init ∈ TB := tb_mem 565 (by decide +kernel) (by decide +kernel)
theorem wcX7_type : Cond.code yX7_type cX7_type 2 (some .int) ∈ TB := tb_mem 647 (by decide +kernel) (by decide +kernel)
theorem wmX7_type : Cond.instanceMethod yX7_type ∈ TB := tb_mem 645 (by decide +kernel) (by decide +kernel)
theorem weX7_type : Cond.selects RX7 yX7_type yX7_type ∈ TB := tb_mem 646 (by decide +kernel) (by decide +kernel)
theorem wcX7_in : Cond.code yX7_in cX7_in 3 (some .boolean) ∈ TB := tb_mem 650 (by decide +kernel) (by decide +kernel)
theorem wtX7_in : Cond.static yX7_in ∈ TB := tb_mem 649 (by decide +kernel) (by decide +kernel)
theorem wcX7_clear : Cond.code yX7_clear cX7_clear 2 (some .int) ∈ TB := tb_mem 654 (by decide +kernel) (by decide +kernel)
theorem wmX7_clear : Cond.instanceMethod yX7_clear ∈ TB := tb_mem 652 (by decide +kernel) (by decide +kernel)
theorem weX7_clear : Cond.selects RX7 yX7_clear yX7_clear ∈ TB := tb_mem 653 (by decide +kernel) (by decide +kernel)
theorem wcX7_valley : Cond.code yX7_valley cX7_valley 2 (some .int) ∈ TB := tb_mem 658 (by decide +kernel) (by decide +kernel)
theorem wmX7_valley : Cond.instanceMethod yX7_valley ∈ TB := tb_mem 656 (by decide +kernel) (by decide +kernel)
theorem weX7_valley : Cond.selects RX7 yX7_valley yX7_valley ∈ TB := tb_mem 657 (by decide +kernel) (by decide +kernel)
theorem wcX7_next : Cond.code yX7_next cX7_next 2 none ∈ TB := tb_mem 662 (by decide +kernel) (by decide +kernel)
theorem wmX7_next : Cond.instanceMethod yX7_next ∈ TB := tb_mem 661 (by decide +kernel) (by decide +kernel)
theorem weX7_next : Cond.selects RX7 yX7_next yX7_next ∈ TB := tb_mem 41 (by decide +kernel) (by decide +kernel)
theorem wcX7_letterAt : Cond.code yX7_letterAt cX7_letterAt 2 (some .int) ∈ TB := tb_mem 666 (by decide +kernel) (by decide +kernel)
theorem wmX7_letterAt : Cond.instanceMethod yX7_letterAt ∈ TB := tb_mem 665 (by decide +kernel) (by decide +kernel)
theorem weX7_letterAt : Cond.selects RX7 yX7_letterAt yX7_letterAt ∈ TB := tb_mem 42 (by decide +kernel) (by decide +kernel)
theorem wcX7_isFigure : Cond.code yX7_isFigure cX7_isFigure 1 (some .boolean) ∈ TB := tb_mem 669 (by decide +kernel) (by decide +kernel)
theorem wtX7_isFigure : Cond.static yX7_isFigure ∈ TB := tb_mem 668 (by decide +kernel) (by decide +kernel)
theorem wcX7_readItem : Cond.code yX7_readItem cX7_readItem 1 none ∈ TB := tb_mem 673 (by decide +kernel) (by decide +kernel)
theorem wmX7_readItem : Cond.instanceMethod yX7_readItem ∈ TB := tb_mem 672 (by decide +kernel) (by decide +kernel)
theorem weX7_readItem : Cond.selects RX7 yX7_readItem yX7_readItem ∈ TB := tb_mem 43 (by decide +kernel) (by decide +kernel)
theorem wcX7_readFarmer : Cond.code yX7_readFarmer cX7_readFarmer 2 none ∈ TB := tb_mem 677 (by decide +kernel) (by decide +kernel)
theorem wmX7_readFarmer : Cond.instanceMethod yX7_readFarmer ∈ TB := tb_mem 676 (by decide +kernel) (by decide +kernel)
theorem weX7_readFarmer : Cond.selects RX7 yX7_readFarmer yX7_readFarmer ∈ TB := tb_mem 44 (by decide +kernel) (by decide +kernel)
theorem wcX7_takesNumber : Cond.code yX7_takesNumber cX7_takesNumber 5 (some .int) ∈ TB := tb_mem 681 (by decide +kernel) (by decide +kernel)
theorem wmX7_takesNumber : Cond.instanceMethod yX7_takesNumber ∈ TB := tb_mem 680 (by decide +kernel) (by decide +kernel)
theorem weX7_takesNumber : Cond.selects RX7 yX7_takesNumber yX7_takesNumber ∈ TB := tb_mem 45 (by decide +kernel) (by decide +kernel)
theorem wcX7_settles : Cond.code yX7_settles cX7_settles 2 none ∈ TB := tb_mem 685 (by decide +kernel) (by decide +kernel)
theorem wmX7_settles : Cond.instanceMethod yX7_settles ∈ TB := tb_mem 684 (by decide +kernel) (by decide +kernel)
theorem weX7_settles : Cond.selects RX7 yX7_settles yX7_settles ∈ TB := tb_mem 46 (by decide +kernel) (by decide +kernel)
theorem wcX7_farmer : Cond.code yX7_farmer cX7_farmer 3 (some .int) ∈ TB := tb_mem 689 (by decide +kernel) (by decide +kernel)
theorem wmX7_farmer : Cond.instanceMethod yX7_farmer ∈ TB := tb_mem 687 (by decide +kernel) (by decide +kernel)
theorem weX7_farmer : Cond.selects RX7 yX7_farmer yX7_farmer ∈ TB := tb_mem 688 (by decide +kernel) (by decide +kernel)
theorem wcX7_isFarmer : Cond.code yX7_isFarmer cX7_isFarmer 2 (some .boolean) ∈ TB := tb_mem 693 (by decide +kernel) (by decide +kernel)
theorem wmX7_isFarmer : Cond.instanceMethod yX7_isFarmer ∈ TB := tb_mem 692 (by decide +kernel) (by decide +kernel)
theorem weX7_isFarmer : Cond.selects RX7 yX7_isFarmer yX7_isFarmer ∈ TB := tb_mem 47 (by decide +kernel) (by decide +kernel)
theorem wcX7_hangWith : Cond.code yX7_hangWith cX7_hangWith 4 (some .int) ∈ TB := tb_mem 697 (by decide +kernel) (by decide +kernel)
theorem wmX7_hangWith : Cond.instanceMethod yX7_hangWith ∈ TB := tb_mem 696 (by decide +kernel) (by decide +kernel)
theorem weX7_hangWith : Cond.selects RX7 yX7_hangWith yX7_hangWith ∈ TB := tb_mem 48 (by decide +kernel) (by decide +kernel)
theorem wcX7_ring : Cond.code yX7_ring cX7_ring 4 (some .int) ∈ TB := tb_mem 701 (by decide +kernel) (by decide +kernel)
theorem wmX7_ring : Cond.instanceMethod yX7_ring ∈ TB := tb_mem 700 (by decide +kernel) (by decide +kernel)
theorem weX7_ring : Cond.selects RX7 yX7_ring yX7_ring ∈ TB := tb_mem 49 (by decide +kernel) (by decide +kernel)
theorem wcX7_daysTillAsked : Cond.code yX7_daysTillAsked cX7_daysTillAsked 3 (some .int) ∈ TB := tb_mem 705 (by decide +kernel) (by decide +kernel)
theorem wmX7_daysTillAsked : Cond.instanceMethod yX7_daysTillAsked ∈ TB := tb_mem 704 (by decide +kernel) (by decide +kernel)
theorem weX7_daysTillAsked : Cond.selects RX7 yX7_daysTillAsked yX7_daysTillAsked ∈ TB := tb_mem 50 (by decide +kernel) (by decide +kernel)
theorem wcX7_asItIs : Cond.code yX7_asItIs cX7_asItIs 1 none ∈ TB := tb_mem 709 (by decide +kernel) (by decide +kernel)
theorem wmX7_asItIs : Cond.instanceMethod yX7_asItIs ∈ TB := tb_mem 708 (by decide +kernel) (by decide +kernel)
theorem weX7_asItIs : Cond.selects RX7 yX7_asItIs yX7_asItIs ∈ TB := tb_mem 51 (by decide +kernel) (by decide +kernel)
theorem wcX7_copy : Cond.code yX7_copy cX7_copy 5 none ∈ TB := tb_mem 712 (by decide +kernel) (by decide +kernel)
theorem wtX7_copy : Cond.static yX7_copy ∈ TB := tb_mem 711 (by decide +kernel) (by decide +kernel)
theorem wcX7_has : Cond.code yX7_has cX7_has 2 (some .boolean) ∈ TB := tb_mem 715 (by decide +kernel) (by decide +kernel)
theorem wtX7_has : Cond.static yX7_has ∈ TB := tb_mem 714 (by decide +kernel) (by decide +kernel)
theorem wcX7_goesBy : Cond.code yX7_goesBy cX7_goesBy 4 (some .int) ∈ TB := tb_mem 719 (by decide +kernel) (by decide +kernel)
theorem wmX7_goesBy : Cond.instanceMethod yX7_goesBy ∈ TB := tb_mem 718 (by decide +kernel) (by decide +kernel)
theorem weX7_goesBy : Cond.selects RX7 yX7_goesBy yX7_goesBy ∈ TB := tb_mem 52 (by decide +kernel) (by decide +kernel)
theorem wcX7_asks : Cond.code yX7_asks cX7_asks 4 none ∈ TB := tb_mem 723 (by decide +kernel) (by decide +kernel)
theorem wmX7_asks : Cond.instanceMethod yX7_asks ∈ TB := tb_mem 722 (by decide +kernel) (by decide +kernel)
theorem weX7_asks : Cond.selects RX7 yX7_asks yX7_asks ∈ TB := tb_mem 53 (by decide +kernel) (by decide +kernel)
theorem wcX7_bits : Cond.code yX7_bits cX7_bits 3 (some .int) ∈ TB := tb_mem 726 (by decide +kernel) (by decide +kernel)
theorem wtX7_bits : Cond.static yX7_bits ∈ TB := tb_mem 725 (by decide +kernel) (by decide +kernel)
theorem wcX7_mowsOwn : Cond.code yX7_mowsOwn cX7_mowsOwn 2 (some .int) ∈ TB := tb_mem 730 (by decide +kernel) (by decide +kernel)
theorem wmX7_mowsOwn : Cond.instanceMethod yX7_mowsOwn ∈ TB := tb_mem 729 (by decide +kernel) (by decide +kernel)
theorem weX7_mowsOwn : Cond.selects RX7 yX7_mowsOwn yX7_mowsOwn ∈ TB := tb_mem 54 (by decide +kernel) (by decide +kernel)
theorem wcX7_mowsOther : Cond.code yX7_mowsOther cX7_mowsOther 3 (some .int) ∈ TB := tb_mem 734 (by decide +kernel) (by decide +kernel)
theorem wmX7_mowsOther : Cond.instanceMethod yX7_mowsOther ∈ TB := tb_mem 733 (by decide +kernel) (by decide +kernel)
theorem weX7_mowsOther : Cond.selects RX7 yX7_mowsOther yX7_mowsOther ∈ TB := tb_mem 55 (by decide +kernel) (by decide +kernel)
theorem wcX7_daysTillDone : Cond.code yX7_daysTillDone cX7_daysTillDone 3 (some .int) ∈ TB := tb_mem 738 (by decide +kernel) (by decide +kernel)
theorem wmX7_daysTillDone : Cond.instanceMethod yX7_daysTillDone ∈ TB := tb_mem 737 (by decide +kernel) (by decide +kernel)
theorem weX7_daysTillDone : Cond.selects RX7 yX7_daysTillDone yX7_daysTillDone ∈ TB := tb_mem 56 (by decide +kernel) (by decide +kernel)
theorem wcX7_leftAll : Cond.code yX7_leftAll cX7_leftAll 3 (some .int) ∈ TB := tb_mem 742 (by decide +kernel) (by decide +kernel)
theorem wmX7_leftAll : Cond.instanceMethod yX7_leftAll ∈ TB := tb_mem 741 (by decide +kernel) (by decide +kernel)
theorem weX7_leftAll : Cond.selects RX7 yX7_leftAll yX7_leftAll ∈ TB := tb_mem 57 (by decide +kernel) (by decide +kernel)
theorem wcX7_now : Cond.code yX7_now cX7_now 2 (some .int) ∈ TB := tb_mem 746 (by decide +kernel) (by decide +kernel)
theorem wmX7_now : Cond.instanceMethod yX7_now ∈ TB := tb_mem 744 (by decide +kernel) (by decide +kernel)
theorem weX7_now : Cond.selects RX7 yX7_now yX7_now ∈ TB := tb_mem 745 (by decide +kernel) (by decide +kernel)
theorem wcX7_day : Cond.code yX7_day cX7_day 3 (some .int) ∈ TB := tb_mem 750 (by decide +kernel) (by decide +kernel)
theorem wmX7_day : Cond.instanceMethod yX7_day ∈ TB := tb_mem 748 (by decide +kernel) (by decide +kernel)
theorem weX7_day : Cond.selects RX7 yX7_day yX7_day ∈ TB := tb_mem 749 (by decide +kernel) (by decide +kernel)
theorem wcX7_remembers : Cond.code yX7_remembers cX7_remembers 2 none ∈ TB := tb_mem 754 (by decide +kernel) (by decide +kernel)
theorem wmX7_remembers : Cond.instanceMethod yX7_remembers ∈ TB := tb_mem 753 (by decide +kernel) (by decide +kernel)
theorem weX7_remembers : Cond.selects RX7 yX7_remembers yX7_remembers ∈ TB := tb_mem 58 (by decide +kernel) (by decide +kernel)
theorem wcX7_brings : Cond.code yX7_brings cX7_brings 2 (some .int) ∈ TB := tb_mem 758 (by decide +kernel) (by decide +kernel)
theorem wmX7_brings : Cond.instanceMethod yX7_brings ∈ TB := tb_mem 756 (by decide +kernel) (by decide +kernel)
theorem weX7_brings : Cond.selects RX7 yX7_brings yX7_brings ∈ TB := tb_mem 757 (by decide +kernel) (by decide +kernel)
theorem wcX7_hangs : Cond.code yX7_hangs cX7_hangs 4 (some .int) ∈ TB := tb_mem 762 (by decide +kernel) (by decide +kernel)
theorem wmX7_hangs : Cond.instanceMethod yX7_hangs ∈ TB := tb_mem 760 (by decide +kernel) (by decide +kernel)
theorem weX7_hangs : Cond.selects RX7 yX7_hangs yX7_hangs ∈ TB := tb_mem 761 (by decide +kernel) (by decide +kernel)
theorem wcX7_undo : Cond.code yX7_undo cX7_undo 1 (some .int) ∈ TB := tb_mem 766 (by decide +kernel) (by decide +kernel)
theorem wmX7_undo : Cond.instanceMethod yX7_undo ∈ TB := tb_mem 764 (by decide +kernel) (by decide +kernel)
theorem weX7_undo : Cond.selects RX7 yX7_undo yX7_undo ∈ TB := tb_mem 765 (by decide +kernel) (by decide +kernel)
theorem wcX7_start : Cond.code yX7_start cX7_start 6 (some .int) ∈ TB := tb_mem 770 (by decide +kernel) (by decide +kernel)
theorem wmX7_start : Cond.instanceMethod yX7_start ∈ TB := tb_mem 768 (by decide +kernel) (by decide +kernel)
theorem weX7_start : Cond.selects RX7 yX7_start yX7_start ∈ TB := tb_mem 769 (by decide +kernel) (by decide +kernel)
theorem wcX7_allAskedBy : Cond.code yX7_allAskedBy cX7_allAskedBy 4 (some .boolean) ∈ TB := tb_mem 774 (by decide +kernel) (by decide +kernel)
theorem wmX7_allAskedBy : Cond.instanceMethod yX7_allAskedBy ∈ TB := tb_mem 773 (by decide +kernel) (by decide +kernel)
theorem weX7_allAskedBy : Cond.selects RX7 yX7_allAskedBy yX7_allAskedBy ∈ TB := tb_mem 59 (by decide +kernel) (by decide +kernel)
theorem wcX7_hang : Cond.code yX7_hang cX7_hang 8 (some .int) ∈ TB := tb_mem 778 (by decide +kernel) (by decide +kernel)
theorem wmX7_hang : Cond.instanceMethod yX7_hang ∈ TB := tb_mem 776 (by decide +kernel) (by decide +kernel)
theorem weX7_hang : Cond.selects RX7 yX7_hang yX7_hang ∈ TB := tb_mem 777 (by decide +kernel) (by decide +kernel)
theorem wcX7_farBy : Cond.code yX7_farBy cX7_farBy 8 (some .int) ∈ TB := tb_mem 782 (by decide +kernel) (by decide +kernel)
theorem wmX7_farBy : Cond.instanceMethod yX7_farBy ∈ TB := tb_mem 781 (by decide +kernel) (by decide +kernel)
theorem weX7_farBy : Cond.selects RX7 yX7_farBy yX7_farBy ∈ TB := tb_mem 60 (by decide +kernel) (by decide +kernel)
theorem wcX7_far : Cond.code yX7_far cX7_far 2 (some .int) ∈ TB := tb_mem 785 (by decide +kernel) (by decide +kernel)
theorem wtX7_far : Cond.static yX7_far ∈ TB := tb_mem 784 (by decide +kernel) (by decide +kernel)
theorem wcX7_odds : Cond.code yX7_odds cX7_odds 10 (some .int) ∈ TB := tb_mem 789 (by decide +kernel) (by decide +kernel)
theorem wmX7_odds : Cond.instanceMethod yX7_odds ∈ TB := tb_mem 787 (by decide +kernel) (by decide +kernel)
theorem weX7_odds : Cond.selects RX7 yX7_odds yX7_odds ∈ TB := tb_mem 788 (by decide +kernel) (by decide +kernel)
theorem wcX7_lowest : Cond.code yX7_lowest cX7_lowest 6 (some .int) ∈ TB := tb_mem 792 (by decide +kernel) (by decide +kernel)
theorem wtX7_lowest : Cond.static yX7_lowest ∈ TB := tb_mem 791 (by decide +kernel) (by decide +kernel)
theorem wcX7_sees : Cond.code yX7_sees cX7_sees 4 (some .int) ∈ TB := tb_mem 796 (by decide +kernel) (by decide +kernel)
theorem wmX7_sees : Cond.instanceMethod yX7_sees ∈ TB := tb_mem 794 (by decide +kernel) (by decide +kernel)
theorem weX7_sees : Cond.selects RX7 yX7_sees yX7_sees ∈ TB := tb_mem 795 (by decide +kernel) (by decide +kernel)
theorem wcX7_forget : Cond.code yX7_forget cX7_forget 2 (some .int) ∈ TB := tb_mem 800 (by decide +kernel) (by decide +kernel)
theorem wmX7_forget : Cond.instanceMethod yX7_forget ∈ TB := tb_mem 798 (by decide +kernel) (by decide +kernel)
theorem weX7_forget : Cond.selects RX7 yX7_forget yX7_forget ∈ TB := tb_mem 799 (by decide +kernel) (by decide +kernel)
theorem wcX7_ones : Cond.code yX7_ones cX7_ones 7 (some .int) ∈ TB := tb_mem 804 (by decide +kernel) (by decide +kernel)
theorem wmX7_ones : Cond.instanceMethod yX7_ones ∈ TB := tb_mem 802 (by decide +kernel) (by decide +kernel)
theorem weX7_ones : Cond.selects RX7 yX7_ones yX7_ones ∈ TB := tb_mem 803 (by decide +kernel) (by decide +kernel)
theorem wcX7_isSo : Cond.code yX7_isSo cX7_isSo 5 (some .boolean) ∈ TB := tb_mem 808 (by decide +kernel) (by decide +kernel)
theorem wmX7_isSo : Cond.instanceMethod yX7_isSo ∈ TB := tb_mem 807 (by decide +kernel) (by decide +kernel)
theorem weX7_isSo : Cond.selects RX7 yX7_isSo yX7_isSo ∈ TB := tb_mem 61 (by decide +kernel) (by decide +kernel)
theorem wcX7_hadAsked : Cond.code yX7_hadAsked cX7_hadAsked 4 (some .boolean) ∈ TB := tb_mem 811 (by decide +kernel) (by decide +kernel)
theorem wtX7_hadAsked : Cond.static yX7_hadAsked ∈ TB := tb_mem 810 (by decide +kernel) (by decide +kernel)
theorem wcX7_look : Cond.code yX7_look cX7_look 9 (some .int) ∈ TB := tb_mem 815 (by decide +kernel) (by decide +kernel)
theorem wmX7_look : Cond.instanceMethod yX7_look ∈ TB := tb_mem 813 (by decide +kernel) (by decide +kernel)
theorem weX7_look : Cond.selects RX7 yX7_look yX7_look ∈ TB := tb_mem 814 (by decide +kernel) (by decide +kernel)
theorem wcX7_rate : Cond.code yX7_rate cX7_rate 6 (some .int) ∈ TB := tb_mem 820 (by decide +kernel) (by decide +kernel)
theorem wmX7_rate : Cond.instanceMethod yX7_rate ∈ TB := tb_mem 818 (by decide +kernel) (by decide +kernel)
theorem weX7_rate : Cond.selects RX7 yX7_rate yX7_rate ∈ TB := tb_mem 819 (by decide +kernel) (by decide +kernel)
theorem wcX7_keep : Cond.code yX7_keep cX7_keep 2 (some .int) ∈ TB := tb_mem 830 (by decide +kernel) (by decide +kernel)
theorem wmX7_keep : Cond.instanceMethod yX7_keep ∈ TB := tb_mem 828 (by decide +kernel) (by decide +kernel)
theorem weX7_keep : Cond.selects RX7 yX7_keep yX7_keep ∈ TB := tb_mem 829 (by decide +kernel) (by decide +kernel)
theorem wcX7_back : Cond.code yX7_back cX7_back 2 (some .int) ∈ TB := tb_mem 834 (by decide +kernel) (by decide +kernel)
theorem wmX7_back : Cond.instanceMethod yX7_back ∈ TB := tb_mem 832 (by decide +kernel) (by decide +kernel)
theorem weX7_back : Cond.selects RX7 yX7_back yX7_back ∈ TB := tb_mem 833 (by decide +kernel) (by decide +kernel)
theorem wcX7_count : Cond.code yX7_count cX7_count 2 (some .int) ∈ TB := tb_mem 838 (by decide +kernel) (by decide +kernel)
theorem wmX7_count : Cond.instanceMethod yX7_count ∈ TB := tb_mem 836 (by decide +kernel) (by decide +kernel)
theorem weX7_count : Cond.selects RX7 yX7_count yX7_count ∈ TB := tb_mem 837 (by decide +kernel) (by decide +kernel)
theorem wcX7_trace : Cond.code yX7_trace cX7_trace 1 (some .long) ∈ TB := tb_mem 842 (by decide +kernel) (by decide +kernel)
theorem wmX7_trace : Cond.instanceMethod yX7_trace ∈ TB := tb_mem 840 (by decide +kernel) (by decide +kernel)
theorem weX7_trace : Cond.selects RX7 yX7_trace yX7_trace ∈ TB := tb_mem 841 (by decide +kernel) (by decide +kernel)
theorem wiL : Cond.initialized RL ∈ TB := tb_mem 62 (by decide +kernel) (by decide +kernel)
theorem wiX6 : Cond.initialized RX6 ∈ TB := tb_mem 63 (by decide +kernel) (by decide +kernel)
theorem wiX5 : Cond.initialized RX5 ∈ TB := tb_mem 64 (by decide +kernel) (by decide +kernel)
theorem wiX1 : Cond.initialized RX1 ∈ TB := tb_mem 65 (by decide +kernel) (by decide +kernel)
theorem wiX3 : Cond.initialized RX3 ∈ TB := tb_mem 66 (by decide +kernel) (by decide +kernel)
theorem wiX2 : Cond.initialized RX2 ∈ TB := tb_mem 67 (by decide +kernel) (by decide +kernel)
theorem wiX0 : Cond.initialized RX0 ∈ TB := tb_mem 68 (by decide +kernel) (by decide +kernel)
theorem wiX4 : Cond.initialized RX4 ∈ TB := tb_mem 69 (by decide +kernel) (by decide +kernel)
theorem wiX7 : Cond.initialized RX7 ∈ TB := tb_mem 70 (by decide +kernel) (by decide +kernel)
theorem wiJ9 : Cond.initialized RJ9 ∈ TB := tb_mem 71 (by decide +kernel) (by decide +kernel)
theorem wiJ6 : Cond.initialized RJ6 ∈ TB := tb_mem 72 (by decide +kernel) (by decide +kernel)
theorem wiJ10 : Cond.initialized RJ10 ∈ TB := tb_mem 73 (by decide +kernel) (by decide +kernel)
theorem wcp1 : Cond.methodLink RX0 35 arraycopyName ∈ TB := tb_mem 451 (by decide +kernel) (by decide +kernel)
theorem wcp2 : Cond.native arraycopyName ∈ TB := tb_mem 453 (by decide +kernel) (by decide +kernel)
theorem wcp3 : Cond.static arraycopyName ∈ TB := tb_mem 452 (by decide +kernel) (by decide +kernel)
section
variable {X : Cx} {cc : ByteArray} {own : String} {nL d pc : Nat} {L S : List Value} {s : St} {o o1 o2 : Option (Int32 × St)}
theorem g_case {x : Int32} (k : Int32) (h1 : G X pc L (.int k :: S) s o1) (h2 : ¬ x = k → G X pc L (.int x :: S) s o2) : G X pc L (.int x :: S) s (if x = k then o1 else o2) := by
  by_cases q : x = k
  · rw [if_pos q, q]; exact h1
  · rw [if_neg q]; exact h2 q
theorem g_tin (K : Ok X cc own nL d) {x : Int32} (tgt : Nat) {dflt lo hi off : Int} {offs : Array Int} {len : Nat} (hd : decode cc pc = .ok (.tableswitch dflt lo hi offs, len)) (h1 : ¬ x.toInt < lo) (h2 : ¬ hi < x.toInt) (ho : offs[(x.toInt - lo).toNat]? = some off) (ht : (pc : Int) + off = (tgt : Int)) (h : G X tgt L S s o) : G X pc L (.int x :: S) s o :=
  fun r s' e H locs ls hP hS hL => lv_tableIn K.1 K.2.1 hd h1 h2 ho ht (h r s' e H locs ls hP hS hL)
theorem g_tout (K : Ok X cc own nL d) {x : Int32} (tgt : Nat) {dflt lo hi : Int} {offs : Array Int} {len : Nat} (hd : decode cc pc = .ok (.tableswitch dflt lo hi offs, len)) (h1 : x.toInt < lo ∨ hi < x.toInt) (ht : (pc : Int) + dflt = (tgt : Int)) (h : G X tgt L S s o) : G X pc L (.int x :: S) s o :=
  fun r s' e H locs ls hP hS hL => lv_tableOut K.1 K.2.1 hd h1 ht (h r s' e H locs ls hP hS hL)
theorem g_alenZ (K : Ok X cc own nL d) {k n : Nat} (v : Int32) (hk : k < 80) (hkd : kd k = 10) (hn : ln k = n) (hv : Int32.ofNat n = v) (hd : decode cc pc = .ok (.arraylength, 1)) (h : G X (pc + 1) L (.int v :: S) s o) : G X pc L (.ref (X.B + k) :: S) s o := by
  intro r s' e H locs ls hP hS hL
  have hat := wl_at X.E s hk
  rw [ce_10 hkd] at hat
  exact va_alen K.1 K.2.1 K.2.2.2.2.2.1 hP k 2 hat rfl (by rw [← hv, ← hn]) hd (h r s' e H locs ls hP hS hL)
def cp {α : Type} (s : St) (a b n : Nat) (c : St → Option α) : Option α := c (va_up s.1 b (va_cpy (s.1 a) (s.1 b) 0 0 n), s.2)
theorem g_acopy (K : Ok X cc RX0 nL d) (hd0 : 1 ≤ d) {a b n : Nat} {v : Int32} (ha : a < 80) (hb : b < 80) (hka : kd a = 8) (hkb : kd b = 8) (hna : ln a = n) (hnb : ln b = n) (hv : v.toNatClampNeg = n) (hv0 : ¬ v < 0) (hrm : (S.map fun v => v.category).sum ≤ 8) (hd : decode cc pc = .ok (.invokestatic 35, 3)) {c : St → Option (Int32 × St)} (h : ∀ s1, G X (pc + 3) L S s1 (c s1)) : G X pc L (.int v :: .int 0 :: .ref (X.B + b) :: .int 0 :: .ref (X.B + a) :: S) s (cp s a b n c) := by
  intro r s' e H locs ls hP hS hL
  have hat := wl_at X.E s ha
  rw [ce_8 hka] at hat
  have hbt := wl_at X.E s hb
  rw [ce_8 hkb] at hbt
  have hset := wl_set X.E s (va_up s.1 b (va_cpy (s.1 a) (s.1 b) 0 0 n), s.2) hb (fun j hj => ⟨by simp [va_up, hj], rfl⟩)
  rw [ce_8 hkb] at hset
  have hf : (va_up s.1 b (va_cpy (s.1 a) (s.1 b) 0 0 n)) b = va_cpy (s.1 a) (s.1 b) 0 0 n := by simp [va_up]
  simp only [hf] at hset
  have h0 : (0 : Int32).toNatClampNeg = 0 := rfl
  refine va_copyi (tys := tys X.E) K.1 K.2.1 hL.1.symm K.2.2.1 (K.2.2.2.1 _ wcp1) (K.2.2.2.1 _ wcp2) (K.2.2.2.1 _ wcp3) (K.2.2.2.1 _ wiJ10) K.2.2.2.2.2.1 hP (wl_D X.E s) hS a b 0 0 (ty := .int) hat hbt rfl rfl rfl (by decide) (by decide) hv0 (by rw [h0, hv, hna]; omega) (by rw [h0, hv, hnb]; omega) (fun i _ => rfl) (by have := K.2.2.2.2.2.2.2.1; omega) ?_ hd (fun H1 locs1 hP1 _ hS1 => h _ r s' e H1 locs1 ls (by rw [h0, hv] at hP1; rw [hset] at hP1; exact hP1) hS1 hL)
  have := K.2.2.2.2.2.2.2.2.1
  have hw : nativeFrameWords "java/lang/System" "arraycopy" 5 ≤ 21 := by decide +kernel
  omega
theorem gg_0_0 (K : Ok X cc own nL d) {k ix : Nat} (hk : k < 80) (hkd : kd k = 0) (hl : lk own ix "ScytheKeepers$Barns" "farms" "LScytheKeepers$Farms;") (hd : decode cc pc = .ok (.getfield ix, 3)) (h : G X (pc + 3) L (.ref (X.B + 9) :: S) s o) : G X pc L (.ref (X.B + k) :: S) s o := by exact g_get K hk (ci := 0) rfl tX0 (ce_0 hkd) 0 (by decide) rfl hl hd h
theorem gg_0_1 (K : Ok X cc own nL d) {k ix : Nat} (hk : k < 80) (hkd : kd k = 0) (hl : lk own ix "ScytheKeepers$Barns" "far" "I") (hd : decode cc pc = .ok (.getfield ix, 3)) (h : G X (pc + 3) L (.int (s.1 k 1) :: S) s o) : G X pc L (.ref (X.B + k) :: S) s o := by exact g_get K hk (ci := 0) rfl tX0 (ce_0 hkd) 1 (by decide) rfl hl hd h
theorem gp_0_1 (K : Ok X cc own nL d) {k ix : Nat} {v : Int32} (hk : k < 80) (hkd : kd k = 0) (hl : lk own ix "ScytheKeepers$Barns" "far" "I") (hd : decode cc pc = .ok (.putfield ix, 3)) {c : St → Option (Int32 × St)} (h : ∀ s1, G X (pc + 3) L S s1 (c s1)) : G X pc L (.int v :: .ref (X.B + k) :: S) s (pu s k 1 v c) :=
  g_putv K hk (ci := 0) rfl tX0 tyX0 tyX0_ok nmX0 (ce_0 hkd) 1 (by decide) rfl (Nat.le_of_ble_eq_true rfl) rfl rfl (s1 := up s k 1 v) (by rw [ce_0 hkd]; simp [up, va_up, upd, f_0]) (fun j hj => ⟨by simp [up, va_up, hj], rfl⟩) hl hd (h _)
theorem gg_0_2 (K : Ok X cc own nL d) {k ix : Nat} (hk : k < 80) (hkd : kd k = 0) (hl : lk own ix "ScytheKeepers$Barns" "keeper" "[I") (hd : decode cc pc = .ok (.getfield ix, 3)) (h : G X (pc + 3) L (.ref (X.B + 62) :: S) s o) : G X pc L (.ref (X.B + k) :: S) s o := by exact g_get K hk (ci := 0) rfl tX0 (ce_0 hkd) 2 (by decide) rfl hl hd h
theorem gg_0_3 (K : Ok X cc own nL d) {k ix : Nat} (hk : k < 80) (hkd : kd k = 0) (hl : lk own ix "ScytheKeepers$Barns" "tried" "[I") (hd : decode cc pc = .ok (.getfield ix, 3)) (h : G X (pc + 3) L (.ref (X.B + 63) :: S) s o) : G X pc L (.ref (X.B + k) :: S) s o := by exact g_get K hk (ci := 0) rfl tX0 (ce_0 hkd) 3 (by decide) rfl hl hd h
theorem gg_1_0 (K : Ok X cc own nL d) {k ix : Nat} (hk : k < 80) (hkd : kd k = 1) (hl : lk own ix "ScytheKeepers$Farms" "size" "I") (hd : decode cc pc = .ok (.getfield ix, 3)) (h : G X (pc + 3) L (.int (s.1 k 0) :: S) s o) : G X pc L (.ref (X.B + k) :: S) s o := by exact g_get K hk (ci := 1) rfl tX1 (ce_1 hkd) 0 (by decide) rfl hl hd h
theorem gp_1_0 (K : Ok X cc own nL d) {k ix : Nat} {v : Int32} (hk : k < 80) (hkd : kd k = 1) (hl : lk own ix "ScytheKeepers$Farms" "size" "I") (hd : decode cc pc = .ok (.putfield ix, 3)) {c : St → Option (Int32 × St)} (h : ∀ s1, G X (pc + 3) L S s1 (c s1)) : G X pc L (.int v :: .ref (X.B + k) :: S) s (pu s k 0 v c) :=
  g_putv K hk (ci := 1) rfl tX1 tyX1 tyX1_ok nmX1 (ce_1 hkd) 0 (by decide) rfl (Nat.le_of_ble_eq_true rfl) rfl rfl (s1 := up s k 0 v) (by rw [ce_1 hkd]; simp [up, va_up, upd, f_1]) (fun j hj => ⟨by simp [up, va_up, hj], rfl⟩) hl hd (h _)
theorem gg_1_1 (K : Ok X cc own nL d) {k ix : Nat} (hk : k < 80) (hkd : kd k = 1) (hl : lk own ix "ScytheKeepers$Farms" "farm" "[I") (hd : decode cc pc = .ok (.getfield ix, 3)) (j : Nat) (hj : k + 1 = j) (h : G X (pc + 3) L (.ref (X.B + j) :: S) s o) : G X pc L (.ref (X.B + k) :: S) s o := by subst hj; exact g_get K hk (ci := 1) rfl tX1 (ce_1 hkd) 1 (by decide) rfl hl hd h
theorem gg_1_2 (K : Ok X cc own nL d) {k ix : Nat} (hk : k < 80) (hkd : kd k = 1) (hl : lk own ix "ScytheKeepers$Farms" "field" "[I") (hd : decode cc pc = .ok (.getfield ix, 3)) (j : Nat) (hj : k + 2 = j) (h : G X (pc + 3) L (.ref (X.B + j) :: S) s o) : G X pc L (.ref (X.B + k) :: S) s o := by subst hj; exact g_get K hk (ci := 1) rfl tX1 (ce_1 hkd) 2 (by decide) rfl hl hd h
theorem gg_1_3 (K : Ok X cc own nL d) {k ix : Nat} (hk : k < 80) (hkd : kd k = 1) (hl : lk own ix "ScytheKeepers$Farms" "shame" "[I") (hd : decode cc pc = .ok (.getfield ix, 3)) (j : Nat) (hj : k + 3 = j) (h : G X (pc + 3) L (.ref (X.B + j) :: S) s o) : G X pc L (.ref (X.B + k) :: S) s o := by subst hj; exact g_get K hk (ci := 1) rfl tX1 (ce_1 hkd) 3 (by decide) rfl hl hd h
theorem gg_1_4 (K : Ok X cc own nL d) {k ix : Nat} (hk : k < 80) (hkd : kd k = 1) (hl : lk own ix "ScytheKeepers$Farms" "nerve" "[I") (hd : decode cc pc = .ok (.getfield ix, 3)) (j : Nat) (hj : k + 4 = j) (h : G X (pc + 3) L (.ref (X.B + j) :: S) s o) : G X pc L (.ref (X.B + k) :: S) s o := by subst hj; exact g_get K hk (ci := 1) rfl tX1 (ce_1 hkd) 4 (by decide) rfl hl hd h
theorem gg_1_5 (K : Ok X cc own nL d) {k ix : Nat} (hk : k < 80) (hkd : kd k = 1) (hl : lk own ix "ScytheKeepers$Farms" "keeper" "[I") (hd : decode cc pc = .ok (.getfield ix, 3)) (j : Nat) (hj : k + 5 = j) (h : G X (pc + 3) L (.ref (X.B + j) :: S) s o) : G X pc L (.ref (X.B + k) :: S) s o := by subst hj; exact g_get K hk (ci := 1) rfl tX1 (ce_1 hkd) 5 (by decide) rfl hl hd h
theorem gg_2_0 (K : Ok X cc own nL d) {k ix : Nat} (hk : k < 80) (hkd : kd k = 2) (hl : lk own ix "ScytheKeepers$History" "scenes" "[LScytheKeepers$Scene;") (hd : decode cc pc = .ok (.getfield ix, 3)) (h : G X (pc + 3) L (.ref (X.B + 22) :: S) s o) : G X pc L (.ref (X.B + k) :: S) s o := by exact g_get K hk (ci := 2) rfl tX2 (ce_2 hkd) 0 (by decide) rfl hl hd h
theorem gg_2_1 (K : Ok X cc own nL d) {k ix : Nat} (hk : k < 80) (hkd : kd k = 2) (hl : lk own ix "ScytheKeepers$History" "next" "I") (hd : decode cc pc = .ok (.getfield ix, 3)) (h : G X (pc + 3) L (.int (s.1 k 1) :: S) s o) : G X pc L (.ref (X.B + k) :: S) s o := by exact g_get K hk (ci := 2) rfl tX2 (ce_2 hkd) 1 (by decide) rfl hl hd h
theorem gp_2_1 (K : Ok X cc own nL d) {k ix : Nat} {v : Int32} (hk : k < 80) (hkd : kd k = 2) (hl : lk own ix "ScytheKeepers$History" "next" "I") (hd : decode cc pc = .ok (.putfield ix, 3)) {c : St → Option (Int32 × St)} (h : ∀ s1, G X (pc + 3) L S s1 (c s1)) : G X pc L (.int v :: .ref (X.B + k) :: S) s (pu s k 1 v c) :=
  g_putv K hk (ci := 2) rfl tX2 tyX2 tyX2_ok nmX2 (ce_2 hkd) 1 (by decide) rfl (Nat.le_of_ble_eq_true rfl) rfl rfl (s1 := up s k 1 v) (by rw [ce_2 hkd]; simp [up, va_up, upd, f_2]) (fun j hj => ⟨by simp [up, va_up, hj], rfl⟩) hl hd (h _)
theorem gg_2_2 (K : Ok X cc own nL d) {k ix : Nat} (hk : k < 80) (hkd : kd k = 2) (hl : lk own ix "ScytheKeepers$History" "size" "I") (hd : decode cc pc = .ok (.getfield ix, 3)) (h : G X (pc + 3) L (.int (s.1 k 2) :: S) s o) : G X pc L (.ref (X.B + k) :: S) s o := by exact g_get K hk (ci := 2) rfl tX2 (ce_2 hkd) 2 (by decide) rfl hl hd h
theorem gp_2_2 (K : Ok X cc own nL d) {k ix : Nat} {v : Int32} (hk : k < 80) (hkd : kd k = 2) (hl : lk own ix "ScytheKeepers$History" "size" "I") (hd : decode cc pc = .ok (.putfield ix, 3)) {c : St → Option (Int32 × St)} (h : ∀ s1, G X (pc + 3) L S s1 (c s1)) : G X pc L (.int v :: .ref (X.B + k) :: S) s (pu s k 2 v c) :=
  g_putv K hk (ci := 2) rfl tX2 tyX2 tyX2_ok nmX2 (ce_2 hkd) 2 (by decide) rfl (Nat.le_of_ble_eq_true rfl) rfl rfl (s1 := up s k 2 v) (by rw [ce_2 hkd]; simp [up, va_up, upd, f_2]) (fun j hj => ⟨by simp [up, va_up, hj], rfl⟩) hl hd (h _)
theorem gg_3_0 (K : Ok X cc own nL d) {k ix : Nat} (hk : k < 80) (hkd : kd k = 3) (hl : lk own ix "ScytheKeepers$Scene" "farms" "LScytheKeepers$Farms;") (hd : decode cc pc = .ok (.getfield ix, 3)) (h : G X (pc + 3) L (.ref (X.B + 9) :: S) s o) : G X pc L (.ref (X.B + k) :: S) s o := by exact g_get K hk (ci := 3) rfl tX3 (ce_3 hkd) 0 (by decide) rfl hl hd h
theorem gg_3_1 (K : Ok X cc own nL d) {k ix : Nat} (hk : k < 80) (hkd : kd k = 3) (hl : lk own ix "ScytheKeepers$Scene" "date" "I") (hd : decode cc pc = .ok (.getfield ix, 3)) (h : G X (pc + 3) L (.int (s.1 k 1) :: S) s o) : G X pc L (.ref (X.B + k) :: S) s o := by exact g_get K hk (ci := 3) rfl tX3 (ce_3 hkd) 1 (by decide) rfl hl hd h
theorem gp_3_1 (K : Ok X cc own nL d) {k ix : Nat} {v : Int32} (hk : k < 80) (hkd : kd k = 3) (hl : lk own ix "ScytheKeepers$Scene" "date" "I") (hd : decode cc pc = .ok (.putfield ix, 3)) {c : St → Option (Int32 × St)} (h : ∀ s1, G X (pc + 3) L S s1 (c s1)) : G X pc L (.int v :: .ref (X.B + k) :: S) s (pu s k 1 v c) :=
  g_putv K hk (ci := 3) rfl tX3 tyX3 tyX3_ok nmX3 (ce_3 hkd) 1 (by decide) rfl (Nat.le_of_ble_eq_true rfl) rfl rfl (s1 := up s k 1 v) (by rw [ce_3 hkd]; simp [up, va_up, upd, f_3]) (fun j hj => ⟨by simp [up, va_up, hj], rfl⟩) hl hd (h _)
theorem gg_3_2 (K : Ok X cc own nL d) {k ix : Nat} (hk : k < 80) (hkd : kd k = 3) (hl : lk own ix "ScytheKeepers$Scene" "asked" "I") (hd : decode cc pc = .ok (.getfield ix, 3)) (h : G X (pc + 3) L (.int (s.1 k 2) :: S) s o) : G X pc L (.ref (X.B + k) :: S) s o := by exact g_get K hk (ci := 3) rfl tX3 (ce_3 hkd) 2 (by decide) rfl hl hd h
theorem gp_3_2 (K : Ok X cc own nL d) {k ix : Nat} {v : Int32} (hk : k < 80) (hkd : kd k = 3) (hl : lk own ix "ScytheKeepers$Scene" "asked" "I") (hd : decode cc pc = .ok (.putfield ix, 3)) {c : St → Option (Int32 × St)} (h : ∀ s1, G X (pc + 3) L S s1 (c s1)) : G X pc L (.int v :: .ref (X.B + k) :: S) s (pu s k 2 v c) :=
  g_putv K hk (ci := 3) rfl tX3 tyX3 tyX3_ok nmX3 (ce_3 hkd) 2 (by decide) rfl (Nat.le_of_ble_eq_true rfl) rfl rfl (s1 := up s k 2 v) (by rw [ce_3 hkd]; simp [up, va_up, upd, f_3]) (fun j hj => ⟨by simp [up, va_up, hj], rfl⟩) hl hd (h _)
theorem gg_3_3 (K : Ok X cc own nL d) {k ix : Nat} (hk : k < 80) (hkd : kd k = 3) (hl : lk own ix "ScytheKeepers$Scene" "left" "[I") (hd : decode cc pc = .ok (.getfield ix, 3)) (j : Nat) (hj : k + 1 = j) (h : G X (pc + 3) L (.ref (X.B + j) :: S) s o) : G X pc L (.ref (X.B + k) :: S) s o := by subst hj; exact g_get K hk (ci := 3) rfl tX3 (ce_3 hkd) 3 (by decide) rfl hl hd h
theorem gg_3_4 (K : Ok X cc own nL d) {k ix : Nat} (hk : k < 80) (hkd : kd k = 3) (hl : lk own ix "ScytheKeepers$Scene" "keeper" "[I") (hd : decode cc pc = .ok (.getfield ix, 3)) (j : Nat) (hj : k + 2 = j) (h : G X (pc + 3) L (.ref (X.B + j) :: S) s o) : G X pc L (.ref (X.B + k) :: S) s o := by subst hj; exact g_get K hk (ci := 3) rfl tX3 (ce_3 hkd) 4 (by decide) rfl hl hd h
theorem gg_4_0 (K : Ok X cc own nL d) {k ix : Nat} (hk : k < 80) (hkd : kd k = 4) (hl : lk own ix "ScytheKeepers$Stranger" "seen" "I") (hd : decode cc pc = .ok (.getfield ix, 3)) (h : G X (pc + 3) L (.int (s.1 k 0) :: S) s o) : G X pc L (.ref (X.B + k) :: S) s o := by exact g_get K hk (ci := 4) rfl tX4 (ce_4 hkd) 0 (by decide) rfl hl hd h
theorem gp_4_0 (K : Ok X cc own nL d) {k ix : Nat} {v : Int32} (hk : k < 80) (hkd : kd k = 4) (hl : lk own ix "ScytheKeepers$Stranger" "seen" "I") (hd : decode cc pc = .ok (.putfield ix, 3)) {c : St → Option (Int32 × St)} (h : ∀ s1, G X (pc + 3) L S s1 (c s1)) : G X pc L (.int v :: .ref (X.B + k) :: S) s (pu s k 0 v c) :=
  g_putv K hk (ci := 4) rfl tX4 tyX4 tyX4_ok nmX4 (ce_4 hkd) 0 (by decide) rfl (Nat.le_of_ble_eq_true rfl) rfl rfl (s1 := up s k 0 v) (by rw [ce_4 hkd]; simp [up, va_up, upd, f_4]) (fun j hj => ⟨by simp [up, va_up, hj], rfl⟩) hl hd (h _)
theorem gg_4_1 (K : Ok X cc own nL d) {k ix : Nat} (hk : k < 80) (hkd : kd k = 4) (hl : lk own ix "ScytheKeepers$Stranger" "ruledOut" "[Z") (hd : decode cc pc = .ok (.getfield ix, 3)) (h : G X (pc + 3) L (.ref (X.B + 65) :: S) s o) : G X pc L (.ref (X.B + k) :: S) s o := by exact g_get K hk (ci := 4) rfl tX4 (ce_4 hkd) 1 (by decide) rfl hl hd h
theorem gg_5_0 (K : Ok X cc own nL d) {k ix : Nat} (hk : k < 80) (hkd : kd k = 5) (hl : lk own ix "ScytheKeepers$Text" "letters" "[C") (hd : decode cc pc = .ok (.getfield ix, 3)) (h : G X (pc + 3) L (.ref (X.B + 2) :: S) s o) : G X pc L (.ref (X.B + k) :: S) s o := by exact g_get K hk (ci := 5) rfl tX5 (ce_5 hkd) 0 (by decide) rfl hl hd h
theorem gg_5_1 (K : Ok X cc own nL d) {k ix : Nat} (hk : k < 80) (hkd : kd k = 5) (hl : lk own ix "ScytheKeepers$Text" "length" "I") (hd : decode cc pc = .ok (.getfield ix, 3)) (h : G X (pc + 3) L (.int (s.1 k 1) :: S) s o) : G X pc L (.ref (X.B + k) :: S) s o := by exact g_get K hk (ci := 5) rfl tX5 (ce_5 hkd) 1 (by decide) rfl hl hd h
theorem gp_5_1 (K : Ok X cc own nL d) {k ix : Nat} {v : Int32} (hk : k < 80) (hkd : kd k = 5) (hl : lk own ix "ScytheKeepers$Text" "length" "I") (hd : decode cc pc = .ok (.putfield ix, 3)) {c : St → Option (Int32 × St)} (h : ∀ s1, G X (pc + 3) L S s1 (c s1)) : G X pc L (.int v :: .ref (X.B + k) :: S) s (pu s k 1 v c) :=
  g_putv K hk (ci := 5) rfl tX5 tyX5 tyX5_ok nmX5 (ce_5 hkd) 1 (by decide) rfl (Nat.le_of_ble_eq_true rfl) rfl rfl (s1 := up s k 1 v) (by rw [ce_5 hkd]; simp [up, va_up, upd, f_5]) (fun j hj => ⟨by simp [up, va_up, hj], rfl⟩) hl hd (h _)
theorem gg_5_2 (K : Ok X cc own nL d) {k ix : Nat} (hk : k < 80) (hkd : kd k = 5) (hl : lk own ix "ScytheKeepers$Text" "next" "I") (hd : decode cc pc = .ok (.getfield ix, 3)) (h : G X (pc + 3) L (.int (s.1 k 2) :: S) s o) : G X pc L (.ref (X.B + k) :: S) s o := by exact g_get K hk (ci := 5) rfl tX5 (ce_5 hkd) 2 (by decide) rfl hl hd h
theorem gp_5_2 (K : Ok X cc own nL d) {k ix : Nat} {v : Int32} (hk : k < 80) (hkd : kd k = 5) (hl : lk own ix "ScytheKeepers$Text" "next" "I") (hd : decode cc pc = .ok (.putfield ix, 3)) {c : St → Option (Int32 × St)} (h : ∀ s1, G X (pc + 3) L S s1 (c s1)) : G X pc L (.int v :: .ref (X.B + k) :: S) s (pu s k 2 v c) :=
  g_putv K hk (ci := 5) rfl tX5 tyX5 tyX5_ok nmX5 (ce_5 hkd) 2 (by decide) rfl (Nat.le_of_ble_eq_true rfl) rfl rfl (s1 := up s k 2 v) (by rw [ce_5 hkd]; simp [up, va_up, upd, f_5]) (fun j hj => ⟨by simp [up, va_up, hj], rfl⟩) hl hd (h _)
theorem gg_5_3 (K : Ok X cc own nL d) {k ix : Nat} (hk : k < 80) (hkd : kd k = 5) (hl : lk own ix "ScytheKeepers$Text" "place" "I") (hd : decode cc pc = .ok (.getfield ix, 3)) (h : G X (pc + 3) L (.int (s.1 k 3) :: S) s o) : G X pc L (.ref (X.B + k) :: S) s o := by exact g_get K hk (ci := 5) rfl tX5 (ce_5 hkd) 3 (by decide) rfl hl hd h
theorem gp_5_3 (K : Ok X cc own nL d) {k ix : Nat} {v : Int32} (hk : k < 80) (hkd : kd k = 5) (hl : lk own ix "ScytheKeepers$Text" "place" "I") (hd : decode cc pc = .ok (.putfield ix, 3)) {c : St → Option (Int32 × St)} (h : ∀ s1, G X (pc + 3) L S s1 (c s1)) : G X pc L (.int v :: .ref (X.B + k) :: S) s (pu s k 3 v c) :=
  g_putv K hk (ci := 5) rfl tX5 tyX5 tyX5_ok nmX5 (ce_5 hkd) 3 (by decide) rfl (Nat.le_of_ble_eq_true rfl) rfl rfl (s1 := up s k 3 v) (by rw [ce_5 hkd]; simp [up, va_up, upd, f_5]) (fun j hj => ⟨by simp [up, va_up, hj], rfl⟩) hl hd (h _)
theorem gg_5_4 (K : Ok X cc own nL d) {k ix : Nat} (hk : k < 80) (hkd : kd k = 5) (hl : lk own ix "ScytheKeepers$Text" "token" "I") (hd : decode cc pc = .ok (.getfield ix, 3)) (h : G X (pc + 3) L (.int (s.1 k 4) :: S) s o) : G X pc L (.ref (X.B + k) :: S) s o := by exact g_get K hk (ci := 5) rfl tX5 (ce_5 hkd) 4 (by decide) rfl hl hd h
theorem gp_5_4 (K : Ok X cc own nL d) {k ix : Nat} {v : Int32} (hk : k < 80) (hkd : kd k = 5) (hl : lk own ix "ScytheKeepers$Text" "token" "I") (hd : decode cc pc = .ok (.putfield ix, 3)) {c : St → Option (Int32 × St)} (h : ∀ s1, G X (pc + 3) L S s1 (c s1)) : G X pc L (.int v :: .ref (X.B + k) :: S) s (pu s k 4 v c) :=
  g_putv K hk (ci := 5) rfl tX5 tyX5 tyX5_ok nmX5 (ce_5 hkd) 4 (by decide) rfl (Nat.le_of_ble_eq_true rfl) rfl rfl (s1 := up s k 4 v) (by rw [ce_5 hkd]; simp [up, va_up, upd, f_5]) (fun j hj => ⟨by simp [up, va_up, hj], rfl⟩) hl hd (h _)
theorem gg_5_5 (K : Ok X cc own nL d) {k ix : Nat} (hk : k < 80) (hkd : kd k = 5) (hl : lk own ix "ScytheKeepers$Text" "number" "I") (hd : decode cc pc = .ok (.getfield ix, 3)) (h : G X (pc + 3) L (.int (s.1 k 5) :: S) s o) : G X pc L (.ref (X.B + k) :: S) s o := by exact g_get K hk (ci := 5) rfl tX5 (ce_5 hkd) 5 (by decide) rfl hl hd h
theorem gp_5_5 (K : Ok X cc own nL d) {k ix : Nat} {v : Int32} (hk : k < 80) (hkd : kd k = 5) (hl : lk own ix "ScytheKeepers$Text" "number" "I") (hd : decode cc pc = .ok (.putfield ix, 3)) {c : St → Option (Int32 × St)} (h : ∀ s1, G X (pc + 3) L S s1 (c s1)) : G X pc L (.int v :: .ref (X.B + k) :: S) s (pu s k 5 v c) :=
  g_putv K hk (ci := 5) rfl tX5 tyX5 tyX5_ok nmX5 (ce_5 hkd) 5 (by decide) rfl (Nat.le_of_ble_eq_true rfl) rfl rfl (s1 := up s k 5 v) (by rw [ce_5 hkd]; simp [up, va_up, upd, f_5]) (fun j hj => ⟨by simp [up, va_up, hj], rfl⟩) hl hd (h _)
theorem gg_6_0 (K : Ok X cc own nL d) {k ix : Nat} (hk : k < 80) (hkd : kd k = 6) (hl : lk own ix "ScytheKeepers" "text" "LScytheKeepers$Text;") (hd : decode cc pc = .ok (.getfield ix, 3)) (h : G X (pc + 3) L (.ref (X.B + 1) :: S) s o) : G X pc L (.ref (X.B + k) :: S) s o := by exact g_get K hk (ci := 6) rfl tX6 (ce_6 hkd) 0 (by decide) rfl hl hd h
theorem gg_6_1 (K : Ok X cc own nL d) {k ix : Nat} (hk : k < 80) (hkd : kd k = 6) (hl : lk own ix "ScytheKeepers" "draft" "LScytheKeepers$Farms;") (hd : decode cc pc = .ok (.getfield ix, 3)) (h : G X (pc + 3) L (.ref (X.B + 3) :: S) s o) : G X pc L (.ref (X.B + k) :: S) s o := by exact g_get K hk (ci := 6) rfl tX6 (ce_6 hkd) 1 (by decide) rfl hl hd h
theorem gg_6_2 (K : Ok X cc own nL d) {k ix : Nat} (hk : k < 80) (hkd : kd k = 6) (hl : lk own ix "ScytheKeepers" "farms" "LScytheKeepers$Farms;") (hd : decode cc pc = .ok (.getfield ix, 3)) (h : G X (pc + 3) L (.ref (X.B + 9) :: S) s o) : G X pc L (.ref (X.B + k) :: S) s o := by exact g_get K hk (ci := 6) rfl tX6 (ce_6 hkd) 2 (by decide) rfl hl hd h
theorem gg_6_3 (K : Ok X cc own nL d) {k ix : Nat} (hk : k < 80) (hkd : kd k = 6) (hl : lk own ix "ScytheKeepers" "scene" "LScytheKeepers$Scene;") (hd : decode cc pc = .ok (.getfield ix, 3)) (h : G X (pc + 3) L (.ref (X.B + 15) :: S) s o) : G X pc L (.ref (X.B + k) :: S) s o := by exact g_get K hk (ci := 6) rfl tX6 (ce_6 hkd) 3 (by decide) rfl hl hd h
theorem gg_6_4 (K : Ok X cc own nL d) {k ix : Nat} (hk : k < 80) (hkd : kd k = 6) (hl : lk own ix "ScytheKeepers" "trial" "LScytheKeepers$Scene;") (hd : decode cc pc = .ok (.getfield ix, 3)) (h : G X (pc + 3) L (.ref (X.B + 18) :: S) s o) : G X pc L (.ref (X.B + k) :: S) s o := by exact g_get K hk (ci := 6) rfl tX6 (ce_6 hkd) 4 (by decide) rfl hl hd h
theorem gg_6_5 (K : Ok X cc own nL d) {k ix : Nat} (hk : k < 80) (hkd : kd k = 6) (hl : lk own ix "ScytheKeepers" "history" "LScytheKeepers$History;") (hd : decode cc pc = .ok (.getfield ix, 3)) (h : G X (pc + 3) L (.ref (X.B + 21) :: S) s o) : G X pc L (.ref (X.B + k) :: S) s o := by exact g_get K hk (ci := 6) rfl tX6 (ce_6 hkd) 5 (by decide) rfl hl hd h
theorem gg_6_6 (K : Ok X cc own nL d) {k ix : Nat} (hk : k < 80) (hkd : kd k = 6) (hl : lk own ix "ScytheKeepers" "images" "[LScytheKeepers$Scene;") (hd : decode cc pc = .ok (.getfield ix, 3)) (h : G X (pc + 3) L (.ref (X.B + 53) :: S) s o) : G X pc L (.ref (X.B + k) :: S) s o := by exact g_get K hk (ci := 6) rfl tX6 (ce_6 hkd) 6 (by decide) rfl hl hd h
theorem gg_6_7 (K : Ok X cc own nL d) {k ix : Nat} (hk : k < 80) (hkd : kd k = 6) (hl : lk own ix "ScytheKeepers" "imageKept" "[Z") (hd : decode cc pc = .ok (.getfield ix, 3)) (h : G X (pc + 3) L (.ref (X.B + 60) :: S) s o) : G X pc L (.ref (X.B + k) :: S) s o := by exact g_get K hk (ci := 6) rfl tX6 (ce_6 hkd) 7 (by decide) rfl hl hd h
theorem gg_6_8 (K : Ok X cc own nL d) {k ix : Nat} (hk : k < 80) (hkd : kd k = 6) (hl : lk own ix "ScytheKeepers" "barns" "LScytheKeepers$Barns;") (hd : decode cc pc = .ok (.getfield ix, 3)) (h : G X (pc + 3) L (.ref (X.B + 61) :: S) s o) : G X pc L (.ref (X.B + k) :: S) s o := by exact g_get K hk (ci := 6) rfl tX6 (ce_6 hkd) 8 (by decide) rfl hl hd h
theorem gg_6_9 (K : Ok X cc own nL d) {k ix : Nat} (hk : k < 80) (hkd : kd k = 6) (hl : lk own ix "ScytheKeepers" "stranger" "LScytheKeepers$Stranger;") (hd : decode cc pc = .ok (.getfield ix, 3)) (h : G X (pc + 3) L (.ref (X.B + 64) :: S) s o) : G X pc L (.ref (X.B + k) :: S) s o := by exact g_get K hk (ci := 6) rfl tX6 (ce_6 hkd) 9 (by decide) rfl hl hd h
theorem gg_6_10 (K : Ok X cc own nL d) {k ix : Nat} (hk : k < 80) (hkd : kd k = 6) (hl : lk own ix "ScytheKeepers" "weights" "[I") (hd : decode cc pc = .ok (.getfield ix, 3)) (h : G X (pc + 3) L (.ref (X.B + 66) :: S) s o) : G X pc L (.ref (X.B + k) :: S) s o := by exact g_get K hk (ci := 6) rfl tX6 (ce_6 hkd) 10 (by decide) rfl hl hd h
theorem gg_6_11 (K : Ok X cc own nL d) {k ix : Nat} (hk : k < 80) (hkd : kd k = 6) (hl : lk own ix "ScytheKeepers" "traced" "J") (hd : decode cc pc = .ok (.getfield ix, 3)) (h : G X (pc + 3) L (.long (s.2 k) :: S) s o) : G X pc L (.ref (X.B + k) :: S) s o := by exact g_get K hk (ci := 6) rfl tX6 (ce_6 hkd) 11 (by decide) rfl hl hd h
theorem gp_6_11 (K : Ok X cc own nL d) {k ix : Nat} {v : Int64} (hk : k < 80) (hkd : kd k = 6) (hl : lk own ix "ScytheKeepers" "traced" "J") (hd : decode cc pc = .ok (.putfield ix, 3)) {c : St → Option (Int32 × St)} (h : ∀ s1, G X (pc + 3) L S s1 (c s1)) : G X pc L (.long v :: .ref (X.B + k) :: S) s (puL s k v c) :=
  g_putv K hk (ci := 6) rfl tX6 tyX6 tyX6_ok nmX6 (ce_6 hkd) 11 (by decide) rfl (Nat.le_of_ble_eq_true rfl) rfl rfl (s1 := upL s k v) (by rw [ce_6 hkd]; simp [upL, va_up, f_6]) (fun j hj => ⟨rfl, by simp [upL, va_up, hj]⟩) hl hd (h _)
theorem gg_7_0 (K : Ok X cc own nL d) {k ix : Nat} (hk : k < 80) (hkd : kd k = 7) (hl : lk own ix "ScytheKeepersModel" "farmers" "I") (hd : decode cc pc = .ok (.getfield ix, 3)) (h : G X (pc + 3) L (.int (s.1 k 0) :: S) s o) : G X pc L (.ref (X.B + k) :: S) s o := by exact g_get K hk (ci := 7) rfl tX7 (ce_7 hkd) 0 (by decide) rfl hl hd h
theorem gp_7_0 (K : Ok X cc own nL d) {k ix : Nat} {v : Int32} (hk : k < 80) (hkd : kd k = 7) (hl : lk own ix "ScytheKeepersModel" "farmers" "I") (hd : decode cc pc = .ok (.putfield ix, 3)) {c : St → Option (Int32 × St)} (h : ∀ s1, G X (pc + 3) L S s1 (c s1)) : G X pc L (.int v :: .ref (X.B + k) :: S) s (pu s k 0 v c) :=
  g_putv K hk (ci := 7) rfl tX7 tyX7 tyX7_ok nmX7 (ce_7 hkd) 0 (by decide) rfl (Nat.le_of_ble_eq_true rfl) rfl rfl (s1 := up s k 0 v) (by rw [ce_7 hkd]; simp [up, va_up, upd, f_7]) (fun j hj => ⟨by simp [up, va_up, hj], rfl⟩) hl hd (h _)
theorem gg_7_1 (K : Ok X cc own nL d) {k ix : Nat} (hk : k < 80) (hkd : kd k = 7) (hl : lk own ix "ScytheKeepersModel" "farms" "[I") (hd : decode cc pc = .ok (.getfield ix, 3)) (h : G X (pc + 3) L (.ref (X.B + 68) :: S) s o) : G X pc L (.ref (X.B + k) :: S) s o := by exact g_get K hk (ci := 7) rfl tX7 (ce_7 hkd) 1 (by decide) rfl hl hd h
theorem gg_7_2 (K : Ok X cc own nL d) {k ix : Nat} (hk : k < 80) (hkd : kd k = 7) (hl : lk own ix "ScytheKeepersModel" "shames" "[I") (hd : decode cc pc = .ok (.getfield ix, 3)) (h : G X (pc + 3) L (.ref (X.B + 69) :: S) s o) : G X pc L (.ref (X.B + k) :: S) s o := by exact g_get K hk (ci := 7) rfl tX7 (ce_7 hkd) 2 (by decide) rfl hl hd h
theorem gg_7_3 (K : Ok X cc own nL d) {k ix : Nat} (hk : k < 80) (hkd : kd k = 7) (hl : lk own ix "ScytheKeepersModel" "nerves" "[I") (hd : decode cc pc = .ok (.getfield ix, 3)) (h : G X (pc + 3) L (.ref (X.B + 70) :: S) s o) : G X pc L (.ref (X.B + k) :: S) s o := by exact g_get K hk (ci := 7) rfl tX7 (ce_7 hkd) 3 (by decide) rfl hl hd h
theorem gg_7_4 (K : Ok X cc own nL d) {k ix : Nat} (hk : k < 80) (hkd : kd k = 7) (hl : lk own ix "ScytheKeepersModel" "st" "[I") (hd : decode cc pc = .ok (.getfield ix, 3)) (h : G X (pc + 3) L (.ref (X.B + 71) :: S) s o) : G X pc L (.ref (X.B + k) :: S) s o := by exact g_get K hk (ci := 7) rfl tX7 (ce_7 hkd) 4 (by decide) rfl hl hd h
theorem gg_7_5 (K : Ok X cc own nL d) {k ix : Nat} (hk : k < 80) (hkd : kd k = 7) (hl : lk own ix "ScytheKeepersModel" "was" "[I") (hd : decode cc pc = .ok (.getfield ix, 3)) (h : G X (pc + 3) L (.ref (X.B + 72) :: S) s o) : G X pc L (.ref (X.B + k) :: S) s o := by exact g_get K hk (ci := 7) rfl tX7 (ce_7 hkd) 5 (by decide) rfl hl hd h
theorem gg_7_6 (K : Ok X cc own nL d) {k ix : Nat} (hk : k < 80) (hkd : kd k = 7) (hl : lk own ix "ScytheKeepersModel" "known" "I") (hd : decode cc pc = .ok (.getfield ix, 3)) (h : G X (pc + 3) L (.int (s.1 k 6) :: S) s o) : G X pc L (.ref (X.B + k) :: S) s o := by exact g_get K hk (ci := 7) rfl tX7 (ce_7 hkd) 6 (by decide) rfl hl hd h
theorem gp_7_6 (K : Ok X cc own nL d) {k ix : Nat} {v : Int32} (hk : k < 80) (hkd : kd k = 7) (hl : lk own ix "ScytheKeepersModel" "known" "I") (hd : decode cc pc = .ok (.putfield ix, 3)) {c : St → Option (Int32 × St)} (h : ∀ s1, G X (pc + 3) L S s1 (c s1)) : G X pc L (.int v :: .ref (X.B + k) :: S) s (pu s k 6 v c) :=
  g_putv K hk (ci := 7) rfl tX7 tyX7 tyX7_ok nmX7 (ce_7 hkd) 6 (by decide) rfl (Nat.le_of_ble_eq_true rfl) rfl rfl (s1 := up s k 6 v) (by rw [ce_7 hkd]; simp [up, va_up, upd, f_7]) (fun j hj => ⟨by simp [up, va_up, hj], rfl⟩) hl hd (h _)
theorem gg_7_7 (K : Ok X cc own nL d) {k ix : Nat} (hk : k < 80) (hkd : kd k = 7) (hl : lk own ix "ScytheKeepersModel" "images" "[I") (hd : decode cc pc = .ok (.getfield ix, 3)) (h : G X (pc + 3) L (.ref (X.B + 73) :: S) s o) : G X pc L (.ref (X.B + k) :: S) s o := by exact g_get K hk (ci := 7) rfl tX7 (ce_7 hkd) 7 (by decide) rfl hl hd h
theorem gg_7_8 (K : Ok X cc own nL d) {k ix : Nat} (hk : k < 80) (hkd : kd k = 7) (hl : lk own ix "ScytheKeepersModel" "isKept" "[Z") (hd : decode cc pc = .ok (.getfield ix, 3)) (h : G X (pc + 3) L (.ref (X.B + 74) :: S) s o) : G X pc L (.ref (X.B + k) :: S) s o := by exact g_get K hk (ci := 7) rfl tX7 (ce_7 hkd) 8 (by decide) rfl hl hd h
theorem gg_7_9 (K : Ok X cc own nL d) {k ix : Nat} (hk : k < 80) (hkd : kd k = 7) (hl : lk own ix "ScytheKeepersModel" "toldMany" "I") (hd : decode cc pc = .ok (.getfield ix, 3)) (h : G X (pc + 3) L (.int (s.1 k 9) :: S) s o) : G X pc L (.ref (X.B + k) :: S) s o := by exact g_get K hk (ci := 7) rfl tX7 (ce_7 hkd) 9 (by decide) rfl hl hd h
theorem gp_7_9 (K : Ok X cc own nL d) {k ix : Nat} {v : Int32} (hk : k < 80) (hkd : kd k = 7) (hl : lk own ix "ScytheKeepersModel" "toldMany" "I") (hd : decode cc pc = .ok (.putfield ix, 3)) {c : St → Option (Int32 × St)} (h : ∀ s1, G X (pc + 3) L S s1 (c s1)) : G X pc L (.int v :: .ref (X.B + k) :: S) s (pu s k 9 v c) :=
  g_putv K hk (ci := 7) rfl tX7 tyX7 tyX7_ok nmX7 (ce_7 hkd) 9 (by decide) rfl (Nat.le_of_ble_eq_true rfl) rfl rfl (s1 := up s k 9 v) (by rw [ce_7 hkd]; simp [up, va_up, upd, f_7]) (fun j hj => ⟨by simp [up, va_up, hj], rfl⟩) hl hd (h _)
theorem gg_7_10 (K : Ok X cc own nL d) {k ix : Nat} (hk : k < 80) (hkd : kd k = 7) (hl : lk own ix "ScytheKeepersModel" "told" "[I") (hd : decode cc pc = .ok (.getfield ix, 3)) (h : G X (pc + 3) L (.ref (X.B + 75) :: S) s o) : G X pc L (.ref (X.B + k) :: S) s o := by exact g_get K hk (ci := 7) rfl tX7 (ce_7 hkd) 10 (by decide) rfl hl hd h
theorem gg_7_11 (K : Ok X cc own nL d) {k ix : Nat} (hk : k < 80) (hkd : kd k = 7) (hl : lk own ix "ScytheKeepersModel" "trace" "J") (hd : decode cc pc = .ok (.getfield ix, 3)) (h : G X (pc + 3) L (.long (s.2 k) :: S) s o) : G X pc L (.ref (X.B + k) :: S) s o := by exact g_get K hk (ci := 7) rfl tX7 (ce_7 hkd) 11 (by decide) rfl hl hd h
theorem gp_7_11 (K : Ok X cc own nL d) {k ix : Nat} {v : Int64} (hk : k < 80) (hkd : kd k = 7) (hl : lk own ix "ScytheKeepersModel" "trace" "J") (hd : decode cc pc = .ok (.putfield ix, 3)) {c : St → Option (Int32 × St)} (h : ∀ s1, G X (pc + 3) L S s1 (c s1)) : G X pc L (.long v :: .ref (X.B + k) :: S) s (puL s k v c) :=
  g_putv K hk (ci := 7) rfl tX7 tyX7 tyX7_ok nmX7 (ce_7 hkd) 11 (by decide) rfl (Nat.le_of_ble_eq_true rfl) rfl rfl (s1 := upL s k v) (by rw [ce_7 hkd]; simp [upL, va_up, f_7]) (fun j hj => ⟨rfl, by simp [upL, va_up, hj]⟩) hl hd (h _)
theorem gg_7_12 (K : Ok X cc own nL d) {k ix : Nat} (hk : k < 80) (hkd : kd k = 7) (hl : lk own ix "ScytheKeepersModel" "text" "[I") (hd : decode cc pc = .ok (.getfield ix, 3)) (h : G X (pc + 3) L (.ref (X.B + 76) :: S) s o) : G X pc L (.ref (X.B + k) :: S) s o := by exact g_get K hk (ci := 7) rfl tX7 (ce_7 hkd) 12 (by decide) rfl hl hd h
theorem gg_7_13 (K : Ok X cc own nL d) {k ix : Nat} (hk : k < 80) (hkd : kd k = 7) (hl : lk own ix "ScytheKeepersModel" "texted" "I") (hd : decode cc pc = .ok (.getfield ix, 3)) (h : G X (pc + 3) L (.int (s.1 k 13) :: S) s o) : G X pc L (.ref (X.B + k) :: S) s o := by exact g_get K hk (ci := 7) rfl tX7 (ce_7 hkd) 13 (by decide) rfl hl hd h
theorem gp_7_13 (K : Ok X cc own nL d) {k ix : Nat} {v : Int32} (hk : k < 80) (hkd : kd k = 7) (hl : lk own ix "ScytheKeepersModel" "texted" "I") (hd : decode cc pc = .ok (.putfield ix, 3)) {c : St → Option (Int32 × St)} (h : ∀ s1, G X (pc + 3) L S s1 (c s1)) : G X pc L (.int v :: .ref (X.B + k) :: S) s (pu s k 13 v c) :=
  g_putv K hk (ci := 7) rfl tX7 tyX7 tyX7_ok nmX7 (ce_7 hkd) 13 (by decide) rfl (Nat.le_of_ble_eq_true rfl) rfl rfl (s1 := up s k 13 v) (by rw [ce_7 hkd]; simp [up, va_up, upd, f_7]) (fun j hj => ⟨by simp [up, va_up, hj], rfl⟩) hl hd (h _)
theorem gg_7_14 (K : Ok X cc own nL d) {k ix : Nat} (hk : k < 80) (hkd : kd k = 7) (hl : lk own ix "ScytheKeepersModel" "cursor" "I") (hd : decode cc pc = .ok (.getfield ix, 3)) (h : G X (pc + 3) L (.int (s.1 k 14) :: S) s o) : G X pc L (.ref (X.B + k) :: S) s o := by exact g_get K hk (ci := 7) rfl tX7 (ce_7 hkd) 14 (by decide) rfl hl hd h
theorem gp_7_14 (K : Ok X cc own nL d) {k ix : Nat} {v : Int32} (hk : k < 80) (hkd : kd k = 7) (hl : lk own ix "ScytheKeepersModel" "cursor" "I") (hd : decode cc pc = .ok (.putfield ix, 3)) {c : St → Option (Int32 × St)} (h : ∀ s1, G X (pc + 3) L S s1 (c s1)) : G X pc L (.int v :: .ref (X.B + k) :: S) s (pu s k 14 v c) :=
  g_putv K hk (ci := 7) rfl tX7 tyX7 tyX7_ok nmX7 (ce_7 hkd) 14 (by decide) rfl (Nat.le_of_ble_eq_true rfl) rfl rfl (s1 := up s k 14 v) (by rw [ce_7 hkd]; simp [up, va_up, upd, f_7]) (fun j hj => ⟨by simp [up, va_up, hj], rfl⟩) hl hd (h _)
theorem gg_7_15 (K : Ok X cc own nL d) {k ix : Nat} (hk : k < 80) (hkd : kd k = 7) (hl : lk own ix "ScytheKeepersModel" "start" "I") (hd : decode cc pc = .ok (.getfield ix, 3)) (h : G X (pc + 3) L (.int (s.1 k 15) :: S) s o) : G X pc L (.ref (X.B + k) :: S) s o := by exact g_get K hk (ci := 7) rfl tX7 (ce_7 hkd) 15 (by decide) rfl hl hd h
theorem gp_7_15 (K : Ok X cc own nL d) {k ix : Nat} {v : Int32} (hk : k < 80) (hkd : kd k = 7) (hl : lk own ix "ScytheKeepersModel" "start" "I") (hd : decode cc pc = .ok (.putfield ix, 3)) {c : St → Option (Int32 × St)} (h : ∀ s1, G X (pc + 3) L S s1 (c s1)) : G X pc L (.int v :: .ref (X.B + k) :: S) s (pu s k 15 v c) :=
  g_putv K hk (ci := 7) rfl tX7 tyX7 tyX7_ok nmX7 (ce_7 hkd) 15 (by decide) rfl (Nat.le_of_ble_eq_true rfl) rfl rfl (s1 := up s k 15 v) (by rw [ce_7 hkd]; simp [up, va_up, upd, f_7]) (fun j hj => ⟨by simp [up, va_up, hj], rfl⟩) hl hd (h _)
theorem gg_7_16 (K : Ok X cc own nL d) {k ix : Nat} (hk : k < 80) (hkd : kd k = 7) (hl : lk own ix "ScytheKeepersModel" "token" "I") (hd : decode cc pc = .ok (.getfield ix, 3)) (h : G X (pc + 3) L (.int (s.1 k 16) :: S) s o) : G X pc L (.ref (X.B + k) :: S) s o := by exact g_get K hk (ci := 7) rfl tX7 (ce_7 hkd) 16 (by decide) rfl hl hd h
theorem gp_7_16 (K : Ok X cc own nL d) {k ix : Nat} {v : Int32} (hk : k < 80) (hkd : kd k = 7) (hl : lk own ix "ScytheKeepersModel" "token" "I") (hd : decode cc pc = .ok (.putfield ix, 3)) {c : St → Option (Int32 × St)} (h : ∀ s1, G X (pc + 3) L S s1 (c s1)) : G X pc L (.int v :: .ref (X.B + k) :: S) s (pu s k 16 v c) :=
  g_putv K hk (ci := 7) rfl tX7 tyX7 tyX7_ok nmX7 (ce_7 hkd) 16 (by decide) rfl (Nat.le_of_ble_eq_true rfl) rfl rfl (s1 := up s k 16 v) (by rw [ce_7 hkd]; simp [up, va_up, upd, f_7]) (fun j hj => ⟨by simp [up, va_up, hj], rfl⟩) hl hd (h _)
theorem gg_7_17 (K : Ok X cc own nL d) {k ix : Nat} (hk : k < 80) (hkd : kd k = 7) (hl : lk own ix "ScytheKeepersModel" "number" "I") (hd : decode cc pc = .ok (.getfield ix, 3)) (h : G X (pc + 3) L (.int (s.1 k 17) :: S) s o) : G X pc L (.ref (X.B + k) :: S) s o := by exact g_get K hk (ci := 7) rfl tX7 (ce_7 hkd) 17 (by decide) rfl hl hd h
theorem gp_7_17 (K : Ok X cc own nL d) {k ix : Nat} {v : Int32} (hk : k < 80) (hkd : kd k = 7) (hl : lk own ix "ScytheKeepersModel" "number" "I") (hd : decode cc pc = .ok (.putfield ix, 3)) {c : St → Option (Int32 × St)} (h : ∀ s1, G X (pc + 3) L S s1 (c s1)) : G X pc L (.int v :: .ref (X.B + k) :: S) s (pu s k 17 v c) :=
  g_putv K hk (ci := 7) rfl tX7 tyX7 tyX7_ok nmX7 (ce_7 hkd) 17 (by decide) rfl (Nat.le_of_ble_eq_true rfl) rfl rfl (s1 := up s k 17 v) (by rw [ce_7 hkd]; simp [up, va_up, upd, f_7]) (fun j hj => ⟨by simp [up, va_up, hj], rfl⟩) hl hd (h _)
theorem gg_7_18 (K : Ok X cc own nL d) {k ix : Nat} (hk : k < 80) (hkd : kd k = 7) (hl : lk own ix "ScytheKeepersModel" "isWrong" "Z") (hd : decode cc pc = .ok (.getfield ix, 3)) (h : G X (pc + 3) L (.int (s.1 k 18) :: S) s o) : G X pc L (.ref (X.B + k) :: S) s o := by exact g_get K hk (ci := 7) rfl tX7 (ce_7 hkd) 18 (by decide) rfl hl hd h
theorem gp_7_18 (K : Ok X cc own nL d) {k ix : Nat} {v : Int32} (hk : k < 80) (hkd : kd k = 7) (hl : lk own ix "ScytheKeepersModel" "isWrong" "Z") (hd : decode cc pc = .ok (.putfield ix, 3)) {c : St → Option (Int32 × St)} (h : ∀ s1, G X (pc + 3) L S s1 (c s1)) : G X pc L (.int v :: .ref (X.B + k) :: S) s (puZ s k 18 v c) := by
  unfold puZ
  refine g_if (fun hv => ?_) (fun _ => g_none)
  exact g_putv K hk (ci := 7) rfl tX7 tyX7 tyX7_ok nmX7 (ce_7 hkd) 18 (by decide) rfl (Nat.le_of_ble_eq_true rfl) (by rcases hv with rfl | rfl <;> rfl) (by rcases hv with rfl | rfl <;> rfl) (s1 := up s k 18 v) (by rw [ce_7 hkd]; simp [up, va_up, upd, f_7]) (fun j hj => ⟨by simp [up, va_up, hj], rfl⟩) hl hd (h _)
theorem gg_7_19 (K : Ok X cc own nL d) {k ix : Nat} (hk : k < 80) (hkd : kd k = 7) (hl : lk own ix "ScytheKeepersModel" "items" "I") (hd : decode cc pc = .ok (.getfield ix, 3)) (h : G X (pc + 3) L (.int (s.1 k 19) :: S) s o) : G X pc L (.ref (X.B + k) :: S) s o := by exact g_get K hk (ci := 7) rfl tX7 (ce_7 hkd) 19 (by decide) rfl hl hd h
theorem gp_7_19 (K : Ok X cc own nL d) {k ix : Nat} {v : Int32} (hk : k < 80) (hkd : kd k = 7) (hl : lk own ix "ScytheKeepersModel" "items" "I") (hd : decode cc pc = .ok (.putfield ix, 3)) {c : St → Option (Int32 × St)} (h : ∀ s1, G X (pc + 3) L S s1 (c s1)) : G X pc L (.int v :: .ref (X.B + k) :: S) s (pu s k 19 v c) :=
  g_putv K hk (ci := 7) rfl tX7 tyX7 tyX7_ok nmX7 (ce_7 hkd) 19 (by decide) rfl (Nat.le_of_ble_eq_true rfl) rfl rfl (s1 := up s k 19 v) (by rw [ce_7 hkd]; simp [up, va_up, upd, f_7]) (fun j hj => ⟨by simp [up, va_up, hj], rfl⟩) hl hd (h _)
theorem gg_7_20 (K : Ok X cc own nL d) {k ix : Nat} (hk : k < 80) (hkd : kd k = 7) (hl : lk own ix "ScytheKeepersModel" "saidFarmers" "I") (hd : decode cc pc = .ok (.getfield ix, 3)) (h : G X (pc + 3) L (.int (s.1 k 20) :: S) s o) : G X pc L (.ref (X.B + k) :: S) s o := by exact g_get K hk (ci := 7) rfl tX7 (ce_7 hkd) 20 (by decide) rfl hl hd h
theorem gp_7_20 (K : Ok X cc own nL d) {k ix : Nat} {v : Int32} (hk : k < 80) (hkd : kd k = 7) (hl : lk own ix "ScytheKeepersModel" "saidFarmers" "I") (hd : decode cc pc = .ok (.putfield ix, 3)) {c : St → Option (Int32 × St)} (h : ∀ s1, G X (pc + 3) L S s1 (c s1)) : G X pc L (.int v :: .ref (X.B + k) :: S) s (pu s k 20 v c) :=
  g_putv K hk (ci := 7) rfl tX7 tyX7 tyX7_ok nmX7 (ce_7 hkd) 20 (by decide) rfl (Nat.le_of_ble_eq_true rfl) rfl rfl (s1 := up s k 20 v) (by rw [ce_7 hkd]; simp [up, va_up, upd, f_7]) (fun j hj => ⟨by simp [up, va_up, hj], rfl⟩) hl hd (h _)
theorem gg_7_21 (K : Ok X cc own nL d) {k ix : Nat} (hk : k < 80) (hkd : kd k = 7) (hl : lk own ix "ScytheKeepersModel" "said" "[I") (hd : decode cc pc = .ok (.getfield ix, 3)) (h : G X (pc + 3) L (.ref (X.B + 77) :: S) s o) : G X pc L (.ref (X.B + k) :: S) s o := by exact g_get K hk (ci := 7) rfl tX7 (ce_7 hkd) 21 (by decide) rfl hl hd h
theorem gg_7_22 (K : Ok X cc own nL d) {k ix : Nat} (hk : k < 80) (hkd : kd k = 7) (hl : lk own ix "ScytheKeepersModel" "now" "[I") (hd : decode cc pc = .ok (.getfield ix, 3)) (h : G X (pc + 3) L (.ref (X.B + 78) :: S) s o) : G X pc L (.ref (X.B + k) :: S) s o := by exact g_get K hk (ci := 7) rfl tX7 (ce_7 hkd) 22 (by decide) rfl hl hd h
theorem gg_7_23 (K : Ok X cc own nL d) {k ix : Nat} (hk : k < 80) (hkd : kd k = 7) (hl : lk own ix "ScytheKeepersModel" "bare" "I") (hd : decode cc pc = .ok (.getfield ix, 3)) (h : G X (pc + 3) L (.int (s.1 k 23) :: S) s o) : G X pc L (.ref (X.B + k) :: S) s o := by exact g_get K hk (ci := 7) rfl tX7 (ce_7 hkd) 23 (by decide) rfl hl hd h
theorem gp_7_23 (K : Ok X cc own nL d) {k ix : Nat} {v : Int32} (hk : k < 80) (hkd : kd k = 7) (hl : lk own ix "ScytheKeepersModel" "bare" "I") (hd : decode cc pc = .ok (.putfield ix, 3)) {c : St → Option (Int32 × St)} (h : ∀ s1, G X (pc + 3) L S s1 (c s1)) : G X pc L (.int v :: .ref (X.B + k) :: S) s (pu s k 23 v c) :=
  g_putv K hk (ci := 7) rfl tX7 tyX7 tyX7_ok nmX7 (ce_7 hkd) 23 (by decide) rfl (Nat.le_of_ble_eq_true rfl) rfl rfl (s1 := up s k 23 v) (by rw [ce_7 hkd]; simp [up, va_up, upd, f_7]) (fun j hj => ⟨by simp [up, va_up, hj], rfl⟩) hl hd (h _)
theorem gg_7_24 (K : Ok X cc own nL d) {k ix : Nat} (hk : k < 80) (hkd : kd k = 7) (hl : lk own ix "ScytheKeepersModel" "tried" "[I") (hd : decode cc pc = .ok (.getfield ix, 3)) (h : G X (pc + 3) L (.ref (X.B + 79) :: S) s o) : G X pc L (.ref (X.B + k) :: S) s o := by exact g_get K hk (ci := 7) rfl tX7 (ce_7 hkd) 24 (by decide) rfl hl hd h
end
