-- ===== PART A: goes FIRST, ahead of the names: the tables' words, and 'selects' of the private methods out of them =====
/-- a private method of a class that the tables say can be made, by its rows of tables_1 -/
def lw_okq (q : MethodName × Nat) : Prop := (q.1.cls ≠ "java/lang/invoke/MethodHandle" ∧ q.1.cls ≠ "java/lang/invoke/VarHandle") ∧ Cond.instantiable q.1.cls q.2 ∈ tables_1 ∧ Cond.privateMethod q.1 ∈ tables_1 ∧ Cond.instanceMethod q.1 ∈ tables_1
theorem lw_p0 : lw_okq (⟨"ScytheKeepers$Text", "add", "(I)Z"⟩, 6) := ⟨⟨by decide +kernel, by decide +kernel⟩, List.mem_of_getElem? (i := 21) (by decide +kernel), List.mem_of_getElem? (i := 216) (by decide +kernel), List.mem_of_getElem? (i := 217) (by decide +kernel)⟩
theorem lw_p1 : lw_okq (⟨"ScytheKeepers$Text", "tells", "(LScytheKeepers$Farms;)Z"⟩, 6) := ⟨⟨by decide +kernel, by decide +kernel⟩, List.mem_of_getElem? (i := 21) (by decide +kernel), List.mem_of_getElem? (i := 228) (by decide +kernel), List.mem_of_getElem? (i := 229) (by decide +kernel)⟩
theorem lw_p2 : lw_okq (⟨"ScytheKeepers$Text", "step", "()V"⟩, 6) := ⟨⟨by decide +kernel, by decide +kernel⟩, List.mem_of_getElem? (i := 21) (by decide +kernel), List.mem_of_getElem? (i := 232) (by decide +kernel), List.mem_of_getElem? (i := 233) (by decide +kernel)⟩
theorem lw_p3 : lw_okq (⟨"ScytheKeepers$Text", "stepOverNumber", "()V"⟩, 6) := ⟨⟨by decide +kernel, by decide +kernel⟩, List.mem_of_getElem? (i := 21) (by decide +kernel), List.mem_of_getElem? (i := 239) (by decide +kernel), List.mem_of_getElem? (i := 240) (by decide +kernel)⟩
theorem lw_p4 : lw_okq (⟨"ScytheKeepers$Text", "tellsOne", "(LScytheKeepers$Farms;I)Z"⟩, 6) := ⟨⟨by decide +kernel, by decide +kernel⟩, List.mem_of_getElem? (i := 21) (by decide +kernel), List.mem_of_getElem? (i := 246) (by decide +kernel), List.mem_of_getElem? (i := 247) (by decide +kernel)⟩
theorem lw_p5 : lw_okq (⟨"ScytheKeepers$Text", "tellsNumber", "([IIII)Z"⟩, 6) := ⟨⟨by decide +kernel, by decide +kernel⟩, List.mem_of_getElem? (i := 21) (by decide +kernel), List.mem_of_getElem? (i := 250) (by decide +kernel), List.mem_of_getElem? (i := 251) (by decide +kernel)⟩
theorem lw_p6 : lw_okq (⟨"ScytheKeepers$Farms", "keepersAreThere", "()Z"⟩, 6) := ⟨⟨by decide +kernel, by decide +kernel⟩, List.mem_of_getElem? (i := 49) (by decide +kernel), List.mem_of_getElem? (i := 254) (by decide +kernel), List.mem_of_getElem? (i := 255) (by decide +kernel)⟩
theorem lw_p7 : lw_okq (⟨"ScytheKeepers$Farms", "has", "(I)Z"⟩, 6) := ⟨⟨by decide +kernel, by decide +kernel⟩, List.mem_of_getElem? (i := 49) (by decide +kernel), List.mem_of_getElem? (i := 258) (by decide +kernel), List.mem_of_getElem? (i := 259) (by decide +kernel)⟩
theorem lw_p8 : lw_okq (⟨"ScytheKeepers$Farms", "copyFrom", "(LScytheKeepers$Farms;)V"⟩, 6) := ⟨⟨by decide +kernel, by decide +kernel⟩, List.mem_of_getElem? (i := 49) (by decide +kernel), List.mem_of_getElem? (i := 262) (by decide +kernel), List.mem_of_getElem? (i := 263) (by decide +kernel)⟩
theorem lw_p9 : lw_okq (⟨"ScytheKeepers$Scene", "begin", "()V"⟩, 5) := ⟨⟨by decide +kernel, by decide +kernel⟩, List.mem_of_getElem? (i := 90) (by decide +kernel), List.mem_of_getElem? (i := 266) (by decide +kernel), List.mem_of_getElem? (i := 267) (by decide +kernel)⟩
theorem lw_p10 : lw_okq (⟨"ScytheKeepers$Stranger", "begin", "()V"⟩, 2) := ⟨⟨by decide +kernel, by decide +kernel⟩, List.mem_of_getElem? (i := 158) (by decide +kernel), List.mem_of_getElem? (i := 270) (by decide +kernel), List.mem_of_getElem? (i := 271) (by decide +kernel)⟩
theorem lw_p11 : lw_okq (⟨"ScytheKeepers$Scene", "hasAsked", "(I)Z"⟩, 5) := ⟨⟨by decide +kernel, by decide +kernel⟩, List.mem_of_getElem? (i := 90) (by decide +kernel), List.mem_of_getElem? (i := 279) (by decide +kernel), List.mem_of_getElem? (i := 280) (by decide +kernel)⟩
theorem lw_p12 : lw_okq (⟨"ScytheKeepers$Scene", "hungWith", "(I)I"⟩, 5) := ⟨⟨by decide +kernel, by decide +kernel⟩, List.mem_of_getElem? (i := 90) (by decide +kernel), List.mem_of_getElem? (i := 283) (by decide +kernel), List.mem_of_getElem? (i := 284) (by decide +kernel)⟩
theorem lw_p13 : lw_okq (⟨"ScytheKeepers$Scene", "ringOf", "(I)I"⟩, 5) := ⟨⟨by decide +kernel, by decide +kernel⟩, List.mem_of_getElem? (i := 90) (by decide +kernel), List.mem_of_getElem? (i := 287) (by decide +kernel), List.mem_of_getElem? (i := 288) (by decide +kernel)⟩
theorem lw_p14 : lw_okq (⟨"ScytheKeepers", "daysTillAsked", "(I)I"⟩, 12) := ⟨⟨by decide +kernel, by decide +kernel⟩, List.mem_of_getElem? (i := 13) (by decide +kernel), List.mem_of_getElem? (i := 292) (by decide +kernel), List.mem_of_getElem? (i := 293) (by decide +kernel)⟩
theorem lw_p15 : lw_okq (⟨"ScytheKeepers$Farms", "askedBehind", "(II)I"⟩, 6) := ⟨⟨by decide +kernel, by decide +kernel⟩, List.mem_of_getElem? (i := 49) (by decide +kernel), List.mem_of_getElem? (i := 296) (by decide +kernel), List.mem_of_getElem? (i := 297) (by decide +kernel)⟩
def lw_privs_1 : List (MethodName × Nat) := [(⟨"ScytheKeepers$Text", "add", "(I)Z"⟩, 6), (⟨"ScytheKeepers$Text", "tells", "(LScytheKeepers$Farms;)Z"⟩, 6), (⟨"ScytheKeepers$Text", "step", "()V"⟩, 6), (⟨"ScytheKeepers$Text", "stepOverNumber", "()V"⟩, 6), (⟨"ScytheKeepers$Text", "tellsOne", "(LScytheKeepers$Farms;I)Z"⟩, 6), (⟨"ScytheKeepers$Text", "tellsNumber", "([IIII)Z"⟩, 6), (⟨"ScytheKeepers$Farms", "keepersAreThere", "()Z"⟩, 6), (⟨"ScytheKeepers$Farms", "has", "(I)Z"⟩, 6), (⟨"ScytheKeepers$Farms", "copyFrom", "(LScytheKeepers$Farms;)V"⟩, 6), (⟨"ScytheKeepers$Scene", "begin", "()V"⟩, 5), (⟨"ScytheKeepers$Stranger", "begin", "()V"⟩, 2), (⟨"ScytheKeepers$Scene", "hasAsked", "(I)Z"⟩, 5), (⟨"ScytheKeepers$Scene", "hungWith", "(I)I"⟩, 5), (⟨"ScytheKeepers$Scene", "ringOf", "(I)I"⟩, 5), (⟨"ScytheKeepers", "daysTillAsked", "(I)I"⟩, 12), (⟨"ScytheKeepers$Farms", "askedBehind", "(II)I"⟩, 6)]
theorem lw_r1 : ∀ q ∈ lw_privs_1, lw_okq q := List.forall_mem_cons.mpr ⟨lw_p0, List.forall_mem_cons.mpr ⟨lw_p1, List.forall_mem_cons.mpr ⟨lw_p2, List.forall_mem_cons.mpr ⟨lw_p3, List.forall_mem_cons.mpr ⟨lw_p4, List.forall_mem_cons.mpr ⟨lw_p5, List.forall_mem_cons.mpr ⟨lw_p6, List.forall_mem_cons.mpr ⟨lw_p7, List.forall_mem_cons.mpr ⟨lw_p8, List.forall_mem_cons.mpr ⟨lw_p9, List.forall_mem_cons.mpr ⟨lw_p10, List.forall_mem_cons.mpr ⟨lw_p11, List.forall_mem_cons.mpr ⟨lw_p12, List.forall_mem_cons.mpr ⟨lw_p13, List.forall_mem_cons.mpr ⟨lw_p14, List.forall_mem_cons.mpr ⟨lw_p15, fun _ h => absurd h List.not_mem_nil⟩⟩⟩⟩⟩⟩⟩⟩⟩⟩⟩⟩⟩⟩⟩⟩
theorem lw_p16 : lw_okq (⟨"ScytheKeepers", "daysTillMown", "(I)I"⟩, 12) := ⟨⟨by decide +kernel, by decide +kernel⟩, List.mem_of_getElem? (i := 13) (by decide +kernel), List.mem_of_getElem? (i := 306) (by decide +kernel), List.mem_of_getElem? (i := 307) (by decide +kernel)⟩
theorem lw_p17 : lw_okq (⟨"ScytheKeepers$Scene", "copyFrom", "(LScytheKeepers$Scene;)V"⟩, 5) := ⟨⟨by decide +kernel, by decide +kernel⟩, List.mem_of_getElem? (i := 90) (by decide +kernel), List.mem_of_getElem? (i := 310) (by decide +kernel), List.mem_of_getElem? (i := 311) (by decide +kernel)⟩
theorem lw_p18 : lw_okq (⟨"ScytheKeepers$Scene", "allMown", "(I)Z"⟩, 5) := ⟨⟨by decide +kernel, by decide +kernel⟩, List.mem_of_getElem? (i := 90) (by decide +kernel), List.mem_of_getElem? (i := 314) (by decide +kernel), List.mem_of_getElem? (i := 315) (by decide +kernel)⟩
theorem lw_p19 : lw_okq (⟨"ScytheKeepers$Scene", "pass", "(Z)I"⟩, 5) := ⟨⟨by decide +kernel, by decide +kernel⟩, List.mem_of_getElem? (i := 90) (by decide +kernel), List.mem_of_getElem? (i := 318) (by decide +kernel), List.mem_of_getElem? (i := 319) (by decide +kernel)⟩
theorem lw_p20 : lw_okq (⟨"ScytheKeepers$Scene", "mowAll", "()I"⟩, 5) := ⟨⟨by decide +kernel, by decide +kernel⟩, List.mem_of_getElem? (i := 90) (by decide +kernel), List.mem_of_getElem? (i := 323) (by decide +kernel), List.mem_of_getElem? (i := 324) (by decide +kernel)⟩
theorem lw_p21 : lw_okq (⟨"ScytheKeepers$Scene", "mowsForAnother", "(I)Z"⟩, 5) := ⟨⟨by decide +kernel, by decide +kernel⟩, List.mem_of_getElem? (i := 90) (by decide +kernel), List.mem_of_getElem? (i := 328) (by decide +kernel), List.mem_of_getElem? (i := 329) (by decide +kernel)⟩
theorem lw_p22 : lw_okq (⟨"ScytheKeepers$Scene", "leftTogether", "()I"⟩, 5) := ⟨⟨by decide +kernel, by decide +kernel⟩, List.mem_of_getElem? (i := 90) (by decide +kernel), List.mem_of_getElem? (i := 336) (by decide +kernel), List.mem_of_getElem? (i := 337) (by decide +kernel)⟩
theorem lw_p23 : lw_okq (⟨"ScytheKeepers$Farms", "everyone", "()I"⟩, 6) := ⟨⟨by decide +kernel, by decide +kernel⟩, List.mem_of_getElem? (i := 49) (by decide +kernel), List.mem_of_getElem? (i := 340) (by decide +kernel), List.mem_of_getElem? (i := 341) (by decide +kernel)⟩
theorem lw_p24 : lw_okq (⟨"ScytheKeepers$History", "push", "(LScytheKeepers$Scene;)V"⟩, 3) := ⟨⟨by decide +kernel, by decide +kernel⟩, List.mem_of_getElem? (i := 116) (by decide +kernel), List.mem_of_getElem? (i := 348) (by decide +kernel), List.mem_of_getElem? (i := 349) (by decide +kernel)⟩
theorem lw_p25 : lw_okq (⟨"ScytheKeepers$History", "pop", "(LScytheKeepers$Scene;)V"⟩, 3) := ⟨⟨by decide +kernel, by decide +kernel⟩, List.mem_of_getElem? (i := 116) (by decide +kernel), List.mem_of_getElem? (i := 367) (by decide +kernel), List.mem_of_getElem? (i := 368) (by decide +kernel)⟩
theorem lw_p26 : lw_okq (⟨"ScytheKeepers", "allAskBehind", "(II)Z"⟩, 12) := ⟨⟨by decide +kernel, by decide +kernel⟩, List.mem_of_getElem? (i := 13) (by decide +kernel), List.mem_of_getElem? (i := 375) (by decide +kernel), List.mem_of_getElem? (i := 376) (by decide +kernel)⟩
theorem lw_p27 : lw_okq (⟨"ScytheKeepers$Barns", "search", "()V"⟩, 4) := ⟨⟨by decide +kernel, by decide +kernel⟩, List.mem_of_getElem? (i := 136) (by decide +kernel), List.mem_of_getElem? (i := 383) (by decide +kernel), List.mem_of_getElem? (i := 384) (by decide +kernel)⟩
theorem lw_p28 : lw_okq (⟨"ScytheKeepers", "weigh", "(II)V"⟩, 12) := ⟨⟨by decide +kernel, by decide +kernel⟩, List.mem_of_getElem? (i := 13) (by decide +kernel), List.mem_of_getElem? (i := 400) (by decide +kernel), List.mem_of_getElem? (i := 401) (by decide +kernel)⟩
theorem lw_p29 : lw_okq (⟨"ScytheKeepers$Stranger", "learn", "(IIZ)V"⟩, 2) := ⟨⟨by decide +kernel, by decide +kernel⟩, List.mem_of_getElem? (i := 158) (by decide +kernel), List.mem_of_getElem? (i := 411) (by decide +kernel), List.mem_of_getElem? (i := 412) (by decide +kernel)⟩
theorem lw_p30 : lw_okq (⟨"ScytheKeepers$Stranger", "number", "(II)I"⟩, 2) := ⟨⟨by decide +kernel, by decide +kernel⟩, List.mem_of_getElem? (i := 158) (by decide +kernel), List.mem_of_getElem? (i := 423) (by decide +kernel), List.mem_of_getElem? (i := 424) (by decide +kernel)⟩
theorem lw_p31 : lw_okq (⟨"ScytheKeepers$Stranger", "numberOfNerve", "(III)I"⟩, 2) := ⟨⟨by decide +kernel, by decide +kernel⟩, List.mem_of_getElem? (i := 158) (by decide +kernel), List.mem_of_getElem? (i := 427) (by decide +kernel), List.mem_of_getElem? (i := 428) (by decide +kernel)⟩
def lw_privs_2 : List (MethodName × Nat) := [(⟨"ScytheKeepers", "daysTillMown", "(I)I"⟩, 12), (⟨"ScytheKeepers$Scene", "copyFrom", "(LScytheKeepers$Scene;)V"⟩, 5), (⟨"ScytheKeepers$Scene", "allMown", "(I)Z"⟩, 5), (⟨"ScytheKeepers$Scene", "pass", "(Z)I"⟩, 5), (⟨"ScytheKeepers$Scene", "mowAll", "()I"⟩, 5), (⟨"ScytheKeepers$Scene", "mowsForAnother", "(I)Z"⟩, 5), (⟨"ScytheKeepers$Scene", "leftTogether", "()I"⟩, 5), (⟨"ScytheKeepers$Farms", "everyone", "()I"⟩, 6), (⟨"ScytheKeepers$History", "push", "(LScytheKeepers$Scene;)V"⟩, 3), (⟨"ScytheKeepers$History", "pop", "(LScytheKeepers$Scene;)V"⟩, 3), (⟨"ScytheKeepers", "allAskBehind", "(II)Z"⟩, 12), (⟨"ScytheKeepers$Barns", "search", "()V"⟩, 4), (⟨"ScytheKeepers", "weigh", "(II)V"⟩, 12), (⟨"ScytheKeepers$Stranger", "learn", "(IIZ)V"⟩, 2), (⟨"ScytheKeepers$Stranger", "number", "(II)I"⟩, 2), (⟨"ScytheKeepers$Stranger", "numberOfNerve", "(III)I"⟩, 2)]
theorem lw_r2 : ∀ q ∈ lw_privs_2, lw_okq q := List.forall_mem_cons.mpr ⟨lw_p16, List.forall_mem_cons.mpr ⟨lw_p17, List.forall_mem_cons.mpr ⟨lw_p18, List.forall_mem_cons.mpr ⟨lw_p19, List.forall_mem_cons.mpr ⟨lw_p20, List.forall_mem_cons.mpr ⟨lw_p21, List.forall_mem_cons.mpr ⟨lw_p22, List.forall_mem_cons.mpr ⟨lw_p23, List.forall_mem_cons.mpr ⟨lw_p24, List.forall_mem_cons.mpr ⟨lw_p25, List.forall_mem_cons.mpr ⟨lw_p26, List.forall_mem_cons.mpr ⟨lw_p27, List.forall_mem_cons.mpr ⟨lw_p28, List.forall_mem_cons.mpr ⟨lw_p29, List.forall_mem_cons.mpr ⟨lw_p30, List.forall_mem_cons.mpr ⟨lw_p31, fun _ h => absurd h List.not_mem_nil⟩⟩⟩⟩⟩⟩⟩⟩⟩⟩⟩⟩⟩⟩⟩⟩
theorem lw_p32 : lw_okq (⟨"ScytheKeepers$Stranger", "leastShame", "()I"⟩, 2) := ⟨⟨by decide +kernel, by decide +kernel⟩, List.mem_of_getElem? (i := 158) (by decide +kernel), List.mem_of_getElem? (i := 431) (by decide +kernel), List.mem_of_getElem? (i := 432) (by decide +kernel)⟩
theorem lw_p33 : lw_okq (⟨"ScytheKeepers$Stranger", "greatestShame", "()I"⟩, 2) := ⟨⟨by decide +kernel, by decide +kernel⟩, List.mem_of_getElem? (i := 158) (by decide +kernel), List.mem_of_getElem? (i := 436) (by decide +kernel), List.mem_of_getElem? (i := 437) (by decide +kernel)⟩
theorem lw_p34 : lw_okq (⟨"ScytheKeepers$Stranger", "bestOthers", "(I)I"⟩, 2) := ⟨⟨by decide +kernel, by decide +kernel⟩, List.mem_of_getElem? (i := 158) (by decide +kernel), List.mem_of_getElem? (i := 444) (by decide +kernel), List.mem_of_getElem? (i := 445) (by decide +kernel)⟩
theorem lw_p35 : lw_okq (⟨"ScytheKeepers", "asFarmer", "(I)I"⟩, 12) := ⟨⟨by decide +kernel, by decide +kernel⟩, List.mem_of_getElem? (i := 13) (by decide +kernel), List.mem_of_getElem? (i := 456) (by decide +kernel), List.mem_of_getElem? (i := 457) (by decide +kernel)⟩
theorem lw_p36 : lw_okq (⟨"ScytheKeepers", "asMower", "(I)I"⟩, 12) := ⟨⟨by decide +kernel, by decide +kernel⟩, List.mem_of_getElem? (i := 13) (by decide +kernel), List.mem_of_getElem? (i := 460) (by decide +kernel), List.mem_of_getElem? (i := 461) (by decide +kernel)⟩
theorem lw_p37 : lw_okq (⟨"ScytheKeepers", "asLate", "(I)I"⟩, 12) := ⟨⟨by decide +kernel, by decide +kernel⟩, List.mem_of_getElem? (i := 13) (by decide +kernel), List.mem_of_getElem? (i := 465) (by decide +kernel), List.mem_of_getElem? (i := 466) (by decide +kernel)⟩
theorem lw_p38 : lw_okq (⟨"ScytheKeepers", "asSon", "(I)I"⟩, 12) := ⟨⟨by decide +kernel, by decide +kernel⟩, List.mem_of_getElem? (i := 13) (by decide +kernel), List.mem_of_getElem? (i := 470) (by decide +kernel), List.mem_of_getElem? (i := 471) (by decide +kernel)⟩
theorem lw_p39 : lw_okq (⟨"ScytheKeepers", "asCousin", "(I)I"⟩, 12) := ⟨⟨by decide +kernel, by decide +kernel⟩, List.mem_of_getElem? (i := 13) (by decide +kernel), List.mem_of_getElem? (i := 475) (by decide +kernel), List.mem_of_getElem? (i := 476) (by decide +kernel)⟩
theorem lw_p40 : lw_okq (⟨"ScytheKeepers", "asSnow", "(I)I"⟩, 12) := ⟨⟨by decide +kernel, by decide +kernel⟩, List.mem_of_getElem? (i := 13) (by decide +kernel), List.mem_of_getElem? (i := 480) (by decide +kernel), List.mem_of_getElem? (i := 481) (by decide +kernel)⟩
theorem lw_p41 : lw_okq (⟨"ScytheKeepersModel", "next", "()V"⟩, 25) := ⟨⟨by decide +kernel, by decide +kernel⟩, List.mem_of_getElem? (i := 501) (by decide +kernel), List.mem_of_getElem? (i := 598) (by decide +kernel), List.mem_of_getElem? (i := 599) (by decide +kernel)⟩
theorem lw_p42 : lw_okq (⟨"ScytheKeepersModel", "letterAt", "(I)I"⟩, 25) := ⟨⟨by decide +kernel, by decide +kernel⟩, List.mem_of_getElem? (i := 501) (by decide +kernel), List.mem_of_getElem? (i := 602) (by decide +kernel), List.mem_of_getElem? (i := 603) (by decide +kernel)⟩
theorem lw_p43 : lw_okq (⟨"ScytheKeepersModel", "readItem", "()V"⟩, 25) := ⟨⟨by decide +kernel, by decide +kernel⟩, List.mem_of_getElem? (i := 501) (by decide +kernel), List.mem_of_getElem? (i := 609) (by decide +kernel), List.mem_of_getElem? (i := 610) (by decide +kernel)⟩
theorem lw_p44 : lw_okq (⟨"ScytheKeepersModel", "readFarmer", "()V"⟩, 25) := ⟨⟨by decide +kernel, by decide +kernel⟩, List.mem_of_getElem? (i := 501) (by decide +kernel), List.mem_of_getElem? (i := 613) (by decide +kernel), List.mem_of_getElem? (i := 614) (by decide +kernel)⟩
theorem lw_p45 : lw_okq (⟨"ScytheKeepersModel", "takesNumber", "(II)I"⟩, 25) := ⟨⟨by decide +kernel, by decide +kernel⟩, List.mem_of_getElem? (i := 501) (by decide +kernel), List.mem_of_getElem? (i := 617) (by decide +kernel), List.mem_of_getElem? (i := 618) (by decide +kernel)⟩
theorem lw_p46 : lw_okq (⟨"ScytheKeepersModel", "settles", "()V"⟩, 25) := ⟨⟨by decide +kernel, by decide +kernel⟩, List.mem_of_getElem? (i := 501) (by decide +kernel), List.mem_of_getElem? (i := 621) (by decide +kernel), List.mem_of_getElem? (i := 622) (by decide +kernel)⟩
theorem lw_p47 : lw_okq (⟨"ScytheKeepersModel", "isFarmer", "(I)Z"⟩, 25) := ⟨⟨by decide +kernel, by decide +kernel⟩, List.mem_of_getElem? (i := 501) (by decide +kernel), List.mem_of_getElem? (i := 629) (by decide +kernel), List.mem_of_getElem? (i := 630) (by decide +kernel)⟩
def lw_privs_3 : List (MethodName × Nat) := [(⟨"ScytheKeepers$Stranger", "leastShame", "()I"⟩, 2), (⟨"ScytheKeepers$Stranger", "greatestShame", "()I"⟩, 2), (⟨"ScytheKeepers$Stranger", "bestOthers", "(I)I"⟩, 2), (⟨"ScytheKeepers", "asFarmer", "(I)I"⟩, 12), (⟨"ScytheKeepers", "asMower", "(I)I"⟩, 12), (⟨"ScytheKeepers", "asLate", "(I)I"⟩, 12), (⟨"ScytheKeepers", "asSon", "(I)I"⟩, 12), (⟨"ScytheKeepers", "asCousin", "(I)I"⟩, 12), (⟨"ScytheKeepers", "asSnow", "(I)I"⟩, 12), (⟨"ScytheKeepersModel", "next", "()V"⟩, 25), (⟨"ScytheKeepersModel", "letterAt", "(I)I"⟩, 25), (⟨"ScytheKeepersModel", "readItem", "()V"⟩, 25), (⟨"ScytheKeepersModel", "readFarmer", "()V"⟩, 25), (⟨"ScytheKeepersModel", "takesNumber", "(II)I"⟩, 25), (⟨"ScytheKeepersModel", "settles", "()V"⟩, 25), (⟨"ScytheKeepersModel", "isFarmer", "(I)Z"⟩, 25)]
theorem lw_r3 : ∀ q ∈ lw_privs_3, lw_okq q := List.forall_mem_cons.mpr ⟨lw_p32, List.forall_mem_cons.mpr ⟨lw_p33, List.forall_mem_cons.mpr ⟨lw_p34, List.forall_mem_cons.mpr ⟨lw_p35, List.forall_mem_cons.mpr ⟨lw_p36, List.forall_mem_cons.mpr ⟨lw_p37, List.forall_mem_cons.mpr ⟨lw_p38, List.forall_mem_cons.mpr ⟨lw_p39, List.forall_mem_cons.mpr ⟨lw_p40, List.forall_mem_cons.mpr ⟨lw_p41, List.forall_mem_cons.mpr ⟨lw_p42, List.forall_mem_cons.mpr ⟨lw_p43, List.forall_mem_cons.mpr ⟨lw_p44, List.forall_mem_cons.mpr ⟨lw_p45, List.forall_mem_cons.mpr ⟨lw_p46, List.forall_mem_cons.mpr ⟨lw_p47, fun _ h => absurd h List.not_mem_nil⟩⟩⟩⟩⟩⟩⟩⟩⟩⟩⟩⟩⟩⟩⟩⟩
theorem lw_p48 : lw_okq (⟨"ScytheKeepersModel", "hangWith", "(I)I"⟩, 25) := ⟨⟨by decide +kernel, by decide +kernel⟩, List.mem_of_getElem? (i := 501) (by decide +kernel), List.mem_of_getElem? (i := 633) (by decide +kernel), List.mem_of_getElem? (i := 634) (by decide +kernel)⟩
theorem lw_p49 : lw_okq (⟨"ScytheKeepersModel", "ring", "(I)I"⟩, 25) := ⟨⟨by decide +kernel, by decide +kernel⟩, List.mem_of_getElem? (i := 501) (by decide +kernel), List.mem_of_getElem? (i := 637) (by decide +kernel), List.mem_of_getElem? (i := 638) (by decide +kernel)⟩
theorem lw_p50 : lw_okq (⟨"ScytheKeepersModel", "daysTillAsked", "(I)I"⟩, 25) := ⟨⟨by decide +kernel, by decide +kernel⟩, List.mem_of_getElem? (i := 501) (by decide +kernel), List.mem_of_getElem? (i := 641) (by decide +kernel), List.mem_of_getElem? (i := 642) (by decide +kernel)⟩
theorem lw_p51 : lw_okq (⟨"ScytheKeepersModel", "asItIs", "()V"⟩, 25) := ⟨⟨by decide +kernel, by decide +kernel⟩, List.mem_of_getElem? (i := 501) (by decide +kernel), List.mem_of_getElem? (i := 645) (by decide +kernel), List.mem_of_getElem? (i := 646) (by decide +kernel)⟩
theorem lw_p52 : lw_okq (⟨"ScytheKeepersModel", "goesBy", "(I)I"⟩, 25) := ⟨⟨by decide +kernel, by decide +kernel⟩, List.mem_of_getElem? (i := 501) (by decide +kernel), List.mem_of_getElem? (i := 655) (by decide +kernel), List.mem_of_getElem? (i := 656) (by decide +kernel)⟩
theorem lw_p53 : lw_okq (⟨"ScytheKeepersModel", "asks", "()V"⟩, 25) := ⟨⟨by decide +kernel, by decide +kernel⟩, List.mem_of_getElem? (i := 501) (by decide +kernel), List.mem_of_getElem? (i := 659) (by decide +kernel), List.mem_of_getElem? (i := 660) (by decide +kernel)⟩
theorem lw_p54 : lw_okq (⟨"ScytheKeepersModel", "mowsOwn", "(I)I"⟩, 25) := ⟨⟨by decide +kernel, by decide +kernel⟩, List.mem_of_getElem? (i := 501) (by decide +kernel), List.mem_of_getElem? (i := 666) (by decide +kernel), List.mem_of_getElem? (i := 667) (by decide +kernel)⟩
theorem lw_p55 : lw_okq (⟨"ScytheKeepersModel", "mowsOther", "(I)I"⟩, 25) := ⟨⟨by decide +kernel, by decide +kernel⟩, List.mem_of_getElem? (i := 501) (by decide +kernel), List.mem_of_getElem? (i := 670) (by decide +kernel), List.mem_of_getElem? (i := 671) (by decide +kernel)⟩
theorem lw_p56 : lw_okq (⟨"ScytheKeepersModel", "daysTillDone", "(I)I"⟩, 25) := ⟨⟨by decide +kernel, by decide +kernel⟩, List.mem_of_getElem? (i := 501) (by decide +kernel), List.mem_of_getElem? (i := 674) (by decide +kernel), List.mem_of_getElem? (i := 675) (by decide +kernel)⟩
theorem lw_p57 : lw_okq (⟨"ScytheKeepersModel", "leftAll", "()I"⟩, 25) := ⟨⟨by decide +kernel, by decide +kernel⟩, List.mem_of_getElem? (i := 501) (by decide +kernel), List.mem_of_getElem? (i := 678) (by decide +kernel), List.mem_of_getElem? (i := 679) (by decide +kernel)⟩
theorem lw_p58 : lw_okq (⟨"ScytheKeepersModel", "remembers", "()V"⟩, 25) := ⟨⟨by decide +kernel, by decide +kernel⟩, List.mem_of_getElem? (i := 501) (by decide +kernel), List.mem_of_getElem? (i := 690) (by decide +kernel), List.mem_of_getElem? (i := 691) (by decide +kernel)⟩
theorem lw_p59 : lw_okq (⟨"ScytheKeepersModel", "allAskedBy", "(II)Z"⟩, 25) := ⟨⟨by decide +kernel, by decide +kernel⟩, List.mem_of_getElem? (i := 501) (by decide +kernel), List.mem_of_getElem? (i := 710) (by decide +kernel), List.mem_of_getElem? (i := 711) (by decide +kernel)⟩
theorem lw_p60 : lw_okq (⟨"ScytheKeepersModel", "farBy", "(I)I"⟩, 25) := ⟨⟨by decide +kernel, by decide +kernel⟩, List.mem_of_getElem? (i := 501) (by decide +kernel), List.mem_of_getElem? (i := 718) (by decide +kernel), List.mem_of_getElem? (i := 719) (by decide +kernel)⟩
theorem lw_p61 : lw_okq (⟨"ScytheKeepersModel", "isSo", "(II)Z"⟩, 25) := ⟨⟨by decide +kernel, by decide +kernel⟩, List.mem_of_getElem? (i := 501) (by decide +kernel), List.mem_of_getElem? (i := 744) (by decide +kernel), List.mem_of_getElem? (i := 745) (by decide +kernel)⟩
def lw_privs_4 : List (MethodName × Nat) := [(⟨"ScytheKeepersModel", "hangWith", "(I)I"⟩, 25), (⟨"ScytheKeepersModel", "ring", "(I)I"⟩, 25), (⟨"ScytheKeepersModel", "daysTillAsked", "(I)I"⟩, 25), (⟨"ScytheKeepersModel", "asItIs", "()V"⟩, 25), (⟨"ScytheKeepersModel", "goesBy", "(I)I"⟩, 25), (⟨"ScytheKeepersModel", "asks", "()V"⟩, 25), (⟨"ScytheKeepersModel", "mowsOwn", "(I)I"⟩, 25), (⟨"ScytheKeepersModel", "mowsOther", "(I)I"⟩, 25), (⟨"ScytheKeepersModel", "daysTillDone", "(I)I"⟩, 25), (⟨"ScytheKeepersModel", "leftAll", "()I"⟩, 25), (⟨"ScytheKeepersModel", "remembers", "()V"⟩, 25), (⟨"ScytheKeepersModel", "allAskedBy", "(II)Z"⟩, 25), (⟨"ScytheKeepersModel", "farBy", "(I)I"⟩, 25), (⟨"ScytheKeepersModel", "isSo", "(II)Z"⟩, 25)]
theorem lw_r4 : ∀ q ∈ lw_privs_4, lw_okq q := List.forall_mem_cons.mpr ⟨lw_p48, List.forall_mem_cons.mpr ⟨lw_p49, List.forall_mem_cons.mpr ⟨lw_p50, List.forall_mem_cons.mpr ⟨lw_p51, List.forall_mem_cons.mpr ⟨lw_p52, List.forall_mem_cons.mpr ⟨lw_p53, List.forall_mem_cons.mpr ⟨lw_p54, List.forall_mem_cons.mpr ⟨lw_p55, List.forall_mem_cons.mpr ⟨lw_p56, List.forall_mem_cons.mpr ⟨lw_p57, List.forall_mem_cons.mpr ⟨lw_p58, List.forall_mem_cons.mpr ⟨lw_p59, List.forall_mem_cons.mpr ⟨lw_p60, List.forall_mem_cons.mpr ⟨lw_p61, fun _ h => absurd h List.not_mem_nil⟩⟩⟩⟩⟩⟩⟩⟩⟩⟩⟩⟩⟩⟩
def lw_privs : List (MethodName × Nat) := lw_privs_1 ++ (lw_privs_2 ++ (lw_privs_3 ++ (lw_privs_4)))
def lw_tbl : List Cond := k2_sels lw_privs ++ tables_1
theorem lw_privs_ok : ∀ q ∈ lw_privs, lw_okq q := by
  show ∀ q ∈ lw_privs_1 ++ (lw_privs_2 ++ (lw_privs_3 ++ (lw_privs_4))), lw_okq q
  exact List.forall_mem_append.mpr ⟨lw_r1, List.forall_mem_append.mpr ⟨lw_r2, List.forall_mem_append.mpr ⟨lw_r3, lw_r4⟩⟩⟩
def RX0 : String := "ScytheKeepers$Barns"
def TX0 : u_T := fun k => match k with
  | 0 => ("ScytheKeepers$Barns", "farms", "LScytheKeepers$Farms;", true)
  | 1 => ("ScytheKeepers$Barns", "far", "I", false)
  | 2 => ("ScytheKeepers$Barns", "keeper", "[I", true)
  | _ => ("ScytheKeepers$Barns", "tried", "[I", true)
def tyX0 : Nat → FieldType := fun k => match k with
  | 0 => .object "ScytheKeepers$Farms"
  | 1 => .int
  | 2 => .array .int
  | _ => .array .int
abbrev wsX00 : List Cond := u_ws RX0 TX0 4
theorem nmX0 : ∀ a, a < 4 → ∀ b, b < 4 → a ≠ b → (TX0 a).2.1 ≠ (TX0 b).2.1 := by decide +kernel
theorem tyX0_ok : ∀ k, k < 4 → parseFieldDescriptor (TX0 k).2.2.1 = some (tyX0 k) := by decide +kernel
abbrev cX0_init : ByteArray := prog_2_method_1_code
def yX0_init : MethodName := ⟨RX0, "<init>", "(LScytheKeepers$Farms;)V"⟩
abbrev cX0_search : ByteArray := prog_2_method_2_code
def yX0_search : MethodName := ⟨RX0, "search", "()V"⟩
abbrev cX0_hangFrom : ByteArray := prog_2_method_3_code
def yX0_hangFrom : MethodName := ⟨RX0, "hangFrom", "(LScytheKeepers$Barns;III)V"⟩
def RX1 : String := "ScytheKeepers$Farms"
def TX1 : u_T := fun k => match k with
  | 0 => ("ScytheKeepers$Farms", "size", "I", false)
  | 1 => ("ScytheKeepers$Farms", "farm", "[I", true)
  | 2 => ("ScytheKeepers$Farms", "field", "[I", true)
  | 3 => ("ScytheKeepers$Farms", "shame", "[I", true)
  | 4 => ("ScytheKeepers$Farms", "nerve", "[I", true)
  | _ => ("ScytheKeepers$Farms", "keeper", "[I", true)
def tyX1 : Nat → FieldType := fun k => match k with
  | 0 => .int
  | 1 => .array .int
  | 2 => .array .int
  | 3 => .array .int
  | 4 => .array .int
  | _ => .array .int
abbrev wsX10 : List Cond := u_ws RX1 TX1 6
theorem nmX1 : ∀ a, a < 6 → ∀ b, b < 6 → a ≠ b → (TX1 a).2.1 ≠ (TX1 b).2.1 := by decide +kernel
theorem tyX1_ok : ∀ k, k < 6 → parseFieldDescriptor (TX1 k).2.2.1 = some (tyX1 k) := by decide +kernel
abbrev cX1_init : ByteArray := prog_3_method_1_code
def yX1_init : MethodName := ⟨RX1, "<init>", "()V"⟩
abbrev cX1_has : ByteArray := prog_3_method_2_code
def yX1_has : MethodName := ⟨RX1, "has", "(I)Z"⟩
abbrev cX1_everyone : ByteArray := prog_3_method_3_code
def yX1_everyone : MethodName := ⟨RX1, "everyone", "()I"⟩
abbrev cX1_copyFrom : ByteArray := prog_3_method_4_code
def yX1_copyFrom : MethodName := ⟨RX1, "copyFrom", "(LScytheKeepers$Farms;)V"⟩
abbrev cX1_keepersAreThere : ByteArray := prog_3_method_5_code
def yX1_keepersAreThere : MethodName := ⟨RX1, "keepersAreThere", "()Z"⟩
abbrev cX1_askedBehind : ByteArray := prog_3_method_6_code
def yX1_askedBehind : MethodName := ⟨RX1, "askedBehind", "(II)I"⟩
def RX2 : String := "ScytheKeepers$History"
def TX2 : u_T := fun k => match k with
  | 0 => ("ScytheKeepers$History", "scenes", "[LScytheKeepers$Scene;", true)
  | 1 => ("ScytheKeepers$History", "next", "I", false)
  | _ => ("ScytheKeepers$History", "size", "I", false)
def tyX2 : Nat → FieldType := fun k => match k with
  | 0 => .array (.object "ScytheKeepers$Scene")
  | 1 => .int
  | _ => .int
abbrev wsX20 : List Cond := u_ws RX2 TX2 3
theorem nmX2 : ∀ a, a < 3 → ∀ b, b < 3 → a ≠ b → (TX2 a).2.1 ≠ (TX2 b).2.1 := by decide +kernel
theorem tyX2_ok : ∀ k, k < 3 → parseFieldDescriptor (TX2 k).2.2.1 = some (tyX2 k) := by decide +kernel
abbrev cX2_init : ByteArray := prog_4_method_1_code
def yX2_init : MethodName := ⟨RX2, "<init>", "(LScytheKeepers$Farms;)V"⟩
abbrev cX2_push : ByteArray := prog_4_method_2_code
def yX2_push : MethodName := ⟨RX2, "push", "(LScytheKeepers$Scene;)V"⟩
abbrev cX2_pop : ByteArray := prog_4_method_3_code
def yX2_pop : MethodName := ⟨RX2, "pop", "(LScytheKeepers$Scene;)V"⟩
def RX3 : String := "ScytheKeepers$Scene"
def TX3 : u_T := fun k => match k with
  | 0 => ("ScytheKeepers$Scene", "farms", "LScytheKeepers$Farms;", true)
  | 1 => ("ScytheKeepers$Scene", "date", "I", false)
  | 2 => ("ScytheKeepers$Scene", "asked", "I", false)
  | 3 => ("ScytheKeepers$Scene", "left", "[I", true)
  | _ => ("ScytheKeepers$Scene", "keeper", "[I", true)
def tyX3 : Nat → FieldType := fun k => match k with
  | 0 => .object "ScytheKeepers$Farms"
  | 1 => .int
  | 2 => .int
  | 3 => .array .int
  | _ => .array .int
abbrev wsX30 : List Cond := u_ws RX3 TX3 5
theorem nmX3 : ∀ a, a < 5 → ∀ b, b < 5 → a ≠ b → (TX3 a).2.1 ≠ (TX3 b).2.1 := by decide +kernel
theorem tyX3_ok : ∀ k, k < 5 → parseFieldDescriptor (TX3 k).2.2.1 = some (tyX3 k) := by decide +kernel
abbrev cX3_init : ByteArray := prog_5_method_1_code
def yX3_init : MethodName := ⟨RX3, "<init>", "(LScytheKeepers$Farms;)V"⟩
abbrev cX3_begin : ByteArray := prog_5_method_2_code
def yX3_begin : MethodName := ⟨RX3, "begin", "()V"⟩
abbrev cX3_copyFrom : ByteArray := prog_5_method_3_code
def yX3_copyFrom : MethodName := ⟨RX3, "copyFrom", "(LScytheKeepers$Scene;)V"⟩
abbrev cX3_hasAsked : ByteArray := prog_5_method_4_code
def yX3_hasAsked : MethodName := ⟨RX3, "hasAsked", "(I)Z"⟩
abbrev cX3_hungWith : ByteArray := prog_5_method_5_code
def yX3_hungWith : MethodName := ⟨RX3, "hungWith", "(I)I"⟩
abbrev cX3_ringOf : ByteArray := prog_5_method_6_code
def yX3_ringOf : MethodName := ⟨RX3, "ringOf", "(I)I"⟩
abbrev cX3_leftTogether : ByteArray := prog_5_method_7_code
def yX3_leftTogether : MethodName := ⟨RX3, "leftTogether", "()I"⟩
abbrev cX3_allMown : ByteArray := prog_5_method_8_code
def yX3_allMown : MethodName := ⟨RX3, "allMown", "(I)Z"⟩
abbrev cX3_pass : ByteArray := prog_5_method_9_code
def yX3_pass : MethodName := ⟨RX3, "pass", "(Z)I"⟩
abbrev cX3_mowAll : ByteArray := prog_5_method_10_code
def yX3_mowAll : MethodName := ⟨RX3, "mowAll", "()I"⟩
abbrev cX3_mowsForAnother : ByteArray := prog_5_method_11_code
def yX3_mowsForAnother : MethodName := ⟨RX3, "mowsForAnother", "(I)Z"⟩
def RX4 : String := "ScytheKeepers$Stranger"
def TX4 : u_T := fun k => match k with
  | 0 => ("ScytheKeepers$Stranger", "seen", "I", false)
  | _ => ("ScytheKeepers$Stranger", "ruledOut", "[Z", true)
def tyX4 : Nat → FieldType := fun k => match k with
  | 0 => .int
  | _ => .array .boolean
abbrev wsX40 : List Cond := u_ws RX4 TX4 2
theorem nmX4 : ∀ a, a < 2 → ∀ b, b < 2 → a ≠ b → (TX4 a).2.1 ≠ (TX4 b).2.1 := by decide +kernel
theorem tyX4_ok : ∀ k, k < 2 → parseFieldDescriptor (TX4 k).2.2.1 = some (tyX4 k) := by decide +kernel
abbrev cX4_init : ByteArray := prog_6_method_1_code
def yX4_init : MethodName := ⟨RX4, "<init>", "()V"⟩
abbrev cX4_begin : ByteArray := prog_6_method_2_code
def yX4_begin : MethodName := ⟨RX4, "begin", "()V"⟩
abbrev cX4_learn : ByteArray := prog_6_method_3_code
def yX4_learn : MethodName := ⟨RX4, "learn", "(IIZ)V"⟩
abbrev cX4_number : ByteArray := prog_6_method_4_code
def yX4_number : MethodName := ⟨RX4, "number", "(II)I"⟩
abbrev cX4_numberOfNerve : ByteArray := prog_6_method_5_code
def yX4_numberOfNerve : MethodName := ⟨RX4, "numberOfNerve", "(III)I"⟩
abbrev cX4_leastShame : ByteArray := prog_6_method_6_code
def yX4_leastShame : MethodName := ⟨RX4, "leastShame", "()I"⟩
abbrev cX4_greatestShame : ByteArray := prog_6_method_7_code
def yX4_greatestShame : MethodName := ⟨RX4, "greatestShame", "()I"⟩
abbrev cX4_bestOthers : ByteArray := prog_6_method_8_code
def yX4_bestOthers : MethodName := ⟨RX4, "bestOthers", "(I)I"⟩
def RX5 : String := "ScytheKeepers$Text"
def TX5 : u_T := fun k => match k with
  | 0 => ("ScytheKeepers$Text", "letters", "[C", true)
  | 1 => ("ScytheKeepers$Text", "length", "I", false)
  | 2 => ("ScytheKeepers$Text", "next", "I", false)
  | 3 => ("ScytheKeepers$Text", "place", "I", false)
  | 4 => ("ScytheKeepers$Text", "token", "I", false)
  | _ => ("ScytheKeepers$Text", "number", "I", false)
def tyX5 : Nat → FieldType := fun k => match k with
  | 0 => .array .char
  | 1 => .int
  | 2 => .int
  | 3 => .int
  | 4 => .int
  | _ => .int
abbrev wsX50 : List Cond := u_ws RX5 TX5 6
theorem nmX5 : ∀ a, a < 6 → ∀ b, b < 6 → a ≠ b → (TX5 a).2.1 ≠ (TX5 b).2.1 := by decide +kernel
theorem tyX5_ok : ∀ k, k < 6 → parseFieldDescriptor (TX5 k).2.2.1 = some (tyX5 k) := by decide +kernel
abbrev cX5_init : ByteArray := prog_7_method_1_code
def yX5_init : MethodName := ⟨RX5, "<init>", "()V"⟩
abbrev cX5_add : ByteArray := prog_7_method_2_code
def yX5_add : MethodName := ⟨RX5, "add", "(I)Z"⟩
abbrev cX5_tells : ByteArray := prog_7_method_3_code
def yX5_tells : MethodName := ⟨RX5, "tells", "(LScytheKeepers$Farms;)Z"⟩
abbrev cX5_tellsOne : ByteArray := prog_7_method_4_code
def yX5_tellsOne : MethodName := ⟨RX5, "tellsOne", "(LScytheKeepers$Farms;I)Z"⟩
abbrev cX5_tellsNumber : ByteArray := prog_7_method_5_code
def yX5_tellsNumber : MethodName := ⟨RX5, "tellsNumber", "([IIII)Z"⟩
abbrev cX5_step : ByteArray := prog_7_method_6_code
def yX5_step : MethodName := ⟨RX5, "step", "()V"⟩
abbrev cX5_stepOverNumber : ByteArray := prog_7_method_7_code
def yX5_stepOverNumber : MethodName := ⟨RX5, "stepOverNumber", "()V"⟩
abbrev cX5_isDigit : ByteArray := prog_7_method_8_code
def yX5_isDigit : MethodName := ⟨RX5, "isDigit", "(C)Z"⟩
def RX6 : String := "ScytheKeepers"
def TX6 : u_T := fun k => match k with
  | 0 => ("ScytheKeepers", "text", "LScytheKeepers$Text;", true)
  | 1 => ("ScytheKeepers", "draft", "LScytheKeepers$Farms;", true)
  | 2 => ("ScytheKeepers", "farms", "LScytheKeepers$Farms;", true)
  | 3 => ("ScytheKeepers", "scene", "LScytheKeepers$Scene;", true)
  | 4 => ("ScytheKeepers", "trial", "LScytheKeepers$Scene;", true)
  | 5 => ("ScytheKeepers", "history", "LScytheKeepers$History;", true)
  | 6 => ("ScytheKeepers", "images", "[LScytheKeepers$Scene;", true)
  | 7 => ("ScytheKeepers", "imageKept", "[Z", true)
  | 8 => ("ScytheKeepers", "barns", "LScytheKeepers$Barns;", true)
  | 9 => ("ScytheKeepers", "stranger", "LScytheKeepers$Stranger;", true)
  | 10 => ("ScytheKeepers", "weights", "[I", true)
  | _ => ("ScytheKeepers", "traced", "J", false)
def tyX6 : Nat → FieldType := fun k => match k with
  | 0 => .object "ScytheKeepers$Text"
  | 1 => .object "ScytheKeepers$Farms"
  | 2 => .object "ScytheKeepers$Farms"
  | 3 => .object "ScytheKeepers$Scene"
  | 4 => .object "ScytheKeepers$Scene"
  | 5 => .object "ScytheKeepers$History"
  | 6 => .array (.object "ScytheKeepers$Scene")
  | 7 => .array .boolean
  | 8 => .object "ScytheKeepers$Barns"
  | 9 => .object "ScytheKeepers$Stranger"
  | 10 => .array .int
  | _ => .long
abbrev wsX60 : List Cond := u_ws RX6 TX6 12
theorem nmX6 : ∀ a, a < 12 → ∀ b, b < 12 → a ≠ b → (TX6 a).2.1 ≠ (TX6 b).2.1 := by decide +kernel
theorem tyX6_ok : ∀ k, k < 12 → parseFieldDescriptor (TX6 k).2.2.1 = some (tyX6 k) := by decide +kernel
abbrev cX6_init : ByteArray := prog_1_method_1_code
def yX6_init : MethodName := ⟨RX6, "<init>", "()V"⟩
abbrev cX6_type : ByteArray := prog_1_method_2_code
def yX6_type : MethodName := ⟨RX6, "type", "(I)I"⟩
abbrev cX6_clear : ByteArray := prog_1_method_3_code
def yX6_clear : MethodName := ⟨RX6, "clear", "()I"⟩
abbrev cX6_valley : ByteArray := prog_1_method_4_code
def yX6_valley : MethodName := ⟨RX6, "valley", "()I"⟩
abbrev cX6_farmer : ByteArray := prog_1_method_5_code
def yX6_farmer : MethodName := ⟨RX6, "farmer", "(II)I"⟩
abbrev cX6_now : ByteArray := prog_1_method_6_code
def yX6_now : MethodName := ⟨RX6, "now", "(I)I"⟩
abbrev cX6_day : ByteArray := prog_1_method_7_code
def yX6_day : MethodName := ⟨RX6, "day", "(I)I"⟩
abbrev cX6_brings : ByteArray := prog_1_method_8_code
def yX6_brings : MethodName := ⟨RX6, "brings", "(I)I"⟩
abbrev cX6_hangs : ByteArray := prog_1_method_9_code
def yX6_hangs : MethodName := ⟨RX6, "hangs", "(II)I"⟩
abbrev cX6_undo : ByteArray := prog_1_method_10_code
def yX6_undo : MethodName := ⟨RX6, "undo", "()I"⟩
abbrev cX6_start : ByteArray := prog_1_method_11_code
def yX6_start : MethodName := ⟨RX6, "start", "(I)I"⟩
abbrev cX6_hang : ByteArray := prog_1_method_12_code
def yX6_hang : MethodName := ⟨RX6, "hang", "(I)I"⟩
abbrev cX6_odds : ByteArray := prog_1_method_13_code
def yX6_odds : MethodName := ⟨RX6, "odds", "(IIII)I"⟩
abbrev cX6_sees : ByteArray := prog_1_method_14_code
def yX6_sees : MethodName := ⟨RX6, "sees", "(III)I"⟩
abbrev cX6_forget : ByteArray := prog_1_method_15_code
def yX6_forget : MethodName := ⟨RX6, "forget", "()I"⟩
abbrev cX6_ones : ByteArray := prog_1_method_16_code
def yX6_ones : MethodName := ⟨RX6, "ones", "(I)I"⟩
abbrev cX6_look : ByteArray := prog_1_method_17_code
def yX6_look : MethodName := ⟨RX6, "look", "(I)I"⟩
abbrev cX6_rate : ByteArray := prog_1_method_18_code
def yX6_rate : MethodName := ⟨RX6, "rate", "(II)I"⟩
abbrev cX6_keep : ByteArray := prog_1_method_19_code
def yX6_keep : MethodName := ⟨RX6, "keep", "(I)I"⟩
abbrev cX6_back : ByteArray := prog_1_method_20_code
def yX6_back : MethodName := ⟨RX6, "back", "(I)I"⟩
abbrev cX6_count : ByteArray := prog_1_method_21_code
def yX6_count : MethodName := ⟨RX6, "count", "(I)I"⟩
abbrev cX6_trace : ByteArray := prog_1_method_22_code
def yX6_trace : MethodName := ⟨RX6, "trace", "()J"⟩
abbrev cX6_within : ByteArray := prog_1_method_23_code
def yX6_within : MethodName := ⟨RX6, "within", "(III)Z"⟩
abbrev cX6_daysTillAsked : ByteArray := prog_1_method_24_code
def yX6_daysTillAsked : MethodName := ⟨RX6, "daysTillAsked", "(I)I"⟩
abbrev cX6_daysTillMown : ByteArray := prog_1_method_25_code
def yX6_daysTillMown : MethodName := ⟨RX6, "daysTillMown", "(I)I"⟩
abbrev cX6_allAskBehind : ByteArray := prog_1_method_26_code
def yX6_allAskBehind : MethodName := ⟨RX6, "allAskBehind", "(II)Z"⟩
abbrev cX6_weigh : ByteArray := prog_1_method_27_code
def yX6_weigh : MethodName := ⟨RX6, "weigh", "(II)V"⟩
abbrev cX6_commonDivisor : ByteArray := prog_1_method_28_code
def yX6_commonDivisor : MethodName := ⟨RX6, "commonDivisor", "(II)I"⟩
abbrev cX6_asFarmer : ByteArray := prog_1_method_29_code
def yX6_asFarmer : MethodName := ⟨RX6, "asFarmer", "(I)I"⟩
abbrev cX6_asMower : ByteArray := prog_1_method_30_code
def yX6_asMower : MethodName := ⟨RX6, "asMower", "(I)I"⟩
abbrev cX6_asLate : ByteArray := prog_1_method_31_code
def yX6_asLate : MethodName := ⟨RX6, "asLate", "(I)I"⟩
abbrev cX6_asSon : ByteArray := prog_1_method_32_code
def yX6_asSon : MethodName := ⟨RX6, "asSon", "(I)I"⟩
abbrev cX6_asCousin : ByteArray := prog_1_method_33_code
def yX6_asCousin : MethodName := ⟨RX6, "asCousin", "(I)I"⟩
abbrev cX6_asSnow : ByteArray := prog_1_method_34_code
def yX6_asSnow : MethodName := ⟨RX6, "asSnow", "(I)I"⟩
def RX7 : String := "ScytheKeepersModel"
def TX7 : u_T := fun k => match k with
  | 0 => ("ScytheKeepersModel", "farmers", "I", false)
  | 1 => ("ScytheKeepersModel", "farms", "[I", true)
  | 2 => ("ScytheKeepersModel", "shames", "[I", true)
  | 3 => ("ScytheKeepersModel", "nerves", "[I", true)
  | 4 => ("ScytheKeepersModel", "st", "[I", true)
  | 5 => ("ScytheKeepersModel", "was", "[I", true)
  | 6 => ("ScytheKeepersModel", "known", "I", false)
  | 7 => ("ScytheKeepersModel", "images", "[I", true)
  | 8 => ("ScytheKeepersModel", "isKept", "[Z", true)
  | 9 => ("ScytheKeepersModel", "toldMany", "I", false)
  | 10 => ("ScytheKeepersModel", "told", "[I", true)
  | 11 => ("ScytheKeepersModel", "trace", "J", false)
  | 12 => ("ScytheKeepersModel", "text", "[I", true)
  | 13 => ("ScytheKeepersModel", "texted", "I", false)
  | 14 => ("ScytheKeepersModel", "cursor", "I", false)
  | 15 => ("ScytheKeepersModel", "start", "I", false)
  | 16 => ("ScytheKeepersModel", "token", "I", false)
  | 17 => ("ScytheKeepersModel", "number", "I", false)
  | 18 => ("ScytheKeepersModel", "isWrong", "Z", false)
  | 19 => ("ScytheKeepersModel", "items", "I", false)
  | 20 => ("ScytheKeepersModel", "saidFarmers", "I", false)
  | 21 => ("ScytheKeepersModel", "said", "[I", true)
  | 22 => ("ScytheKeepersModel", "now", "[I", true)
  | 23 => ("ScytheKeepersModel", "bare", "I", false)
  | _ => ("ScytheKeepersModel", "tried", "[I", true)
def tyX7 : Nat → FieldType := fun k => match k with
  | 0 => .int
  | 1 => .array .int
  | 2 => .array .int
  | 3 => .array .int
  | 4 => .array .int
  | 5 => .array .int
  | 6 => .int
  | 7 => .array .int
  | 8 => .array .boolean
  | 9 => .int
  | 10 => .array .int
  | 11 => .long
  | 12 => .array .int
  | 13 => .int
  | 14 => .int
  | 15 => .int
  | 16 => .int
  | 17 => .int
  | 18 => .boolean
  | 19 => .int
  | 20 => .int
  | 21 => .array .int
  | 22 => .array .int
  | 23 => .int
  | _ => .array .int
abbrev wsX70 : List Cond := u_ws RX7 TX7 25
theorem nmX7 : ∀ a, a < 25 → ∀ b, b < 25 → a ≠ b → (TX7 a).2.1 ≠ (TX7 b).2.1 := by decide +kernel
theorem tyX7_ok : ∀ k, k < 25 → parseFieldDescriptor (TX7 k).2.2.1 = some (tyX7 k) := by decide +kernel
abbrev cX7_init : ByteArray := prog_9_method_1_code
def yX7_init : MethodName := ⟨RX7, "<init>", "()V"⟩
abbrev cX7_in : ByteArray := prog_9_method_3_code
def yX7_in : MethodName := ⟨RX7, "in", "(III)Z"⟩
abbrev cX7_has : ByteArray := prog_9_method_4_code
def yX7_has : MethodName := ⟨RX7, "has", "(II)Z"⟩
abbrev cX7_bits : ByteArray := prog_9_method_5_code
def yX7_bits : MethodName := ⟨RX7, "bits", "(I)I"⟩
abbrev cX7_isFarmer : ByteArray := prog_9_method_6_code
def yX7_isFarmer : MethodName := ⟨RX7, "isFarmer", "(I)Z"⟩
abbrev cX7_copy : ByteArray := prog_9_method_7_code
def yX7_copy : MethodName := ⟨RX7, "copy", "([II[II)V"⟩
abbrev cX7_type : ByteArray := prog_9_method_8_code
def yX7_type : MethodName := ⟨RX7, "type", "(I)I"⟩
abbrev cX7_clear : ByteArray := prog_9_method_9_code
def yX7_clear : MethodName := ⟨RX7, "clear", "()I"⟩
abbrev cX7_letterAt : ByteArray := prog_9_method_10_code
def yX7_letterAt : MethodName := ⟨RX7, "letterAt", "(I)I"⟩
abbrev cX7_isFigure : ByteArray := prog_9_method_11_code
def yX7_isFigure : MethodName := ⟨RX7, "isFigure", "(I)Z"⟩
abbrev cX7_next : ByteArray := prog_9_method_12_code
def yX7_next : MethodName := ⟨RX7, "next", "()V"⟩
abbrev cX7_takesNumber : ByteArray := prog_9_method_13_code
def yX7_takesNumber : MethodName := ⟨RX7, "takesNumber", "(II)I"⟩
abbrev cX7_readFarmer : ByteArray := prog_9_method_14_code
def yX7_readFarmer : MethodName := ⟨RX7, "readFarmer", "()V"⟩
abbrev cX7_readItem : ByteArray := prog_9_method_15_code
def yX7_readItem : MethodName := ⟨RX7, "readItem", "()V"⟩
abbrev cX7_valley : ByteArray := prog_9_method_16_code
def yX7_valley : MethodName := ⟨RX7, "valley", "()I"⟩
abbrev cX7_settles : ByteArray := prog_9_method_17_code
def yX7_settles : MethodName := ⟨RX7, "settles", "()V"⟩
abbrev cX7_asItIs : ByteArray := prog_9_method_18_code
def yX7_asItIs : MethodName := ⟨RX7, "asItIs", "()V"⟩
abbrev cX7_asks : ByteArray := prog_9_method_19_code
def yX7_asks : MethodName := ⟨RX7, "asks", "()V"⟩
abbrev cX7_mowsOwn : ByteArray := prog_9_method_20_code
def yX7_mowsOwn : MethodName := ⟨RX7, "mowsOwn", "(I)I"⟩
abbrev cX7_mowsOther : ByteArray := prog_9_method_21_code
def yX7_mowsOther : MethodName := ⟨RX7, "mowsOther", "(I)I"⟩
abbrev cX7_goesBy : ByteArray := prog_9_method_22_code
def yX7_goesBy : MethodName := ⟨RX7, "goesBy", "(I)I"⟩
abbrev cX7_leftAll : ByteArray := prog_9_method_23_code
def yX7_leftAll : MethodName := ⟨RX7, "leftAll", "()I"⟩
abbrev cX7_daysTillAsked : ByteArray := prog_9_method_24_code
def yX7_daysTillAsked : MethodName := ⟨RX7, "daysTillAsked", "(I)I"⟩
abbrev cX7_daysTillDone : ByteArray := prog_9_method_25_code
def yX7_daysTillDone : MethodName := ⟨RX7, "daysTillDone", "(I)I"⟩
abbrev cX7_hangWith : ByteArray := prog_9_method_26_code
def yX7_hangWith : MethodName := ⟨RX7, "hangWith", "(I)I"⟩
abbrev cX7_ring : ByteArray := prog_9_method_27_code
def yX7_ring : MethodName := ⟨RX7, "ring", "(I)I"⟩
abbrev cX7_farmer : ByteArray := prog_9_method_28_code
def yX7_farmer : MethodName := ⟨RX7, "farmer", "(II)I"⟩
abbrev cX7_now : ByteArray := prog_9_method_29_code
def yX7_now : MethodName := ⟨RX7, "now", "(I)I"⟩
abbrev cX7_remembers : ByteArray := prog_9_method_30_code
def yX7_remembers : MethodName := ⟨RX7, "remembers", "()V"⟩
abbrev cX7_day : ByteArray := prog_9_method_31_code
def yX7_day : MethodName := ⟨RX7, "day", "(I)I"⟩
abbrev cX7_brings : ByteArray := prog_9_method_32_code
def yX7_brings : MethodName := ⟨RX7, "brings", "(I)I"⟩
abbrev cX7_hangs : ByteArray := prog_9_method_33_code
def yX7_hangs : MethodName := ⟨RX7, "hangs", "(II)I"⟩
abbrev cX7_undo : ByteArray := prog_9_method_34_code
def yX7_undo : MethodName := ⟨RX7, "undo", "()I"⟩
abbrev cX7_allAskedBy : ByteArray := prog_9_method_35_code
def yX7_allAskedBy : MethodName := ⟨RX7, "allAskedBy", "(II)Z"⟩
abbrev cX7_start : ByteArray := prog_9_method_36_code
def yX7_start : MethodName := ⟨RX7, "start", "(I)I"⟩
abbrev cX7_far : ByteArray := prog_9_method_37_code
def yX7_far : MethodName := ⟨RX7, "far", "(II)I"⟩
abbrev cX7_farBy : ByteArray := prog_9_method_38_code
def yX7_farBy : MethodName := ⟨RX7, "farBy", "(I)I"⟩
abbrev cX7_hang : ByteArray := prog_9_method_39_code
def yX7_hang : MethodName := ⟨RX7, "hang", "(I)I"⟩
abbrev cX7_lowest : ByteArray := prog_9_method_40_code
def yX7_lowest : MethodName := ⟨RX7, "lowest", "(III)I"⟩
abbrev cX7_odds : ByteArray := prog_9_method_41_code
def yX7_odds : MethodName := ⟨RX7, "odds", "(IIII)I"⟩
abbrev cX7_sees : ByteArray := prog_9_method_42_code
def yX7_sees : MethodName := ⟨RX7, "sees", "(III)I"⟩
abbrev cX7_forget : ByteArray := prog_9_method_43_code
def yX7_forget : MethodName := ⟨RX7, "forget", "()I"⟩
abbrev cX7_hadAsked : ByteArray := prog_9_method_44_code
def yX7_hadAsked : MethodName := ⟨RX7, "hadAsked", "(IIII)Z"⟩
abbrev cX7_isSo : ByteArray := prog_9_method_45_code
def yX7_isSo : MethodName := ⟨RX7, "isSo", "(II)Z"⟩
abbrev cX7_ones : ByteArray := prog_9_method_46_code
def yX7_ones : MethodName := ⟨RX7, "ones", "(I)I"⟩
abbrev cX7_look : ByteArray := prog_9_method_47_code
def yX7_look : MethodName := ⟨RX7, "look", "(I)I"⟩
abbrev cX7_rate : ByteArray := prog_9_method_48_code
def yX7_rate : MethodName := ⟨RX7, "rate", "(II)I"⟩
abbrev cX7_keep : ByteArray := prog_9_method_49_code
def yX7_keep : MethodName := ⟨RX7, "keep", "(I)I"⟩
abbrev cX7_back : ByteArray := prog_9_method_50_code
def yX7_back : MethodName := ⟨RX7, "back", "(I)I"⟩
abbrev cX7_count : ByteArray := prog_9_method_51_code
def yX7_count : MethodName := ⟨RX7, "count", "(I)I"⟩
abbrev cX7_trace : ByteArray := prog_9_method_52_code
def yX7_trace : MethodName := ⟨RX7, "trace", "()J"⟩
def RJ6 : String := "java/lang/Integer"
def TJ6 : u_T := fun k => match k with
  | _ => ("", "", "", false)
def tyJ6 : Nat → FieldType := fun k => match k with
  | _ => .int
abbrev wsJ60 : List Cond := u_ws RJ6 TJ6 0
theorem nmJ6 : ∀ a, a < 0 → ∀ b, b < 0 → a ≠ b → (TJ6 a).2.1 ≠ (TJ6 b).2.1 := by decide +kernel
theorem tyJ6_ok : ∀ k, k < 0 → parseFieldDescriptor (TJ6 k).2.2.1 = some (tyJ6 k) := by decide +kernel
abbrev cJ6_bitCount_0f7a4 : ByteArray := prog_10_method_49_code
def yJ6_bitCount_0f7a4 : MethodName := ⟨RJ6, "bitCount", "(I)I"⟩
def RJ9 : String := "java/lang/Math"
def TJ9 : u_T := fun k => match k with
  | _ => ("", "", "", false)
def tyJ9 : Nat → FieldType := fun k => match k with
  | _ => .int
abbrev wsJ90 : List Cond := u_ws RJ9 TJ9 0
theorem nmJ9 : ∀ a, a < 0 → ∀ b, b < 0 → a ≠ b → (TJ9 a).2.1 ≠ (TJ9 b).2.1 := by decide +kernel
theorem tyJ9_ok : ∀ k, k < 0 → parseFieldDescriptor (TJ9 k).2.2.1 = some (tyJ9 k) := by decide +kernel
abbrev cJ9_abs_0f7a4 : ByteArray := prog_11_method_59_code
def yJ9_abs_0f7a4 : MethodName := ⟨RJ9, "abs", "(I)I"⟩
abbrev cJ9_max_7cf53 : ByteArray := prog_11_method_65_code
def yJ9_max_7cf53 : MethodName := ⟨RJ9, "max", "(II)I"⟩
abbrev cJ9_min_7cf53 : ByteArray := prog_11_method_69_code
def yJ9_min_7cf53 : MethodName := ⟨RJ9, "min", "(II)I"⟩
def RJ10 : String := "java/lang/System"
def TJ10 : u_T := fun k => match k with
  | _ => ("", "", "", false)
def tyJ10 : Nat → FieldType := fun k => match k with
  | _ => .int
abbrev wsJ100 : List Cond := u_ws RJ10 TJ10 0
theorem nmJ10 : ∀ a, a < 0 → ∀ b, b < 0 → a ≠ b → (TJ10 a).2.1 ≠ (TJ10 b).2.1 := by decide +kernel
theorem tyJ10_ok : ∀ k, k < 0 → parseFieldDescriptor (TJ10 k).2.2.1 = some (tyJ10 k) := by decide +kernel
def RL : String := "ScytheKeepersLaw"
abbrev cL_law : ByteArray := code
def yL_law : MethodName := ⟨RL, "law", "([I)Z"⟩
abbrev vwCl : List vw_C := [(RX0, TX0, 4), (RX1, TX1, 6), (RX2, TX2, 3), (RX3, TX3, 5), (RX4, TX4, 2), (RX5, TX5, 6), (RX6, TX6, 12), (RX7, TX7, 25)]
