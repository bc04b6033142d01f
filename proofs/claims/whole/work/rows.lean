section
-- ===== PART A: goes FIRST, ahead of the names: the tables' words, and 'selects' of the private methods out of them =====
/-- a private method of a class that the tables say can be made, by its rows of tables_1 -/
def lw_okq (q : MethodName × Nat) : Prop := (q.1.cls ≠ "java/lang/invoke/MethodHandle" ∧ q.1.cls ≠ "java/lang/invoke/VarHandle") ∧ Cond.instantiable q.1.cls q.2 ∈ tables_1 ∧ Cond.privateMethod q.1 ∈ tables_1 ∧ Cond.instanceMethod q.1 ∈ tables_1
theorem lw_p0 : lw_okq (⟨"ScytheKeepers$Text", "add", "(I)Z"⟩, 6) := ⟨⟨by decide +kernel, by decide +kernel⟩, List.mem_of_getElem? (i := 21) (by decide +kernel), List.mem_of_getElem? (i := 216) (by decide +kernel), List.mem_of_getElem? (i := 217) (by decide +kernel)⟩
theorem lw_p1 : lw_okq (⟨"ScytheKeepers$Text", "tells", "(LScytheKeepers$Farms;)Z"⟩, 6) := ⟨⟨by decide +kernel, by decide +kernel⟩, List.mem_of_getElem? (i := 21) (by decide +kernel), List.mem_of_getElem? (i := 228) (by decide +kernel), List.mem_of_getElem? (i := 229) (by decide +kernel)⟩
theorem lw_p2 : lw_okq (⟨"ScytheKeepers$Text", "step", "()V"⟩, 6) := ⟨⟨by decide +kernel, by decide +kernel⟩, List.mem_of_getElem? (i := 21) (by decide +kernel), List.mem_of_getElem? (i := 232) (by decide +kernel), List.mem_of_getElem? (i := 233) (by decide +kernel)⟩
theorem lw_p3 : lw_okq (⟨"ScytheKeepers$Text", "stepOverNumber", "()V"⟩, 6) := ⟨⟨by decide +kernel, by decide +kernel⟩, List.mem_of_getElem? (i := 21) (by decide +kernel), List.mem_of_getElem? (i := 239) (by decide +kernel), List.mem_of_getElem? (i := 240) (by decide +kernel)⟩
theorem lw_p4 : lw_okq (⟨"ScytheKeepers$Text", "tellsOne", "(LScytheKeepers$Farms;I)Z"⟩, 6) := ⟨⟨by decide +kernel, by decide +kernel⟩, List.mem_of_getElem? (i := 21) (by decide +kernel), List.mem_of_getElem? (i := 246) (by decide +kernel), List.mem_of_getElem? (i := 247) (by decide +kernel)⟩
theorem lw_p5 : lw_okq (⟨"ScytheKeepers$Text", "tellsNumber", "([IIII)Z"⟩, 6) := ⟨⟨by decide +kernel, by decide +kernel⟩, List.mem_of_getElem? (i := 21) (by decide +kernel), List.mem_of_getElem? (i := 250) (by decide +kernel), List.mem_of_getElem? (i := 251) (by decide +kernel)⟩
theorem lw_p6 : lw_okq (⟨"ScytheKeepers$Farms", "keepersAreThere", "()Z"⟩, 6) := ⟨⟨by decide +kernel, by decide +kernel⟩, List.mem_of_getElem? (i := 49) (by decide +kernel), List.mem_of_getElem? (i := 254) (by decide +kernel), List.mem_of_getElem? (i := 255) (by decide +kernel)⟩
theorem lw_p7 : lw_okq (⟨"ScytheKeepers$Farms", "has", "(I)Z"⟩, 6) := ⟨⟨by decide +kernel, by decide +kernel⟩, List.mem_of_getElem? (i := 49) (by decide +kernel), List.mem_of_getElem? (i := 258) (by decide +kernel), List.mem_of_getElem? (i := 259) (by decide +kernel)⟩
theorem lw_p8 : lw_okq (⟨"ScytheKeepers$Farms", "copyFrom", "(LScytheKeepers$Farms;)V"⟩, 6) := ⟨⟨by decide +kernel, by decide +kernel⟩, List.mem_of_getElem? (i := 49) (by decide +kernel), List.mem_of_getElem? (i := 262) (by decide +kernel), List.mem_of_getElem? (i := 263) (by decide +kernel)⟩
theorem lw_p9 : lw_okq (⟨"ScytheKeepers$Scene", "begin", "()V"⟩, 5) := ⟨⟨by decide +kernel, by decide +kernel⟩, List.mem_of_getElem? (i := 90) (by decide +kernel), List.mem_of_getElem? (i := 266) (by decide +kernel), List.mem_of_getElem? (i := 267) (by decide +kernel)⟩
theorem lw_p10 : lw_okq (⟨"ScytheKeepers$Stranger", "begin", "()V"⟩, 2) := ⟨⟨by decide +kernel, by decide +kernel⟩, List.mem_of_getElem? (i := 158) (by decide +kernel), List.mem_of_getElem? (i := 270) (by decide +kernel), List.mem_of_getElem? (i := 271) (by decide +kernel)⟩
theorem lw_p11 : lw_okq (⟨"ScytheKeepers$Scene", "hasAsked", "(I)Z"⟩, 5) := ⟨⟨by decide +kernel, by decide +kernel⟩, List.mem_of_getElem? (i := 90) (by decide +kernel), List.mem_of_getElem? (i := 279) (by decide +kernel), List.mem_of_getElem? (i := 280) (by decide +kernel)⟩
theorem lw_p12 : lw_okq (⟨"ScytheKeepers$Scene", "hungWith", "(I)I"⟩, 5) := ⟨⟨by decide +kernel, by decide +kernel⟩, List.mem_of_getElem? (i := 90) (by decide +kernel), List.mem_of_getElem? (i := 283) (by decide +kernel), List.mem_of_getElem? (i := 284) (by decide +kernel)⟩
theorem lw_p13 : lw_okq (⟨"ScytheKeepers$Scene", "ringOf", "(I)I"⟩, 5) := ⟨⟨by decide +kernel, by decide +kernel⟩, List.mem_of_getElem? (i := 90) (by decide +kernel), List.mem_of_getElem? (i := 287) (by decide +kernel), List.mem_of_getElem? (i := 288) (by decide +kernel)⟩
theorem lw_p14 : lw_okq (⟨"ScytheKeepers", "daysTillAsked", "(I)I"⟩, 12) := ⟨⟨by decide +kernel, by decide +kernel⟩, List.mem_of_getElem? (i := 13) (by decide +kernel), List.mem_of_getElem? (i := 292) (by decide +kernel), List.mem_of_getElem? (i := 293) (by decide +kernel)⟩
theorem lw_p15 : lw_okq (⟨"ScytheKeepers$Farms", "askedBehind", "(II)I"⟩, 6) := ⟨⟨by decide +kernel, by decide +kernel⟩, List.mem_of_getElem? (i := 49) (by decide +kernel), List.mem_of_getElem? (i := 296) (by decide +kernel), List.mem_of_getElem? (i := 297) (by decide +kernel)⟩
def lw_privs_1 : List (MethodName × Nat) := [(⟨"ScytheKeepers$Text", "add", "(I)Z"⟩, 6), (⟨"ScytheKeepers$Text", "tells", "(LScytheKeepers$Farms;)Z"⟩, 6), (⟨"ScytheKeepers$Text", "step", "()V"⟩, 6), (⟨"ScytheKeepers$Text", "stepOverNumber", "()V"⟩, 6), (⟨"ScytheKeepers$Text", "tellsOne", "(LScytheKeepers$Farms;I)Z"⟩, 6), (⟨"ScytheKeepers$Text", "tellsNumber", "([IIII)Z"⟩, 6), (⟨"ScytheKeepers$Farms", "keepersAreThere", "()Z"⟩, 6), (⟨"ScytheKeepers$Farms", "has", "(I)Z"⟩, 6), (⟨"ScytheKeepers$Farms", "copyFrom", "(LScytheKeepers$Farms;)V"⟩, 6), (⟨"ScytheKeepers$Scene", "begin", "()V"⟩, 5), (⟨"ScytheKeepers$Stranger", "begin", "()V"⟩, 2), (⟨"ScytheKeepers$Scene", "hasAsked", "(I)Z"⟩, 5), (⟨"ScytheKeepers$Scene", "hungWith", "(I)I"⟩, 5), (⟨"ScytheKeepers$Scene", "ringOf", "(I)I"⟩, 5), (⟨"ScytheKeepers", "daysTillAsked", "(I)I"⟩, 12), (⟨"ScytheKeepers$Farms", "askedBehind", "(II)I"⟩, 6)]
theorem lw_r1 : ∀ q ∈ lw_privs_1, lw_okq q := List.forall_mem_cons.mpr ⟨lw_p0, List.forall_mem_cons.mpr ⟨lw_p1, List.forall_mem_cons.mpr ⟨lw_p2, List.forall_mem_cons.mpr ⟨lw_p3, List.forall_mem_cons.mpr ⟨lw_p4, List.forall_mem_cons.mpr ⟨lw_p5, List.forall_mem_cons.mpr ⟨lw_p6, List.forall_mem_cons.mpr ⟨lw_p7, List.forall_mem_cons.mpr ⟨lw_p8, List.forall_mem_cons.mpr ⟨lw_p9, List.forall_mem_cons.mpr ⟨lw_p10, List.forall_mem_cons.mpr ⟨lw_p11, List.forall_mem_cons.mpr ⟨lw_p12, List.forall_mem_cons.mpr ⟨lw_p13, List.forall_mem_cons.mpr ⟨lw_p14, List.forall_mem_cons.mpr ⟨lw_p15, fun _ h => absurd h List.not_mem_nil⟩⟩⟩⟩⟩⟩⟩⟩⟩⟩⟩⟩⟩⟩⟩⟩
theorem lw_p16 : lw_okq (⟨"ScytheKeepers", "daysTillMown", "(I)I"⟩, 12) := ⟨⟨by decide +kernel, by decide +kernel⟩, List.mem_of_getElem? (i := 13) (by decide +kernel), List.mem_of_getElem? (i := 306) (by decide +kernel), List.mem_of_getElem? (i := 307) (by decide +kernel)⟩
theorem lw_p17 : lw_okq (⟨"ScytheKeepers$Scene", "copyFrom", "(LScytheKeepers$Scene;)V"⟩, 5) := ⟨⟨by decide +kernel, by decide +kernel⟩, List.mem_of_getElem? (i := 90) (by decide +kernel), List.mem_of_getElem? (i := 310) (by decide +kernel), List.mem_of_getElem? (i := 311) (by decide +kernel)⟩
theorem lw_p18 : lw_okq (⟨"ScytheKeepers$Scene", "allMown", "(I)Z"⟩, 5) := ⟨⟨by decide +kernel, by decide +kernel⟩, List.mem_of_getElem? (i := 90) (by decide +kernel), List.mem_of_getElem? (i := 314) (by decide +kernel), List.mem_of_getElem? (i := 315) (by decide +kernel)⟩
theorem lw_p19 : lw_okq (⟨"ScytheKeepers$Scene", "pass", "(Z)I"⟩, 5) := ⟨⟨by decide +kernel, by decide +kernel⟩, List.mem_of_getElem? (i := 90) (by decide +kernel), List.mem_of_getElem? (i := 318) (by decide +kernel), List.mem_of_getElem? (i := 319) (by decide +kernel)⟩
theorem lw_p20 : lw_okq (⟨"ScytheKeepers$Scene", "mowAll", "()I"⟩, 5) := ⟨⟨by decide +kernel, by decide +kernel⟩, List.mem_of_getElem? (i := 90) (by decide +kernel), List.mem_of_getElem? (i := 323) (by decide +kernel), List.mem_of_getElem? (i := 324) (by decide +kernel)⟩
theorem lw_p21 : lw_okq (⟨"ScytheKeepers$Scene", "mowsForAnother", "(I)Z"⟩, 5) := ⟨⟨by decide +kernel, by decide +kernel⟩, List.mem_of_getElem? (i := 90) (by decide +kernel), List.mem_of_getElem? (i := 328) (by decide +kernel), List.mem_of_getElem? (i := 329) (by decide +kernel)⟩
theorem lw_p22 : lw_okq (⟨"ScytheKeepers$Scene", "leftTogether", "()I"⟩, 5) := ⟨⟨by decide +kernel, by decide +kernel⟩, List.mem_of_getElem? (i := 90) (by decide +kernel), List.mem_of_getElem? (i := 336) (by decide +kernel), List.mem_of_getElem? (i := 337) (by decide +kernel)⟩
theorem lw_p23 : lw_okq (⟨"ScytheKeepers$Farms", "everyone", "()I"⟩, 6) := ⟨⟨by decide +kernel, by decide +kernel⟩, List.mem_of_getElem? (i := 49) (by decide +kernel), List.mem_of_getElem? (i := 340) (by decide +kernel), List.mem_of_getElem? (i := 341) (by decide +kernel)⟩
theorem lw_p24 : lw_okq (⟨"ScytheKeepers$History", "push", "(LScytheKeepers$Scene;)V"⟩, 3) := ⟨⟨by decide +kernel, by decide +kernel⟩, List.mem_of_getElem? (i := 116) (by decide +kernel), List.mem_of_getElem? (i := 348) (by decide +kernel), List.mem_of_getElem? (i := 349) (by decide +kernel)⟩
theorem lw_p25 : lw_okq (⟨"ScytheKeepers$History", "pop", "(LScytheKeepers$Scene;)V"⟩, 3) := ⟨⟨by decide +kernel, by decide +kernel⟩, List.mem_of_getElem? (i := 116) (by decide +kernel), List.mem_of_getElem? (i := 367) (by decide +kernel), List.mem_of_getElem? (i := 368) (by decide +kernel)⟩
theorem lw_p26 : lw_okq (⟨"ScytheKeepers", "allAskBehind", "(II)Z"⟩, 12) := ⟨⟨by decide +kernel, by decide +kernel⟩, List.mem_of_getElem? (i := 13) (by decide +kernel), List.mem_of_getElem? (i := 375) (by decide +kernel), List.mem_of_getElem? (i := 376) (by decide +kernel)⟩
theorem lw_p27 : lw_okq (⟨"ScytheKeepers$Barns", "search", "()V"⟩, 4) := ⟨⟨by decide +kernel, by decide +kernel⟩, List.mem_of_getElem? (i := 136) (by decide +kernel), List.mem_of_getElem? (i := 383) (by decide +kernel), List.mem_of_getElem? (i := 384) (by decide +kernel)⟩
theorem lw_p28 : lw_okq (⟨"ScytheKeepers", "weigh", "(II)V"⟩, 12) := ⟨⟨by decide +kernel, by decide +kernel⟩, List.mem_of_getElem? (i := 13) (by decide +kernel), List.mem_of_getElem? (i := 400) (by decide +kernel), List.mem_of_getElem? (i := 401) (by decide +kernel)⟩
theorem lw_p29 : lw_okq (⟨"ScytheKeepers$Stranger", "learn", "(IIZ)V"⟩, 2) := ⟨⟨by decide +kernel, by decide +kernel⟩, List.mem_of_getElem? (i := 158) (by decide +kernel), List.mem_of_getElem? (i := 411) (by decide +kernel), List.mem_of_getElem? (i := 412) (by decide +kernel)⟩
theorem lw_p30 : lw_okq (⟨"ScytheKeepers$Stranger", "number", "(II)I"⟩, 2) := ⟨⟨by decide +kernel, by decide +kernel⟩, List.mem_of_getElem? (i := 158) (by decide +kernel), List.mem_of_getElem? (i := 423) (by decide +kernel), List.mem_of_getElem? (i := 424) (by decide +kernel)⟩
theorem lw_p31 : lw_okq (⟨"ScytheKeepers$Stranger", "numberOfNerve", "(III)I"⟩, 2) := ⟨⟨by decide +kernel, by decide +kernel⟩, List.mem_of_getElem? (i := 158) (by decide +kernel), List.mem_of_getElem? (i := 427) (by decide +kernel), List.mem_of_getElem? (i := 428) (by decide +kernel)⟩
def lw_privs_2 : List (MethodName × Nat) := [(⟨"ScytheKeepers", "daysTillMown", "(I)I"⟩, 12), (⟨"ScytheKeepers$Scene", "copyFrom", "(LScytheKeepers$Scene;)V"⟩, 5), (⟨"ScytheKeepers$Scene", "allMown", "(I)Z"⟩, 5), (⟨"ScytheKeepers$Scene", "pass", "(Z)I"⟩, 5), (⟨"ScytheKeepers$Scene", "mowAll", "()I"⟩, 5), (⟨"ScytheKeepers$Scene", "mowsForAnother", "(I)Z"⟩, 5), (⟨"ScytheKeepers$Scene", "leftTogether", "()I"⟩, 5), (⟨"ScytheKeepers$Farms", "everyone", "()I"⟩, 6), (⟨"ScytheKeepers$History", "push", "(LScytheKeepers$Scene;)V"⟩, 3), (⟨"ScytheKeepers$History", "pop", "(LScytheKeepers$Scene;)V"⟩, 3), (⟨"ScytheKeepers", "allAskBehind", "(II)Z"⟩, 12), (⟨"ScytheKeepers$Barns", "search", "()V"⟩, 4), (⟨"ScytheKeepers", "weigh", "(II)V"⟩, 12), (⟨"ScytheKeepers$Stranger", "learn", "(IIZ)V"⟩, 2), (⟨"ScytheKeepers$Stranger", "number", "(II)I"⟩, 2), (⟨"ScytheKeepers$Stranger", "numberOfNerve", "(III)I"⟩, 2)]
theorem lw_r2 : ∀ q ∈ lw_privs_2, lw_okq q := List.forall_mem_cons.mpr ⟨lw_p16, List.forall_mem_cons.mpr ⟨lw_p17, List.forall_mem_cons.mpr ⟨lw_p18, List.forall_mem_cons.mpr ⟨lw_p19, List.forall_mem_cons.mpr ⟨lw_p20, List.forall_mem_cons.mpr ⟨lw_p21, List.forall_mem_cons.mpr ⟨lw_p22, List.forall_mem_cons.mpr ⟨lw_p23, List.forall_mem_cons.mpr ⟨lw_p24, List.forall_mem_cons.mpr ⟨lw_p25, List.forall_mem_cons.mpr ⟨lw_p26, List.forall_mem_cons.mpr ⟨lw_p27, List.forall_mem_cons.mpr ⟨lw_p28, List.forall_mem_cons.mpr ⟨lw_p29, List.forall_mem_cons.mpr ⟨lw_p30, List.forall_mem_cons.mpr ⟨lw_p31, fun _ h => absurd h List.not_mem_nil⟩⟩⟩⟩⟩⟩⟩⟩⟩⟩⟩⟩⟩⟩⟩⟩
theorem lw_p32 : lw_okq (⟨"ScytheKeepers$Stranger", "leastShame", "()I"⟩, 2) := ⟨⟨by decide +kernel, by decide +kernel⟩, List.mem_of_getElem? (i := 158) (by decide +kernel), List.mem_of_getElem? (i := 431) (by decide +kernel), List.mem_of_getElem? (i := 432) (by decide +kernel)⟩
theorem lw_p33 : lw_okq (⟨"ScytheKeepers$Stranger", "greatestShame", "()I"⟩, 2) := ⟨⟨by decide +kernel, by decide +kernel⟩, List.mem_of_getElem? (i := 158) (by decide +kernel), List.mem_of_getElem? (i := 436) (by decide +kernel), List.mem_of_getElem? (i := 437) (by decide +kernel)⟩
theorem lw_p34 : lw_okq (⟨"ScytheKeepers$Stranger", "bestOthers", "(I)I"⟩, 2) := ⟨⟨by decide +kernel, by decide +kernel⟩, List.mem_of_getElem? (i := 158) (by decide +kernel), List.mem_of_getElem? (i := 444) (by decide +kernel), List.mem_of_getElem? (i := 445) (by decide +kernel)⟩
theorem lw_p35 : lw_okq (⟨"ScytheKeepers", "asFarmer", "(I)I"⟩, 12) := ⟨⟨by decide +kernel, by decide +kernel⟩, List.mem_of_getElem? (i := 13) (by decide +kernel), List.mem_of_getElem? (i := 456) (by decide +kernel), List.mem_of_getElem? (i := 457) (by decide +kernel)⟩
theorem lw_p36 : lw_okq (⟨"ScytheKeepers", "asMower", "(I)I"⟩, 12) := ⟨⟨by decide +kernel, by decide +kernel⟩, List.mem_of_getElem? (i := 13) (by decide +kernel), List.mem_of_getElem? (i := 460) (by decide +kernel), List.mem_of_getElem? (i := 461) (by decide +kernel)⟩
theorem lw_p37 : lw_okq (⟨"ScytheKeepers", "asLate", "(I)I"⟩, 12) := ⟨⟨by decide +kernel, by decide +kernel⟩, List.mem_of_getElem? (i := 13) (by decide +kernel), List.mem_of_getElem? (i := 465) (by decide +kernel), List.mem_of_getElem? (i := 466) (by decide +kernel)⟩
theorem lw_p38 : lw_okq (⟨"ScytheKeepers", "asSon", "(I)I"⟩, 12) := ⟨⟨by decide +kernel, by decide +kernel⟩, List.mem_of_getElem? (i := 13) (by decide +kernel), List.mem_of_getElem? (i := 470) (by decide +kernel), List.mem_of_getElem? (i := 471) (by decide +kernel)⟩
theorem lw_p39 : lw_okq (⟨"ScytheKeepers", "asCousin", "(I)I"⟩, 12) := ⟨⟨by decide +kernel, by decide +kernel⟩, List.mem_of_getElem? (i := 13) (by decide +kernel), List.mem_of_getElem? (i := 475) (by decide +kernel), List.mem_of_getElem? (i := 476) (by decide +kernel)⟩
theorem lw_p40 : lw_okq (⟨"ScytheKeepers", "asSnow", "(I)I"⟩, 12) := ⟨⟨by decide +kernel, by decide +kernel⟩, List.mem_of_getElem? (i := 13) (by decide +kernel), List.mem_of_getElem? (i := 480) (by decide +kernel), List.mem_of_getElem? (i := 481) (by decide +kernel)⟩
theorem lw_p41 : lw_okq (⟨"ScytheKeepersModel", "next", "()V"⟩, 25) := ⟨⟨by decide +kernel, by decide +kernel⟩, List.mem_of_getElem? (i := 501) (by decide +kernel), List.mem_of_getElem? (i := 598) (by decide +kernel), List.mem_of_getElem? (i := 599) (by decide +kernel)⟩
theorem lw_p42 : lw_okq (⟨"ScytheKeepersModel", "letterAt", "(I)I"⟩, 25) := ⟨⟨by decide +kernel, by decide +kernel⟩, List.mem_of_getElem? (i := 501) (by decide +kernel), List.mem_of_getElem? (i := 602) (by decide +kernel), List.mem_of_getElem? (i := 603) (by decide +kernel)⟩
theorem lw_p43 : lw_okq (⟨"ScytheKeepersModel", "readItem", "()V"⟩, 25) := ⟨⟨by decide +kernel, by decide +kernel⟩, List.mem_of_getElem? (i := 501) (by decide +kernel), List.mem_of_getElem? (i := 609) (by decide +kernel), List.mem_of_getElem? (i := 610) (by decide +kernel)⟩
theorem lw_p44 : lw_okq (⟨"ScytheKeepersModel", "readFarmer", "()V"⟩, 25) := ⟨⟨by decide +kernel, by decide +kernel⟩, List.mem_of_getElem? (i := 501) (by decide +kernel), List.mem_of_getElem? (i := 613) (by decide +kernel), List.mem_of_getElem? (i := 614) (by decide +kernel)⟩
theorem lw_p45 : lw_okq (⟨"ScytheKeepersModel", "takesNumber", "(II)I"⟩, 25) := ⟨⟨by decide +kernel, by decide +kernel⟩, List.mem_of_getElem? (i := 501) (by decide +kernel), List.mem_of_getElem? (i := 617) (by decide +kernel), List.mem_of_getElem? (i := 618) (by decide +kernel)⟩
theorem lw_p46 : lw_okq (⟨"ScytheKeepersModel", "settles", "()V"⟩, 25) := ⟨⟨by decide +kernel, by decide +kernel⟩, List.mem_of_getElem? (i := 501) (by decide +kernel), List.mem_of_getElem? (i := 621) (by decide +kernel), List.mem_of_getElem? (i := 622) (by decide +kernel)⟩
theorem lw_p47 : lw_okq (⟨"ScytheKeepersModel", "isFarmer", "(I)Z"⟩, 25) := ⟨⟨by decide +kernel, by decide +kernel⟩, List.mem_of_getElem? (i := 501) (by decide +kernel), List.mem_of_getElem? (i := 629) (by decide +kernel), List.mem_of_getElem? (i := 630) (by decide +kernel)⟩
def lw_privs_3 : List (MethodName × Nat) := [(⟨"ScytheKeepers$Stranger", "leastShame", "()I"⟩, 2), (⟨"ScytheKeepers$Stranger", "greatestShame", "()I"⟩, 2), (⟨"ScytheKeepers$Stranger", "bestOthers", "(I)I"⟩, 2), (⟨"ScytheKeepers", "asFarmer", "(I)I"⟩, 12), (⟨"ScytheKeepers", "asMower", "(I)I"⟩, 12), (⟨"ScytheKeepers", "asLate", "(I)I"⟩, 12), (⟨"ScytheKeepers", "asSon", "(I)I"⟩, 12), (⟨"ScytheKeepers", "asCousin", "(I)I"⟩, 12), (⟨"ScytheKeepers", "asSnow", "(I)I"⟩, 12), (⟨"ScytheKeepersModel", "next", "()V"⟩, 25), (⟨"ScytheKeepersModel", "letterAt", "(I)I"⟩, 25), (⟨"ScytheKeepersModel", "readItem", "()V"⟩, 25), (⟨"ScytheKeepersModel", "readFarmer", "()V"⟩, 25), (⟨"ScytheKeepersModel", "takesNumber", "(II)I"⟩, 25), (⟨"ScytheKeepersModel", "settles", "()V"⟩, 25), (⟨"ScytheKeepersModel", "isFarmer", "(I)Z"⟩, 25)]
theorem lw_r3 : ∀ q ∈ lw_privs_3, lw_okq q := List.forall_mem_cons.mpr ⟨lw_p32, List.forall_mem_cons.mpr ⟨lw_p33, List.forall_mem_cons.mpr ⟨lw_p34, List.forall_mem_cons.mpr ⟨lw_p35, List.forall_mem_cons.mpr ⟨lw_p36, List.forall_mem_cons.mpr ⟨lw_p37, List.forall_mem_cons.mpr ⟨lw_p38, List.forall_mem_cons.mpr ⟨lw_p39, List.forall_mem_cons.mpr ⟨lw_p40, List.forall_mem_cons.mpr ⟨lw_p41, List.forall_mem_cons.mpr ⟨lw_p42, List.forall_mem_cons.mpr ⟨lw_p43, List.forall_mem_cons.mpr ⟨lw_p44, List.forall_mem_cons.mpr ⟨lw_p45, List.forall_mem_cons.mpr ⟨lw_p46, List.forall_mem_cons.mpr ⟨lw_p47, fun _ h => absurd h List.not_mem_nil⟩⟩⟩⟩⟩⟩⟩⟩⟩⟩⟩⟩⟩⟩⟩⟩
theorem lw_p48 : lw_okq (⟨"ScytheKeepersModel", "hangWith", "(I)I"⟩, 25) := ⟨⟨by decide +kernel, by decide +kernel⟩, List.mem_of_getElem? (i := 501) (by decide +kernel), List.mem_of_getElem? (i := 633) (by decide +kernel), List.mem_of_getElem? (i := 634) (by decide +kernel)⟩
theorem lw_p49 : lw_okq (⟨"ScytheKeepersModel", "ring", "(I)I"⟩, 25) := ⟨⟨by decide +kernel, by decide +kernel⟩, List.mem_of_getElem? (i := 501) (by decide +kernel), List.mem_of_getElem? (i := 637) (by decide +kernel), List.mem_of_getElem? (i := 638) (by decide +kernel)⟩
theorem lw_p50 : lw_okq (⟨"ScytheKeepersModel", "daysTillAsked", "(I)I"⟩, 25) := ⟨⟨by decide +kernel, by decide +kernel⟩, List.mem_of_getElem? (i := 501) (by decide +kernel), List.mem_of_getElem? (i := 641) (by decide +kernel), List.mem_of_getElem? (i := 642) (by decide +kernel)⟩
theorem lw_p51 : lw_okq (⟨"ScytheKeepersModel", "asItIs", "()V"⟩, 25) := ⟨⟨by decide +kernel, by decide +kernel⟩, List.mem_of_getElem? (i := 501) (by decide +kernel), List.mem_of_getElem? (i := 645) (by decide +kernel), List.mem_of_getElem? (i := 646) (by decide +kernel)⟩
theorem lw_p52 : lw_okq (⟨"ScytheKeepersModel", "goesBy", "(I)I"⟩, 25) := ⟨⟨by decide +kernel, by decide +kernel⟩, List.mem_of_getElem? (i := 501) (by decide +kernel), List.mem_of_getElem? (i := 655) (by decide +kernel), List.mem_of_getElem? (i := 656) (by decide +kernel)⟩
theorem lw_p53 : lw_okq (⟨"ScytheKeepersModel", "asks", "()V"⟩, 25) := ⟨⟨by decide +kernel, by decide +kernel⟩, List.mem_of_getElem? (i := 501) (by decide +kernel), List.mem_of_getElem? (i := 659) (by decide +kernel), List.mem_of_getElem? (i := 660) (by decide +kernel)⟩
theorem lw_p54 : lw_okq (⟨"ScytheKeepersModel", "mowsOwn", "(I)I"⟩, 25) := ⟨⟨by decide +kernel, by decide +kernel⟩, List.mem_of_getElem? (i := 501) (by decide +kernel), List.mem_of_getElem? (i := 666) (by decide +kernel), List.mem_of_getElem? (i := 667) (by decide +kernel)⟩
theorem lw_p55 : lw_okq (⟨"ScytheKeepersModel", "mowsOther", "(I)I"⟩, 25) := ⟨⟨by decide +kernel, by decide +kernel⟩, List.mem_of_getElem? (i := 501) (by decide +kernel), List.mem_of_getElem? (i := 670) (by decide +kernel), List.mem_of_getElem? (i := 671) (by decide +kernel)⟩
theorem lw_p56 : lw_okq (⟨"ScytheKeepersModel", "daysTillDone", "(I)I"⟩, 25) := ⟨⟨by decide +kernel, by decide +kernel⟩, List.mem_of_getElem? (i := 501) (by decide +kernel), List.mem_of_getElem? (i := 674) (by decide +kernel), List.mem_of_getElem? (i := 675) (by decide +kernel)⟩
theorem lw_p57 : lw_okq (⟨"ScytheKeepersModel", "leftAll", "()I"⟩, 25) := ⟨⟨by decide +kernel, by decide +kernel⟩, List.mem_of_getElem? (i := 501) (by decide +kernel), List.mem_of_getElem? (i := 678) (by decide +kernel), List.mem_of_getElem? (i := 679) (by decide +kernel)⟩
theorem lw_p58 : lw_okq (⟨"ScytheKeepersModel", "remembers", "()V"⟩, 25) := ⟨⟨by decide +kernel, by decide +kernel⟩, List.mem_of_getElem? (i := 501) (by decide +kernel), List.mem_of_getElem? (i := 690) (by decide +kernel), List.mem_of_getElem? (i := 691) (by decide +kernel)⟩
theorem lw_p59 : lw_okq (⟨"ScytheKeepersModel", "allAskedBy", "(II)Z"⟩, 25) := ⟨⟨by decide +kernel, by decide +kernel⟩, List.mem_of_getElem? (i := 501) (by decide +kernel), List.mem_of_getElem? (i := 710) (by decide +kernel), List.mem_of_getElem? (i := 711) (by decide +kernel)⟩
theorem lw_p60 : lw_okq (⟨"ScytheKeepersModel", "farBy", "(I)I"⟩, 25) := ⟨⟨by decide +kernel, by decide +kernel⟩, List.mem_of_getElem? (i := 501) (by decide +kernel), List.mem_of_getElem? (i := 718) (by decide +kernel), List.mem_of_getElem? (i := 719) (by decide +kernel)⟩
theorem lw_p61 : lw_okq (⟨"ScytheKeepersModel", "isSo", "(II)Z"⟩, 25) := ⟨⟨by decide +kernel, by decide +kernel⟩, List.mem_of_getElem? (i := 501) (by decide +kernel), List.mem_of_getElem? (i := 744) (by decide +kernel), List.mem_of_getElem? (i := 745) (by decide +kernel)⟩
def lw_privs_4 : List (MethodName × Nat) := [(⟨"ScytheKeepersModel", "hangWith", "(I)I"⟩, 25), (⟨"ScytheKeepersModel", "ring", "(I)I"⟩, 25), (⟨"ScytheKeepersModel", "daysTillAsked", "(I)I"⟩, 25), (⟨"ScytheKeepersModel", "asItIs", "()V"⟩, 25), (⟨"ScytheKeepersModel", "goesBy", "(I)I"⟩, 25), (⟨"ScytheKeepersModel", "asks", "()V"⟩, 25), (⟨"ScytheKeepersModel", "mowsOwn", "(I)I"⟩, 25), (⟨"ScytheKeepersModel", "mowsOther", "(I)I"⟩, 25), (⟨"ScytheKeepersModel", "daysTillDone", "(I)I"⟩, 25), (⟨"ScytheKeepersModel", "leftAll", "()I"⟩, 25), (⟨"ScytheKeepersModel", "remembers", "()V"⟩, 25), (⟨"ScytheKeepersModel", "allAskedBy", "(II)Z"⟩, 25), (⟨"ScytheKeepersModel", "farBy", "(I)I"⟩, 25), (⟨"ScytheKeepersModel", "isSo", "(II)Z"⟩, 25)]
theorem lw_r4 : ∀ q ∈ lw_privs_4, lw_okq q := List.forall_mem_cons.mpr ⟨lw_p48, List.forall_mem_cons.mpr ⟨lw_p49, List.forall_mem_cons.mpr ⟨lw_p50, List.forall_mem_cons.mpr ⟨lw_p51, List.forall_mem_cons.mpr ⟨lw_p52, List.forall_mem_cons.mpr ⟨lw_p53, List.forall_mem_cons.mpr ⟨lw_p54, List.forall_mem_cons.mpr ⟨lw_p55, List.forall_mem_cons.mpr ⟨lw_p56, List.forall_mem_cons.mpr ⟨lw_p57, List.forall_mem_cons.mpr ⟨lw_p58, List.forall_mem_cons.mpr ⟨lw_p59, List.forall_mem_cons.mpr ⟨lw_p60, List.forall_mem_cons.mpr ⟨lw_p61, fun _ h => absurd h List.not_mem_nil⟩⟩⟩⟩⟩⟩⟩⟩⟩⟩⟩⟩⟩⟩
def lw_privs : List (MethodName × Nat) := lw_privs_1 ++ (lw_privs_2 ++ (lw_privs_3 ++ (lw_privs_4)))
def lw_tbl : List Cond := k2_sels lw_privs ++ tables_1
theorem lw_privs_ok : ∀ q ∈ lw_privs, lw_okq q := by
  show ∀ q ∈ lw_privs_1 ++ (lw_privs_2 ++ (lw_privs_3 ++ (lw_privs_4))), lw_okq q
  exact List.forall_mem_append.mpr ⟨lw_r1, List.forall_mem_append.mpr ⟨lw_r2, List.forall_mem_append.mpr ⟨lw_r3, lw_r4⟩⟩⟩
def RX0 : String := "ScytheKeepers$Barns"
def TX0 : u_T := fun k => match k with
  | 0 => ("ScytheKeepers$Barns", "farms", "LScytheKeepers$Farms;", true)
  | 1 => ("ScytheKeepers$Barns", "far", "I", false)
  | 2 => ("ScytheKeepers$Barns", "keeper", "[I", true)
  | _ => ("ScytheKeepers$Barns", "tried", "[I", true)
def tyX0 : Nat → FieldType := fun k => match k with
  | 0 => .object "ScytheKeepers$Farms"
  | 1 => .int
  | 2 => .array .int
  | _ => .array .int
abbrev wsX00 : List Cond := u_ws RX0 TX0 4
theorem nmX0 : ∀ a, a < 4 → ∀ b, b < 4 → a ≠ b → (TX0 a).2.1 ≠ (TX0 b).2.1 := by decide +kernel
theorem tyX0_ok : ∀ k, k < 4 → parseFieldDescriptor (TX0 k).2.2.1 = some (tyX0 k) := by decide +kernel
abbrev cX0_init : ByteArray := prog_2_method_1_code
def yX0_init : MethodName := ⟨RX0, "<init>", "(LScytheKeepers$Farms;)V"⟩
abbrev cX0_search : ByteArray := prog_2_method_2_code
def yX0_search : MethodName := ⟨RX0, "search", "()V"⟩
abbrev cX0_hangFrom : ByteArray := prog_2_method_3_code
def yX0_hangFrom : MethodName := ⟨RX0, "hangFrom", "(LScytheKeepers$Barns;III)V"⟩
def RX1 : String := "ScytheKeepers$Farms"
def TX1 : u_T := fun k => match k with
  | 0 => ("ScytheKeepers$Farms", "size", "I", false)
  | 1 => ("ScytheKeepers$Farms", "farm", "[I", true)
  | 2 => ("ScytheKeepers$Farms", "field", "[I", true)
  | 3 => ("ScytheKeepers$Farms", "shame", "[I", true)
  | 4 => ("ScytheKeepers$Farms", "nerve", "[I", true)
  | _ => ("ScytheKeepers$Farms", "keeper", "[I", true)
def tyX1 : Nat → FieldType := fun k => match k with
  | 0 => .int
  | 1 => .array .int
  | 2 => .array .int
  | 3 => .array .int
  | 4 => .array .int
  | _ => .array .int
abbrev wsX10 : List Cond := u_ws RX1 TX1 6
theorem nmX1 : ∀ a, a < 6 → ∀ b, b < 6 → a ≠ b → (TX1 a).2.1 ≠ (TX1 b).2.1 := by decide +kernel
theorem tyX1_ok : ∀ k, k < 6 → parseFieldDescriptor (TX1 k).2.2.1 = some (tyX1 k) := by decide +kernel
abbrev cX1_init : ByteArray := prog_3_method_1_code
def yX1_init : MethodName := ⟨RX1, "<init>", "()V"⟩
abbrev cX1_has : ByteArray := prog_3_method_2_code
def yX1_has : MethodName := ⟨RX1, "has", "(I)Z"⟩
abbrev cX1_everyone : ByteArray := prog_3_method_3_code
def yX1_everyone : MethodName := ⟨RX1, "everyone", "()I"⟩
abbrev cX1_copyFrom : ByteArray := prog_3_method_4_code
def yX1_copyFrom : MethodName := ⟨RX1, "copyFrom", "(LScytheKeepers$Farms;)V"⟩
abbrev cX1_keepersAreThere : ByteArray := prog_3_method_5_code
def yX1_keepersAreThere : MethodName := ⟨RX1, "keepersAreThere", "()Z"⟩
abbrev cX1_askedBehind : ByteArray := prog_3_method_6_code
def yX1_askedBehind : MethodName := ⟨RX1, "askedBehind", "(II)I"⟩
def RX2 : String := "ScytheKeepers$History"
def TX2 : u_T := fun k => match k with
  | 0 => ("ScytheKeepers$History", "scenes", "[LScytheKeepers$Scene;", true)
  | 1 => ("ScytheKeepers$History", "next", "I", false)
  | _ => ("ScytheKeepers$History", "size", "I", false)
def tyX2 : Nat → FieldType := fun k => match k with
  | 0 => .array (.object "ScytheKeepers$Scene")
  | 1 => .int
  | _ => .int
abbrev wsX20 : List Cond := u_ws RX2 TX2 3
theorem nmX2 : ∀ a, a < 3 → ∀ b, b < 3 → a ≠ b → (TX2 a).2.1 ≠ (TX2 b).2.1 := by decide +kernel
theorem tyX2_ok : ∀ k, k < 3 → parseFieldDescriptor (TX2 k).2.2.1 = some (tyX2 k) := by decide +kernel
abbrev cX2_init : ByteArray := prog_4_method_1_code
def yX2_init : MethodName := ⟨RX2, "<init>", "(LScytheKeepers$Farms;)V"⟩
abbrev cX2_push : ByteArray := prog_4_method_2_code
def yX2_push : MethodName := ⟨RX2, "push", "(LScytheKeepers$Scene;)V"⟩
abbrev cX2_pop : ByteArray := prog_4_method_3_code
def yX2_pop : MethodName := ⟨RX2, "pop", "(LScytheKeepers$Scene;)V"⟩
def RX3 : String := "ScytheKeepers$Scene"
def TX3 : u_T := fun k => match k with
  | 0 => ("ScytheKeepers$Scene", "farms", "LScytheKeepers$Farms;", true)
  | 1 => ("ScytheKeepers$Scene", "date", "I", false)
  | 2 => ("ScytheKeepers$Scene", "asked", "I", false)
  | 3 => ("ScytheKeepers$Scene", "left", "[I", true)
  | _ => ("ScytheKeepers$Scene", "keeper", "[I", true)
def tyX3 : Nat → FieldType := fun k => match k with
  | 0 => .object "ScytheKeepers$Farms"
  | 1 => .int
  | 2 => .int
  | 3 => .array .int
  | _ => .array .int
abbrev wsX30 : List Cond := u_ws RX3 TX3 5
theorem nmX3 : ∀ a, a < 5 → ∀ b, b < 5 → a ≠ b → (TX3 a).2.1 ≠ (TX3 b).2.1 := by decide +kernel
theorem tyX3_ok : ∀ k, k < 5 → parseFieldDescriptor (TX3 k).2.2.1 = some (tyX3 k) := by decide +kernel
abbrev cX3_init : ByteArray := prog_5_method_1_code
def yX3_init : MethodName := ⟨RX3, "<init>", "(LScytheKeepers$Farms;)V"⟩
abbrev cX3_begin : ByteArray := prog_5_method_2_code
def yX3_begin : MethodName := ⟨RX3, "begin", "()V"⟩
abbrev cX3_copyFrom : ByteArray := prog_5_method_3_code
def yX3_copyFrom : MethodName := ⟨RX3, "copyFrom", "(LScytheKeepers$Scene;)V"⟩
abbrev cX3_hasAsked : ByteArray := prog_5_method_4_code
def yX3_hasAsked : MethodName := ⟨RX3, "hasAsked", "(I)Z"⟩
abbrev cX3_hungWith : ByteArray := prog_5_method_5_code
def yX3_hungWith : MethodName := ⟨RX3, "hungWith", "(I)I"⟩
abbrev cX3_ringOf : ByteArray := prog_5_method_6_code
def yX3_ringOf : MethodName := ⟨RX3, "ringOf", "(I)I"⟩
abbrev cX3_leftTogether : ByteArray := prog_5_method_7_code
def yX3_leftTogether : MethodName := ⟨RX3, "leftTogether", "()I"⟩
abbrev cX3_allMown : ByteArray := prog_5_method_8_code
def yX3_allMown : MethodName := ⟨RX3, "allMown", "(I)Z"⟩
abbrev cX3_pass : ByteArray := prog_5_method_9_code
def yX3_pass : MethodName := ⟨RX3, "pass", "(Z)I"⟩
abbrev cX3_mowAll : ByteArray := prog_5_method_10_code
def yX3_mowAll : MethodName := ⟨RX3, "mowAll", "()I"⟩
abbrev cX3_mowsForAnother : ByteArray := prog_5_method_11_code
def yX3_mowsForAnother : MethodName := ⟨RX3, "mowsForAnother", "(I)Z"⟩
def RX4 : String := "ScytheKeepers$Stranger"
def TX4 : u_T := fun k => match k with
  | 0 => ("ScytheKeepers$Stranger", "seen", "I", false)
  | _ => ("ScytheKeepers$Stranger", "ruledOut", "[Z", true)
def tyX4 : Nat → FieldType := fun k => match k with
  | 0 => .int
  | _ => .array .boolean
abbrev wsX40 : List Cond := u_ws RX4 TX4 2
theorem nmX4 : ∀ a, a < 2 → ∀ b, b < 2 → a ≠ b → (TX4 a).2.1 ≠ (TX4 b).2.1 := by decide +kernel
theorem tyX4_ok : ∀ k, k < 2 → parseFieldDescriptor (TX4 k).2.2.1 = some (tyX4 k) := by decide +kernel
abbrev cX4_init : ByteArray := prog_6_method_1_code
def yX4_init : MethodName := ⟨RX4, "<init>", "()V"⟩
abbrev cX4_begin : ByteArray := prog_6_method_2_code
def yX4_begin : MethodName := ⟨RX4, "begin", "()V"⟩
abbrev cX4_learn : ByteArray := prog_6_method_3_code
def yX4_learn : MethodName := ⟨RX4, "learn", "(IIZ)V"⟩
abbrev cX4_number : ByteArray := prog_6_method_4_code
def yX4_number : MethodName := ⟨RX4, "number", "(II)I"⟩
abbrev cX4_numberOfNerve : ByteArray := prog_6_method_5_code
def yX4_numberOfNerve : MethodName := ⟨RX4, "numberOfNerve", "(III)I"⟩
abbrev cX4_leastShame : ByteArray := prog_6_method_6_code
def yX4_leastShame : MethodName := ⟨RX4, "leastShame", "()I"⟩
abbrev cX4_greatestShame : ByteArray := prog_6_method_7_code
def yX4_greatestShame : MethodName := ⟨RX4, "greatestShame", "()I"⟩
abbrev cX4_bestOthers : ByteArray := prog_6_method_8_code
def yX4_bestOthers : MethodName := ⟨RX4, "bestOthers", "(I)I"⟩
def RX5 : String := "ScytheKeepers$Text"
def TX5 : u_T := fun k => match k with
  | 0 => ("ScytheKeepers$Text", "letters", "[C", true)
  | 1 => ("ScytheKeepers$Text", "length", "I", false)
  | 2 => ("ScytheKeepers$Text", "next", "I", false)
  | 3 => ("ScytheKeepers$Text", "place", "I", false)
  | 4 => ("ScytheKeepers$Text", "token", "I", false)
  | _ => ("ScytheKeepers$Text", "number", "I", false)
def tyX5 : Nat → FieldType := fun k => match k with
  | 0 => .array .char
  | 1 => .int
  | 2 => .int
  | 3 => .int
  | 4 => .int
  | _ => .int
abbrev wsX50 : List Cond := u_ws RX5 TX5 6
theorem nmX5 : ∀ a, a < 6 → ∀ b, b < 6 → a ≠ b → (TX5 a).2.1 ≠ (TX5 b).2.1 := by decide +kernel
theorem tyX5_ok : ∀ k, k < 6 → parseFieldDescriptor (TX5 k).2.2.1 = some (tyX5 k) := by decide +kernel
abbrev cX5_init : ByteArray := prog_7_method_1_code
def yX5_init : MethodName := ⟨RX5, "<init>", "()V"⟩
abbrev cX5_add : ByteArray := prog_7_method_2_code
def yX5_add : MethodName := ⟨RX5, "add", "(I)Z"⟩
abbrev cX5_tells : ByteArray := prog_7_method_3_code
def yX5_tells : MethodName := ⟨RX5, "tells", "(LScytheKeepers$Farms;)Z"⟩
abbrev cX5_tellsOne : ByteArray := prog_7_method_4_code
def yX5_tellsOne : MethodName := ⟨RX5, "tellsOne", "(LScytheKeepers$Farms;I)Z"⟩
abbrev cX5_tellsNumber : ByteArray := prog_7_method_5_code
def yX5_tellsNumber : MethodName := ⟨RX5, "tellsNumber", "([IIII)Z"⟩
abbrev cX5_step : ByteArray := prog_7_method_6_code
def yX5_step : MethodName := ⟨RX5, "step", "()V"⟩
abbrev cX5_stepOverNumber : ByteArray := prog_7_method_7_code
def yX5_stepOverNumber : MethodName := ⟨RX5, "stepOverNumber", "()V"⟩
abbrev cX5_isDigit : ByteArray := prog_7_method_8_code
def yX5_isDigit : MethodName := ⟨RX5, "isDigit", "(C)Z"⟩
def RX6 : String := "ScytheKeepers"
def TX6 : u_T := fun k => match k with
  | 0 => ("ScytheKeepers", "text", "LScytheKeepers$Text;", true)
  | 1 => ("ScytheKeepers", "draft", "LScytheKeepers$Farms;", true)
  | 2 => ("ScytheKeepers", "farms", "LScytheKeepers$Farms;", true)
  | 3 => ("ScytheKeepers", "scene", "LScytheKeepers$Scene;", true)
  | 4 => ("ScytheKeepers", "trial", "LScytheKeepers$Scene;", true)
  | 5 => ("ScytheKeepers", "history", "LScytheKeepers$History;", true)
  | 6 => ("ScytheKeepers", "images", "[LScytheKeepers$Scene;", true)
  | 7 => ("ScytheKeepers", "imageKept", "[Z", true)
  | 8 => ("ScytheKeepers", "barns", "LScytheKeepers$Barns;", true)
  | 9 => ("ScytheKeepers", "stranger", "LScytheKeepers$Stranger;", true)
  | 10 => ("ScytheKeepers", "weights", "[I", true)
  | _ => ("ScytheKeepers", "traced", "J", false)
def tyX6 : Nat → FieldType := fun k => match k with
  | 0 => .object "ScytheKeepers$Text"
  | 1 => .object "ScytheKeepers$Farms"
  | 2 => .object "ScytheKeepers$Farms"
  | 3 => .object "ScytheKeepers$Scene"
  | 4 => .object "ScytheKeepers$Scene"
  | 5 => .object "ScytheKeepers$History"
  | 6 => .array (.object "ScytheKeepers$Scene")
  | 7 => .array .boolean
  | 8 => .object "ScytheKeepers$Barns"
  | 9 => .object "ScytheKeepers$Stranger"
  | 10 => .array .int
  | _ => .long
abbrev wsX60 : List Cond := u_ws RX6 TX6 12
theorem nmX6 : ∀ a, a < 12 → ∀ b, b < 12 → a ≠ b → (TX6 a).2.1 ≠ (TX6 b).2.1 := by decide +kernel
theorem tyX6_ok : ∀ k, k < 12 → parseFieldDescriptor (TX6 k).2.2.1 = some (tyX6 k) := by decide +kernel
abbrev cX6_init : ByteArray := prog_1_method_1_code
def yX6_init : MethodName := ⟨RX6, "<init>", "()V"⟩
abbrev cX6_type : ByteArray := prog_1_method_2_code
def yX6_type : MethodName := ⟨RX6, "type", "(I)I"⟩
abbrev cX6_clear : ByteArray := prog_1_method_3_code
def yX6_clear : MethodName := ⟨RX6, "clear", "()I"⟩
abbrev cX6_valley : ByteArray := prog_1_method_4_code
def yX6_valley : MethodName := ⟨RX6, "valley", "()I"⟩
abbrev cX6_farmer : ByteArray := prog_1_method_5_code
def yX6_farmer : MethodName := ⟨RX6, "farmer", "(II)I"⟩
abbrev cX6_now : ByteArray := prog_1_method_6_code
def yX6_now : MethodName := ⟨RX6, "now", "(I)I"⟩
abbrev cX6_day : ByteArray := prog_1_method_7_code
def yX6_day : MethodName := ⟨RX6, "day", "(I)I"⟩
abbrev cX6_brings : ByteArray := prog_1_method_8_code
def yX6_brings : MethodName := ⟨RX6, "brings", "(I)I"⟩
abbrev cX6_hangs : ByteArray := prog_1_method_9_code
def yX6_hangs : MethodName := ⟨RX6, "hangs", "(II)I"⟩
abbrev cX6_undo : ByteArray := prog_1_method_10_code
def yX6_undo : MethodName := ⟨RX6, "undo", "()I"⟩
abbrev cX6_start : ByteArray := prog_1_method_11_code
def yX6_start : MethodName := ⟨RX6, "start", "(I)I"⟩
abbrev cX6_hang : ByteArray := prog_1_method_12_code
def yX6_hang : MethodName := ⟨RX6, "hang", "(I)I"⟩
abbrev cX6_odds : ByteArray := prog_1_method_13_code
def yX6_odds : MethodName := ⟨RX6, "odds", "(IIII)I"⟩
abbrev cX6_sees : ByteArray := prog_1_method_14_code
def yX6_sees : MethodName := ⟨RX6, "sees", "(III)I"⟩
abbrev cX6_forget : ByteArray := prog_1_method_15_code
def yX6_forget : MethodName := ⟨RX6, "forget", "()I"⟩
abbrev cX6_ones : ByteArray := prog_1_method_16_code
def yX6_ones : MethodName := ⟨RX6, "ones", "(I)I"⟩
abbrev cX6_look : ByteArray := prog_1_method_17_code
def yX6_look : MethodName := ⟨RX6, "look", "(I)I"⟩
abbrev cX6_rate : ByteArray := prog_1_method_18_code
def yX6_rate : MethodName := ⟨RX6, "rate", "(II)I"⟩
abbrev cX6_keep : ByteArray := prog_1_method_19_code
def yX6_keep : MethodName := ⟨RX6, "keep", "(I)I"⟩
abbrev cX6_back : ByteArray := prog_1_method_20_code
def yX6_back : MethodName := ⟨RX6, "back", "(I)I"⟩
abbrev cX6_count : ByteArray := prog_1_method_21_code
def yX6_count : MethodName := ⟨RX6, "count", "(I)I"⟩
abbrev cX6_trace : ByteArray := prog_1_method_22_code
def yX6_trace : MethodName := ⟨RX6, "trace", "()J"⟩
abbrev cX6_within : ByteArray := prog_1_method_23_code
def yX6_within : MethodName := ⟨RX6, "within", "(III)Z"⟩
abbrev cX6_daysTillAsked : ByteArray := prog_1_method_24_code
def yX6_daysTillAsked : MethodName := ⟨RX6, "daysTillAsked", "(I)I"⟩
abbrev cX6_daysTillMown : ByteArray := prog_1_method_25_code
def yX6_daysTillMown : MethodName := ⟨RX6, "daysTillMown", "(I)I"⟩
abbrev cX6_allAskBehind : ByteArray := prog_1_method_26_code
def yX6_allAskBehind : MethodName := ⟨RX6, "allAskBehind", "(II)Z"⟩
abbrev cX6_weigh : ByteArray := prog_1_method_27_code
def yX6_weigh : MethodName := ⟨RX6, "weigh", "(II)V"⟩
abbrev cX6_commonDivisor : ByteArray := prog_1_method_28_code
def yX6_commonDivisor : MethodName := ⟨RX6, "commonDivisor", "(II)I"⟩
abbrev cX6_asFarmer : ByteArray := prog_1_method_29_code
def yX6_asFarmer : MethodName := ⟨RX6, "asFarmer", "(I)I"⟩
abbrev cX6_asMower : ByteArray := prog_1_method_30_code
def yX6_asMower : MethodName := ⟨RX6, "asMower", "(I)I"⟩
abbrev cX6_asLate : ByteArray := prog_1_method_31_code
def yX6_asLate : MethodName := ⟨RX6, "asLate", "(I)I"⟩
abbrev cX6_asSon : ByteArray := prog_1_method_32_code
def yX6_asSon : MethodName := ⟨RX6, "asSon", "(I)I"⟩
abbrev cX6_asCousin : ByteArray := prog_1_method_33_code
def yX6_asCousin : MethodName := ⟨RX6, "asCousin", "(I)I"⟩
abbrev cX6_asSnow : ByteArray := prog_1_method_34_code
def yX6_asSnow : MethodName := ⟨RX6, "asSnow", "(I)I"⟩
def RX7 : String := "ScytheKeepersModel"
def TX7 : u_T := fun k => match k with
  | 0 => ("ScytheKeepersModel", "farmers", "I", false)
  | 1 => ("ScytheKeepersModel", "farms", "[I", true)
  | 2 => ("ScytheKeepersModel", "shames", "[I", true)
  | 3 => ("ScytheKeepersModel", "nerves", "[I", true)
  | 4 => ("ScytheKeepersModel", "st", "[I", true)
  | 5 => ("ScytheKeepersModel", "was", "[I", true)
  | 6 => ("ScytheKeepersModel", "known", "I", false)
  | 7 => ("ScytheKeepersModel", "images", "[I", true)
  | 8 => ("ScytheKeepersModel", "isKept", "[Z", true)
  | 9 => ("ScytheKeepersModel", "toldMany", "I", false)
  | 10 => ("ScytheKeepersModel", "told", "[I", true)
  | 11 => ("ScytheKeepersModel", "trace", "J", false)
  | 12 => ("ScytheKeepersModel", "text", "[I", true)
  | 13 => ("ScytheKeepersModel", "texted", "I", false)
  | 14 => ("ScytheKeepersModel", "cursor", "I", false)
  | 15 => ("ScytheKeepersModel", "start", "I", false)
  | 16 => ("ScytheKeepersModel", "token", "I", false)
  | 17 => ("ScytheKeepersModel", "number", "I", false)
  | 18 => ("ScytheKeepersModel", "isWrong", "Z", false)
  | 19 => ("ScytheKeepersModel", "items", "I", false)
  | 20 => ("ScytheKeepersModel", "saidFarmers", "I", false)
  | 21 => ("ScytheKeepersModel", "said", "[I", true)
  | 22 => ("ScytheKeepersModel", "now", "[I", true)
  | 23 => ("ScytheKeepersModel", "bare", "I", false)
  | _ => ("ScytheKeepersModel", "tried", "[I", true)
def tyX7 : Nat → FieldType := fun k => match k with
  | 0 => .int
  | 1 => .array .int
  | 2 => .array .int
  | 3 => .array .int
  | 4 => .array .int
  | 5 => .array .int
  | 6 => .int
  | 7 => .array .int
  | 8 => .array .boolean
  | 9 => .int
  | 10 => .array .int
  | 11 => .long
  | 12 => .array .int
  | 13 => .int
  | 14 => .int
  | 15 => .int
  | 16 => .int
  | 17 => .int
  | 18 => .boolean
  | 19 => .int
  | 20 => .int
  | 21 => .array .int
  | 22 => .array .int
  | 23 => .int
  | _ => .array .int
abbrev wsX70 : List Cond := u_ws RX7 TX7 25
theorem nmX7 : ∀ a, a < 25 → ∀ b, b < 25 → a ≠ b → (TX7 a).2.1 ≠ (TX7 b).2.1 := by decide +kernel
theorem tyX7_ok : ∀ k, k < 25 → parseFieldDescriptor (TX7 k).2.2.1 = some (tyX7 k) := by decide +kernel
abbrev cX7_init : ByteArray := prog_9_method_1_code
def yX7_init : MethodName := ⟨RX7, "<init>", "()V"⟩
abbrev cX7_in : ByteArray := prog_9_method_3_code
def yX7_in : MethodName := ⟨RX7, "in", "(III)Z"⟩
abbrev cX7_has : ByteArray := prog_9_method_4_code
def yX7_has : MethodName := ⟨RX7, "has", "(II)Z"⟩
abbrev cX7_bits : ByteArray := prog_9_method_5_code
def yX7_bits : MethodName := ⟨RX7, "bits", "(I)I"⟩
abbrev cX7_isFarmer : ByteArray := prog_9_method_6_code
def yX7_isFarmer : MethodName := ⟨RX7, "isFarmer", "(I)Z"⟩
abbrev cX7_copy : ByteArray := prog_9_method_7_code
def yX7_copy : MethodName := ⟨RX7, "copy", "([II[II)V"⟩
abbrev cX7_type : ByteArray := prog_9_method_8_code
def yX7_type : MethodName := ⟨RX7, "type", "(I)I"⟩
abbrev cX7_clear : ByteArray := prog_9_method_9_code
def yX7_clear : MethodName := ⟨RX7, "clear", "()I"⟩
abbrev cX7_letterAt : ByteArray := prog_9_method_10_code
def yX7_letterAt : MethodName := ⟨RX7, "letterAt", "(I)I"⟩
abbrev cX7_isFigure : ByteArray := prog_9_method_11_code
def yX7_isFigure : MethodName := ⟨RX7, "isFigure", "(I)Z"⟩
abbrev cX7_next : ByteArray := prog_9_method_12_code
def yX7_next : MethodName := ⟨RX7, "next", "()V"⟩
abbrev cX7_takesNumber : ByteArray := prog_9_method_13_code
def yX7_takesNumber : MethodName := ⟨RX7, "takesNumber", "(II)I"⟩
abbrev cX7_readFarmer : ByteArray := prog_9_method_14_code
def yX7_readFarmer : MethodName := ⟨RX7, "readFarmer", "()V"⟩
abbrev cX7_readItem : ByteArray := prog_9_method_15_code
def yX7_readItem : MethodName := ⟨RX7, "readItem", "()V"⟩
abbrev cX7_valley : ByteArray := prog_9_method_16_code
def yX7_valley : MethodName := ⟨RX7, "valley", "()I"⟩
abbrev cX7_settles : ByteArray := prog_9_method_17_code
def yX7_settles : MethodName := ⟨RX7, "settles", "()V"⟩
abbrev cX7_asItIs : ByteArray := prog_9_method_18_code
def yX7_asItIs : MethodName := ⟨RX7, "asItIs", "()V"⟩
abbrev cX7_asks : ByteArray := prog_9_method_19_code
def yX7_asks : MethodName := ⟨RX7, "asks", "()V"⟩
abbrev cX7_mowsOwn : ByteArray := prog_9_method_20_code
def yX7_mowsOwn : MethodName := ⟨RX7, "mowsOwn", "(I)I"⟩
abbrev cX7_mowsOther : ByteArray := prog_9_method_21_code
def yX7_mowsOther : MethodName := ⟨RX7, "mowsOther", "(I)I"⟩
abbrev cX7_goesBy : ByteArray := prog_9_method_22_code
def yX7_goesBy : MethodName := ⟨RX7, "goesBy", "(I)I"⟩
abbrev cX7_leftAll : ByteArray := prog_9_method_23_code
def yX7_leftAll : MethodName := ⟨RX7, "leftAll", "()I"⟩
abbrev cX7_daysTillAsked : ByteArray := prog_9_method_24_code
def yX7_daysTillAsked : MethodName := ⟨RX7, "daysTillAsked", "(I)I"⟩
abbrev cX7_daysTillDone : ByteArray := prog_9_method_25_code
def yX7_daysTillDone : MethodName := ⟨RX7, "daysTillDone", "(I)I"⟩
abbrev cX7_hangWith : ByteArray := prog_9_method_26_code
def yX7_hangWith : MethodName := ⟨RX7, "hangWith", "(I)I"⟩
abbrev cX7_ring : ByteArray := prog_9_method_27_code
def yX7_ring : MethodName := ⟨RX7, "ring", "(I)I"⟩
abbrev cX7_farmer : ByteArray := prog_9_method_28_code
def yX7_farmer : MethodName := ⟨RX7, "farmer", "(II)I"⟩
abbrev cX7_now : ByteArray := prog_9_method_29_code
def yX7_now : MethodName := ⟨RX7, "now", "(I)I"⟩
abbrev cX7_remembers : ByteArray := prog_9_method_30_code
def yX7_remembers : MethodName := ⟨RX7, "remembers", "()V"⟩
abbrev cX7_day : ByteArray := prog_9_method_31_code
def yX7_day : MethodName := ⟨RX7, "day", "(I)I"⟩
abbrev cX7_brings : ByteArray := prog_9_method_32_code
def yX7_brings : MethodName := ⟨RX7, "brings", "(I)I"⟩
abbrev cX7_hangs : ByteArray := prog_9_method_33_code
def yX7_hangs : MethodName := ⟨RX7, "hangs", "(II)I"⟩
abbrev cX7_undo : ByteArray := prog_9_method_34_code
def yX7_undo : MethodName := ⟨RX7, "undo", "()I"⟩
abbrev cX7_allAskedBy : ByteArray := prog_9_method_35_code
def yX7_allAskedBy : MethodName := ⟨RX7, "allAskedBy", "(II)Z"⟩
abbrev cX7_start : ByteArray := prog_9_method_36_code
def yX7_start : MethodName := ⟨RX7, "start", "(I)I"⟩
abbrev cX7_far : ByteArray := prog_9_method_37_code
def yX7_far : MethodName := ⟨RX7, "far", "(II)I"⟩
abbrev cX7_farBy : ByteArray := prog_9_method_38_code
def yX7_farBy : MethodName := ⟨RX7, "farBy", "(I)I"⟩
abbrev cX7_hang : ByteArray := prog_9_method_39_code
def yX7_hang : MethodName := ⟨RX7, "hang", "(I)I"⟩
abbrev cX7_lowest : ByteArray := prog_9_method_40_code
def yX7_lowest : MethodName := ⟨RX7, "lowest", "(III)I"⟩
abbrev cX7_odds : ByteArray := prog_9_method_41_code
def yX7_odds : MethodName := ⟨RX7, "odds", "(IIII)I"⟩
abbrev cX7_sees : ByteArray := prog_9_method_42_code
def yX7_sees : MethodName := ⟨RX7, "sees", "(III)I"⟩
abbrev cX7_forget : ByteArray := prog_9_method_43_code
def yX7_forget : MethodName := ⟨RX7, "forget", "()I"⟩
abbrev cX7_hadAsked : ByteArray := prog_9_method_44_code
def yX7_hadAsked : MethodName := ⟨RX7, "hadAsked", "(IIII)Z"⟩
abbrev cX7_isSo : ByteArray := prog_9_method_45_code
def yX7_isSo : MethodName := ⟨RX7, "isSo", "(II)Z"⟩
abbrev cX7_ones : ByteArray := prog_9_method_46_code
def yX7_ones : MethodName := ⟨RX7, "ones", "(I)I"⟩
abbrev cX7_look : ByteArray := prog_9_method_47_code
def yX7_look : MethodName := ⟨RX7, "look", "(I)I"⟩
abbrev cX7_rate : ByteArray := prog_9_method_48_code
def yX7_rate : MethodName := ⟨RX7, "rate", "(II)I"⟩
abbrev cX7_keep : ByteArray := prog_9_method_49_code
def yX7_keep : MethodName := ⟨RX7, "keep", "(I)I"⟩
abbrev cX7_back : ByteArray := prog_9_method_50_code
def yX7_back : MethodName := ⟨RX7, "back", "(I)I"⟩
abbrev cX7_count : ByteArray := prog_9_method_51_code
def yX7_count : MethodName := ⟨RX7, "count", "(I)I"⟩
abbrev cX7_trace : ByteArray := prog_9_method_52_code
def yX7_trace : MethodName := ⟨RX7, "trace", "()J"⟩
def RJ6 : String := "java/lang/Integer"
def TJ6 : u_T := fun k => match k with
  | _ => ("", "", "", false)
def tyJ6 : Nat → FieldType := fun k => match k with
  | _ => .int
abbrev wsJ60 : List Cond := u_ws RJ6 TJ6 0
theorem nmJ6 : ∀ a, a < 0 → ∀ b, b < 0 → a ≠ b → (TJ6 a).2.1 ≠ (TJ6 b).2.1 := by decide +kernel
theorem tyJ6_ok : ∀ k, k < 0 → parseFieldDescriptor (TJ6 k).2.2.1 = some (tyJ6 k) := by decide +kernel
abbrev cJ6_bitCount_0f7a4 : ByteArray := prog_10_method_49_code
def yJ6_bitCount_0f7a4 : MethodName := ⟨RJ6, "bitCount", "(I)I"⟩
def RJ9 : String := "java/lang/Math"
def TJ9 : u_T := fun k => match k with
  | _ => ("", "", "", false)
def tyJ9 : Nat → FieldType := fun k => match k with
  | _ => .int
abbrev wsJ90 : List Cond := u_ws RJ9 TJ9 0
theorem nmJ9 : ∀ a, a < 0 → ∀ b, b < 0 → a ≠ b → (TJ9 a).2.1 ≠ (TJ9 b).2.1 := by decide +kernel
theorem tyJ9_ok : ∀ k, k < 0 → parseFieldDescriptor (TJ9 k).2.2.1 = some (tyJ9 k) := by decide +kernel
abbrev cJ9_abs_0f7a4 : ByteArray := prog_11_method_59_code
def yJ9_abs_0f7a4 : MethodName := ⟨RJ9, "abs", "(I)I"⟩
abbrev cJ9_max_7cf53 : ByteArray := prog_11_method_65_code
def yJ9_max_7cf53 : MethodName := ⟨RJ9, "max", "(II)I"⟩
abbrev cJ9_min_7cf53 : ByteArray := prog_11_method_69_code
def yJ9_min_7cf53 : MethodName := ⟨RJ9, "min", "(II)I"⟩
def RJ10 : String := "java/lang/System"
def TJ10 : u_T := fun k => match k with
  | _ => ("", "", "", false)
def tyJ10 : Nat → FieldType := fun k => match k with
  | _ => .int
abbrev wsJ100 : List Cond := u_ws RJ10 TJ10 0
theorem nmJ10 : ∀ a, a < 0 → ∀ b, b < 0 → a ≠ b → (TJ10 a).2.1 ≠ (TJ10 b).2.1 := by decide +kernel
theorem tyJ10_ok : ∀ k, k < 0 → parseFieldDescriptor (TJ10 k).2.2.1 = some (tyJ10 k) := by decide +kernel
def RL : String := "ScytheKeepersLaw"
abbrev cL_law : ByteArray := code
def yL_law : MethodName := ⟨RL, "law", "([I)Z"⟩
abbrev vwCl : List vw_C := [(RX0, TX0, 4), (RX1, TX1, 6), (RX2, TX2, 3), (RX3, TX3, 5), (RX4, TX4, 2), (RX5, TX5, 6), (RX6, TX6, 12), (RX7, TX7, 25)]
end
section
/-! ===== the words that go along with a call (TB), and the nest's (NB) ===== -/
def isNest (w : Cond) : Bool := match w with
  | .fieldLinkNest _ _ _ _ _ _ => true
  | .methodLinkNest _ _ _ _ => true
  | _ => false
def TB : List Cond := lw_tbl.filter goodWord
def NB : List Cond := tables_1.filter isNest
theorem tb_mem {w : Cond} (i : Nat) (h : lw_tbl[i]? = some w) (hg : goodWord w = true) : w ∈ TB := List.mem_filter.mpr ⟨List.mem_of_getElem? h, hg⟩
theorem nb_mem {w : Cond} (i : Nat) (h : tables_1[i]? = some w) (hg : isNest w = true) : w ∈ NB := List.mem_filter.mpr ⟨List.mem_of_getElem? h, hg⟩
theorem tb_goodIn {w : Cond} (h : w ∈ TB) : GoodIn TB (w :: TB) := by
  intro v hv
  have hv : v ∈ TB := by
    rcases List.mem_cons.mp hv with e | e
    · rw [e]; exact h
    · exact e
  exact ⟨hv, good_of_word (List.mem_filter.mp hv).2⟩
theorem nb_warm {s U : State} (hW : s.WarmedH U.vm) (h : ∀ w ∈ NB, va_Nw w s) : ∀ w ∈ NB, va_Nw w U := by
  intro w hw
  have h1 := h w hw
  have h2 := (List.mem_filter.mp hw).2
  unfold isNest at h2
  split at h2
  · exact va_Nw.warmF hW h1
  · exact va_Nw.warmM hW h1
  · cases h2
theorem nb_on {w : Cond} (hw : w ∈ NB) : w.onTables = true := by
  have h2 := (List.mem_filter.mp hw).2
  unfold isNest at h2
  split at h2
  · rfl
  · rfl
  · cases h2
/-! ===== the abstract store: the ints of cell k (fields by their slots, elements by their places), its long ===== -/
abbrev St : Type := (Nat → Nat → Int32) × (Nat → Int64)
def up (s : St) (k i : Nat) (v : Int32) : St := (va_up s.1 k (upd (s.1 k) i v), s.2)
def upL (s : St) (k : Nat) (v : Int64) : St := (s.1, va_up s.2 k v)
abbrev ib (i : Int32) (n : Nat) : Prop := ¬ (i < 0 ∨ n ≤ i.toNatClampNeg)
/-- an element is read; where its place is none of the row: no answer -/
def rd {α : Type} (s : St) (k n : Nat) (i : Int32) (c : Int32 → Option α) : Option α := if ib i n then c (s.1 k i.toNatClampNeg) else none
def wr {α : Type} (s : St) (k n : Nat) (i v : Int32) (c : St → Option α) : Option α := if ib i n then c (up s k i.toNatClampNeg v) else none
/-- an element of an array of scenes: the number of that scene's cell -/
def ra {α : Type} (k n : Nat) (i : Int32) (c : Nat → Option α) : Option α := if ib i n then c (k + 1 + 3 * i.toNatClampNeg) else none
def pu {α : Type} (s : St) (k i : Nat) (v : Int32) (c : St → Option α) : Option α := c (up s k i v)
/-- a boolean field -/
def puZ {α : Type} (s : St) (k i : Nat) (v : Int32) (c : St → Option α) : Option α := if v = 0 ∨ v = 1 then c (up s k i v) else none
def puL {α : Type} (s : St) (k : Nat) (v : Int64) (c : St → Option α) : Option α := c (upL s k v)
def cl {α : Type} (f : Option (Int32 × St)) (c : Int32 → St → Option α) : Option α := f.bind fun q => c q.1 q.2
def jn {α κ : Type} (k : κ) (f : κ → Option α) : Option α := f k
def dv {α : Type} (y : Int32) (c : Option α) : Option α := if y = 0 then none else c
def rz (v : Int32) (s : St) : Option (Int32 × St) := if v = 0 ∨ v = 1 then some (v, s) else none
/-! ===== the world: 80 cells from B on ===== -/
def kdL : List Nat := [6, 5, 9, 1, 8, 8, 8, 8, 8, 1, 8, 8, 8, 8, 8, 3, 8, 8, 3, 8, 8, 2, 11, 3, 8, 8, 3, 8, 8, 3, 8, 8, 3, 8, 8, 3, 8, 8, 3, 8, 8, 3, 8, 8, 3, 8, 8, 3, 8, 8, 3, 8, 8, 11, 3, 8, 8, 3, 8, 8, 10, 0, 8, 8, 4, 10, 8, 7, 8, 8, 8, 8, 8, 8, 10, 8, 8, 8, 8, 8]
def lnL : List Nat := [0, 0, 140, 0, 6, 6, 6, 6, 6, 0, 6, 6, 6, 6, 6, 0, 6, 6, 0, 6, 6, 0, 10, 0, 6, 6, 0, 6, 6, 0, 6, 6, 0, 6, 6, 0, 6, 6, 0, 6, 6, 0, 6, 6, 0, 6, 6, 0, 6, 6, 0, 6, 6, 2, 0, 6, 6, 0, 6, 6, 2, 0, 6, 6, 0, 147, 9, 0, 6, 6, 6, 14, 140, 28, 2, 18, 140, 30, 14, 6]
def kd (k : Nat) : Nat := kdL.getD k 99
def ln (k : Nat) : Nat := lnL.getD k 0
abbrev Ce : Type := Launch × Nat × va_G × ClassId × ClassId × ClassId × ClassId
def Ce.l (E : Ce) : Launch := E.1
def Ce.B (E : Ce) : Nat := E.2.1
def Ce.D (E : Ce) : va_G := E.2.2.1
def Ce.cI (E : Ce) : ClassId := E.2.2.2.1
def Ce.cC (E : Ce) : ClassId := E.2.2.2.2.1
def Ce.cZ (E : Ce) : ClassId := E.2.2.2.2.2.1
def Ce.cO (E : Ce) : ClassId := E.2.2.2.2.2.2
def f_0 (B : Nat) (f : Nat → Int32) : List Value := [.ref (B + 9), .int (f 1), .ref (B + 62), .ref (B + 63)]
def f_1 (B k : Nat) (f : Nat → Int32) : List Value := [.int (f 0), .ref (B + (k + 1)), .ref (B + (k + 2)), .ref (B + (k + 3)), .ref (B + (k + 4)), .ref (B + (k + 5))]
def f_2 (B : Nat) (f : Nat → Int32) : List Value := [.ref (B + 22), .int (f 1), .int (f 2)]
def f_3 (B k : Nat) (f : Nat → Int32) : List Value := [.ref (B + 9), .int (f 1), .int (f 2), .ref (B + (k + 1)), .ref (B + (k + 2))]
def f_4 (B : Nat) (f : Nat → Int32) : List Value := [.int (f 0), .ref (B + 65)]
def f_5 (B : Nat) (f : Nat → Int32) : List Value := [.ref (B + 2), .int (f 1), .int (f 2), .int (f 3), .int (f 4), .int (f 5)]
def f_6 (B : Nat) (t : Int64) : List Value := [.ref (B + 1), .ref (B + 3), .ref (B + 9), .ref (B + 15), .ref (B + 18), .ref (B + 21), .ref (B + 53), .ref (B + 60), .ref (B + 61), .ref (B + 64), .ref (B + 66), .long t]
def f_7 (B : Nat) (f : Nat → Int32) (t : Int64) : List Value := [.int (f 0), .ref (B + 68), .ref (B + 69), .ref (B + 70), .ref (B + 71), .ref (B + 72), .int (f 6), .ref (B + 73), .ref (B + 74), .int (f 9), .ref (B + 75), .long t, .ref (B + 76), .int (f 13), .int (f 14), .int (f 15), .int (f 16), .int (f 17), .int (f 18), .int (f 19), .int (f 20), .ref (B + 77), .ref (B + 78), .int (f 23), .ref (B + 79)]
def f_11 (B k : Nat) : Nat → Option Nat := fun i => some (B + (k + 1 + 3 * i))
def cellE (E : Ce) (k : Nat) (f : Nat → Int32) (t : Int64) : va_E :=
  if kd k = 8 then .inl (E.cI, ln k, .inl f) else if kd k = 9 then .inl (E.cC, ln k, .inl f) else if kd k = 10 then .inl (E.cZ, ln k, .inl f) else if kd k = 11 then .inl (E.cO, ln k, .inr (.inr (.inr (.inr (f_11 E.B k))))) else
  if kd k = 0 then .inr (0, f_0 E.B f) else if kd k = 1 then .inr (1, f_1 E.B k f) else if kd k = 2 then .inr (2, f_2 E.B f) else if kd k = 3 then .inr (3, f_3 E.B k f) else
  if kd k = 4 then .inr (4, f_4 E.B f) else if kd k = 5 then .inr (5, f_5 E.B f) else if kd k = 6 then .inr (6, f_6 E.B t) else .inr (7, f_7 E.B f t)
section
variable {E : Ce} {k : Nat} {f : Nat → Int32} {t : Int64}
theorem ce_0 (h : kd k = 0) : cellE E k f t = .inr (0, f_0 E.B f) := by simp [cellE, h]
theorem ce_1 (h : kd k = 1) : cellE E k f t = .inr (1, f_1 E.B k f) := by simp [cellE, h]
theorem ce_2 (h : kd k = 2) : cellE E k f t = .inr (2, f_2 E.B f) := by simp [cellE, h]
theorem ce_3 (h : kd k = 3) : cellE E k f t = .inr (3, f_3 E.B k f) := by simp [cellE, h]
theorem ce_4 (h : kd k = 4) : cellE E k f t = .inr (4, f_4 E.B f) := by simp [cellE, h]
theorem ce_5 (h : kd k = 5) : cellE E k f t = .inr (5, f_5 E.B f) := by simp [cellE, h]
theorem ce_6 (h : kd k = 6) : cellE E k f t = .inr (6, f_6 E.B t) := by simp [cellE, h]
theorem ce_7 (h : kd k = 7) : cellE E k f t = .inr (7, f_7 E.B f t) := by simp [cellE, h]
theorem ce_8 (h : kd k = 8) : cellE E k f t = .inl (E.cI, ln k, .inl f) := by simp [cellE, h]
theorem ce_9 (h : kd k = 9) : cellE E k f t = .inl (E.cC, ln k, .inl f) := by simp [cellE, h]
theorem ce_10 (h : kd k = 10) : cellE E k f t = .inl (E.cZ, ln k, .inl f) := by simp [cellE, h]
theorem ce_11 (h : kd k = 11) : cellE E k f t = .inl (E.cO, ln k, .inr (.inr (.inr (.inr (f_11 E.B k))))) := by simp [cellE, h]
end
def wl (E : Ce) (s : St) : va_W := (List.range 80).map fun k => (E.B + k, cellE E k (s.1 k) (s.2 k))
theorem wl_at (E : Ce) (s : St) {k : Nat} (hk : k < 80) : (wl E s)[k]? = some (E.B + k, cellE E k (s.1 k) (s.2 k)) := by simp [wl, hk]
theorem wl_set (E : Ce) (s s' : St) {k : Nat} (hk : k < 80) (h2 : ∀ j, j ≠ k → s'.1 j = s.1 j ∧ s'.2 j = s.2 j) : (wl E s).set k (E.B + k, cellE E k (s'.1 k) (s'.2 k)) = wl E s' := by
  apply List.ext_getElem?
  intro i
  rw [List.getElem?_set]
  by_cases hi : k = i
  · subst hi
    simp [wl, hk]
  · rw [if_neg hi]
    by_cases h8 : i < 80
    · rw [wl_at E s h8, wl_at E s' h8, (h2 i (Ne.symm hi)).1, (h2 i (Ne.symm hi)).2]
    · simp [wl, h8]
def AA (E : Ce) : Nat → Prop := fun q => E.B ≤ q
theorem wl_D (E : Ce) (s : St) : va_D (AA E) (wl E s) := by
  have h : ∀ (i : Nat) (p : Nat × va_E), (wl E s)[i]? = some p → p.1 = E.B + i := by
    intro i p hp
    by_cases h8 : i < 80
    · rw [wl_at E s h8] at hp
      cases hp; rfl
    · simp [wl, h8] at hp
  refine ⟨fun i j p q hp hq e => ?_, fun i p hp => ?_⟩
  · rw [h i p hp, h j q hq] at e; omega
  · show E.B ≤ p.1
    rw [h i p hp]; omega
def tys (E : Ce) : List (ClassId × FieldType) := [(E.cI, .int), (E.cC, .char), (E.cZ, .boolean), (E.cO, .object "ScytheKeepers$Scene")]
def rmD (d : Nat) : Room := { frames := d, cells := 0, slots := 0, locals := 40 * d }
def Wd (E : Ce) (s : St) (U : State) : Prop := va_P E.D vwCl (wl E s) U.heap ∧ va_K E.D vwCl (tys E) U ∧ ∀ w ∈ NB, va_Nw w U
/-! ===== locals, by place; .null: not told ===== -/
def LH (ls : Array Slot) (nL : Nat) (L : List Value) : Prop := ls.size = nL ∧ lv_wf ls ∧ ∀ (i : Nat) (v : Value), L[i]? = some v → v ≠ .null → v.category = 1 ∧ ls[i]? = some (.val v)
def asl (L : List Value) : List (Nat × Value) := (List.range L.length).filterMap fun j => match (L[j]? : Option Value) with
  | some Value.null => none
  | some w => some (j, w)
  | none => none
theorem asl_mem {L : List Value} {j : Nat} {w : Value} (h : L[j]? = some w) (hw : w ≠ .null) : (j, w) ∈ asl L := by
  unfold asl
  refine List.mem_filterMap.mpr ⟨j, List.mem_range.mpr (List.getElem?_eq_some_iff.mp h).1, ?_⟩
  rw [h]
  cases w <;> first | rfl | exact absurd rfl hw
theorem asl_of {L : List Value} {q : Nat × Value} (h : q ∈ asl L) : L[q.1]? = some q.2 ∧ q.2 ≠ .null := by
  unfold asl at h
  obtain ⟨j, -, hj⟩ := List.mem_filterMap.mp h
  split at hj
  · cases hj
  · rename_i w hw h2
    cases hj
    exact ⟨h2, fun e => hw e⟩
  · cases hj
theorem LH.has {ls : Array Slot} {nL : Nat} {L : List Value} (h : LH ls nL L) : lv_has ls nL (asl L) := ⟨h.1, h.2.1, fun q hq => (h.2.2 q.1 q.2 (asl_of hq).1 (asl_of hq).2).2⟩
theorem LH.set {ls ls' : Array Slot} {nL i : Nat} {L : List Value} {v : Value} (h : LH ls nL L) (hv : v.category = 1) (h' : lv_has ls' nL ((i, v) :: (asl L).filter (fun q => !(q.1 == i) && !(q.1 + 1 == i && q.2.category == 2)))) : LH ls' nL (L.set i v) := by
  refine ⟨h'.1, h'.2.1, fun j w hj hw => ?_⟩
  rw [List.getElem?_set] at hj
  by_cases hi : i = j
  · subst hi
    rw [if_pos rfl] at hj
    split at hj
    · cases hj
      exact ⟨hv, h'.2.2 (i, v) List.mem_cons_self⟩
    · cases hj
  · rw [if_neg hi] at hj
    have hc := (h.2.2 j w hj hw).1
    refine ⟨hc, h'.2.2 (j, w) (List.mem_cons_of_mem _ (List.mem_filter.mpr ⟨asl_mem hj hw, ?_⟩))⟩
    simp [Ne.symm hi, hc]
/-- fewer locals are told -/
def lsub : List Value → List Value → Prop
  | [], _ => True
  | .null :: l, _ :: l' => lsub l l'
  | v :: l, w :: l' => v = w ∧ lsub l l'
  | _ :: _, [] => False
theorem lsub_at : ∀ (l l' : List Value), lsub l l' → ∀ (i : Nat) (v : Value), l[i]? = some v → v ≠ .null → l'[i]? = some v
  | [], _, _, i, v, h, _ => by simp at h
  | x :: l, [], h, i, v, hi, hv => by
    cases x <;> simp [lsub] at h
  | x :: l, y :: l', h, i, v, hi, hv => by
    have h2 : (x = .null ∨ x = y) ∧ lsub l l' := by
      cases x <;> first | exact ⟨Or.inl rfl, h⟩ | exact ⟨Or.inr h.1, h.2⟩
    cases i with
    | zero =>
      simp at hi
      subst hi
      rcases h2.1 with e | e
      · exact absurd e hv
      · simp [e]
    | succ i =>
      simp at hi
      simpa using lsub_at l l' h2.2 i v hi hv
theorem LH.weak {ls : Array Slot} {nL : Nat} {L L' : List Value} (h : LH ls nL L) (hs : lsub L' L) : LH ls nL L' := ⟨h.1, h.2.1, fun i v hi hv => h.2.2 i v (lsub_at L' L hs i v hi hv) hv⟩
/-! ===== the judgement ===== -/
abbrev Cx : Type := Ce × Program × Env × Room × State × MethodId × Array Value × List Frame × Method × Code × (Int32 → St → State → Prop)
def Cx.E (X : Cx) : Ce := X.1
def Cx.p (X : Cx) : Program := X.2.1
def Cx.e (X : Cx) : Env := X.2.2.1
def Cx.R (X : Cx) : Room := X.2.2.2.1
def Cx.s (X : Cx) : State := X.2.2.2.2.1
def Cx.m (X : Cx) : MethodId := X.2.2.2.2.2.1
def Cx.args (X : Cx) : Array Value := X.2.2.2.2.2.2.1
def Cx.below (X : Cx) : List Frame := X.2.2.2.2.2.2.2.1
def Cx.meth (X : Cx) : Method := X.2.2.2.2.2.2.2.2.1
def Cx.c (X : Cx) : Code := X.2.2.2.2.2.2.2.2.2.1
def Cx.Q (X : Cx) : Int32 → St → State → Prop := X.2.2.2.2.2.2.2.2.2.2
abbrev Cx.B (X : Cx) : Nat := X.E.B
/-- from here (at pc, with these locals and this operand stack, the store being s) the method comes to the end that o tells -/
def G (X : Cx) (pc : Nat) (L S : List Value) (s : St) (o : Option (Int32 × St)) : Prop :=
  ∀ (r : Int32) (s' : St), o = some (r, s') → ∀ (H : Heap) (locs : List Loc) (ls : Array Slot), va_P X.E.D vwCl (wl X.E s) H → va_S (AA X.E) X.s.heap H locs → LH ls X.c.maxLocals L → W X.p X.E.l X.e X.R X.s X.m X.args X.below X.meth X.c H locs 0 0 (X.Q r s') (F0 X.m pc ls S)
def Ok (X : Cx) (cc : ByteArray) (own : String) (nL d : Nat) : Prop :=
  X.p.tables.exec = Jvm.exec ∧ X.c.code = cc ∧ X.s.vm.findClass own = some X.m.cls ∧ (∀ w ∈ TB, w.before X.args X.s = true) ∧ (∀ w ∈ NB, va_Nw w X.s) ∧ va_K X.E.D vwCl (tys X.E) X.s ∧ X.c.maxLocals = nL ∧ d ≤ X.R.frames ∧ 40 * d ≤ X.R.locals
/-- what a return at its end means -/
def RI (X : Cx) (cc : ByteArray) : Prop := ∀ (pc : Nat) (v : Int32) (s : St) (H : Heap) (locs : List Loc) (ls : Array Slot), decode cc pc = .ok (.ireturn, 1) → va_P X.E.D vwCl (wl X.E s) H → va_S (AA X.E) X.s.heap H locs → W X.p X.E.l X.e X.R X.s X.m X.args X.below X.meth X.c H locs 0 0 (X.Q v s) (F0 X.m pc ls [.int v])
def RZ (X : Cx) (cc : ByteArray) : Prop := ∀ (pc : Nat) (v : Int32) (s : St) (H : Heap) (locs : List Loc) (ls : Array Slot), v = 0 ∨ v = 1 → decode cc pc = .ok (.ireturn, 1) → va_P X.E.D vwCl (wl X.E s) H → va_S (AA X.E) X.s.heap H locs → W X.p X.E.l X.e X.R X.s X.m X.args X.below X.meth X.c H locs 0 0 (X.Q v s) (F0 X.m pc ls [.int v])
def RV (X : Cx) (cc : ByteArray) : Prop := ∀ (pc : Nat) (s : St) (H : Heap) (locs : List Loc) (ls : Array Slot), decode cc pc = .ok (.return_, 1) → va_P X.E.D vwCl (wl X.E s) H → va_S (AA X.E) X.s.heap H locs → W X.p X.E.l X.e X.R X.s X.m X.args X.below X.meth X.c H locs 0 0 (X.Q 0 s) (F0 X.m pc ls [])
section
variable {X : Cx} {cc : ByteArray} {own : String} {nL d pc : Nat} {L S : List Value} {s : St} {o o1 o2 : Option (Int32 × St)}
theorem g_none : G X pc L S s none := fun r s' e => by cases e
theorem g_weak {L' : List Value} (hs : lsub L' L) (h : G X pc L' S s o) : G X pc L S s o := fun r s' e H locs ls hP hS hL => h r s' e H locs ls hP hS (hL.weak hs)
theorem g_jn {κ : Type} {k : κ} {f : κ → Option (Int32 × St)} (P : κ → Prop) (hk : P k) (hf : ∀ k', P k' → G X pc L S s (f k')) : G X pc L S s (jn k f) := hf k hk
theorem g_if {c : Prop} [Decidable c] (h1 : c → G X pc L S s o1) (h2 : ¬ c → G X pc L S s o2) : G X pc L S s (if c then o1 else o2) := by
  by_cases q : c
  · rw [if_pos q]; exact h1 q
  · rw [if_neg q]; exact h2 q
theorem g_ir (h : RI X cc) {v : Int32} (hd : decode cc pc = .ok (.ireturn, 1)) : G X pc L [.int v] s (some (v, s)) := by
  intro r s' e H locs ls hP hS hL
  cases e
  exact h pc v s H locs ls hd hP hS
theorem g_zr (h : RZ X cc) {v : Int32} (hd : decode cc pc = .ok (.ireturn, 1)) : G X pc L [.int v] s (rz v s) := by
  intro r s' e H locs ls hP hS hL
  unfold rz at e
  split at e
  · cases e
    exact h pc v s H locs ls (by assumption) hd hP hS
  · cases e
theorem g_zr0 (h : RZ X cc) (hd : decode cc pc = .ok (.ireturn, 1)) : G X pc L [.int 0] s (some (0, s)) := by
  intro r s' e H locs ls hP hS hL
  cases e
  exact h pc 0 s H locs ls (Or.inl rfl) hd hP hS
theorem g_zr1 (h : RZ X cc) (hd : decode cc pc = .ok (.ireturn, 1)) : G X pc L [.int 1] s (some (1, s)) := by
  intro r s' e H locs ls hP hS hL
  cases e
  exact h pc 1 s H locs ls (Or.inr rfl) hd hP hS
theorem g_vr (h : RV X cc) (hd : decode cc pc = .ok (.return_, 1)) : G X pc L [] s (some (0, s)) := by
  intro r s' e H locs ls hP hS hL
  cases e
  exact h pc s H locs ls hd hP hS
theorem g_iconst (K : Ok X cc own nL d) {n : Int} (v : Int32) (hd : decode cc pc = .ok (.iconst n, 1)) (hv : Int32.ofInt n = v) (h : G X (pc + 1) L (.int v :: S) s o) : G X pc L S s o :=
  fun r s' e H locs ls hP hS hL => lv_iconst K.1 K.2.1 hd hv (h r s' e H locs ls hP hS hL)
theorem g_bipush (K : Ok X cc own nL d) {n : Int} (v : Int32) (hd : decode cc pc = .ok (.bipush n, 2)) (hv : (Int8.ofInt n).toInt32 = v) (h : G X (pc + 2) L (.int v :: S) s o) : G X pc L S s o :=
  fun r s' e H locs ls hP hS hL => lv_bipush K.1 K.2.1 hd hv (h r s' e H locs ls hP hS hL)
theorem g_sipush (K : Ok X cc own nL d) {n : Int} (v : Int32) (hd : decode cc pc = .ok (.sipush n, 3)) (hv : (Int16.ofInt n).toInt32 = v) (h : G X (pc + 3) L (.int v :: S) s o) : G X pc L S s o :=
  fun r s' e H locs ls hP hS hL => lv_sipush K.1 K.2.1 hd hv (h r s' e H locs ls hP hS hL)
theorem g_lconst (K : Ok X cc own nL d) {n : Fin 2} (v : Int64) (hd : decode cc pc = .ok (.lconst n, 1)) (hv : Int64.ofNat (n : Nat) = v) (h : G X (pc + 1) L (.long v :: S) s o) : G X pc L S s o :=
  fun r s' e H locs ls hP hS hL => lv_lconst K.1 K.2.1 hd hv (h r s' e H locs ls hP hS hL)
theorem g_ldc (K : Ok X cc own nL d) {ix : Nat} {v : Int32} (hw : Cond.constant own ix v ∈ TB) (hd : decode cc pc = .ok (.ldc ix, 2)) (h : G X (pc + 2) L (.int v :: S) s o) : G X pc L S s o :=
  fun r s' e H locs ls hP hS hL => lv_ldc K.1 K.2.1 K.2.2.1 (K.2.2.2.1 _ hw) hd (h r s' e H locs ls hP hS hL)
theorem g_ldcw (K : Ok X cc own nL d) {ix : Nat} {v : Int32} (hw : Cond.constant own ix v ∈ TB) (hd : decode cc pc = .ok (.ldc_w ix, 3)) (h : G X (pc + 3) L (.int v :: S) s o) : G X pc L S s o :=
  fun r s' e H locs ls hP hS hL => lv_ldcw K.1 K.2.1 K.2.2.1 (K.2.2.2.1 _ hw) hd (h r s' e H locs ls hP hS hL)
theorem g_ldc2 (K : Ok X cc own nL d) {ix : Nat} {v : Int64} (hw : Cond.constantLong own ix v ∈ TB) (hd : decode cc pc = .ok (.ldc2_w ix, 3)) (h : G X (pc + 3) L (.long v :: S) s o) : G X pc L S s o :=
  fun r s' e H locs ls hP hS hL => lv_ldc2 K.1 K.2.1 K.2.2.1 (K.2.2.2.1 _ hw) hd (h r s' e H locs ls hP hS hL)
theorem g_iload_n (K : Ok X cc own nL d) {k : Fin 4} (i : Nat) {x : Int32} (hd : decode cc pc = .ok (.iload_n k, 1)) (hi : (k : Nat) = i) (hl : L[i]? = some (.int x)) (h : G X (pc + 1) L (.int x :: S) s o) : G X pc L S s o :=
  fun r s' e H locs ls hP hS hL => lv_iload_n K.1 K.2.1 hd hi (hL.2.2 i _ hl (fun q => by cases q)).2 (h r s' e H locs ls hP hS hL)
theorem g_iload (K : Ok X cc own nL d) {i : Nat} {x : Int32} (hd : decode cc pc = .ok (.iload i, 2)) (hl : L[i]? = some (.int x)) (h : G X (pc + 2) L (.int x :: S) s o) : G X pc L S s o :=
  fun r s' e H locs ls hP hS hL => lv_iload K.1 K.2.1 hd (hL.2.2 i _ hl (fun q => by cases q)).2 (h r s' e H locs ls hP hS hL)
theorem g_aload_n (K : Ok X cc own nL d) {k : Fin 4} (i : Nat) {x : Nat} (hd : decode cc pc = .ok (.aload_n k, 1)) (hi : (k : Nat) = i) (hl : L[i]? = some (.ref x)) (h : G X (pc + 1) L (.ref x :: S) s o) : G X pc L S s o :=
  fun r s' e H locs ls hP hS hL => lv_aload_n K.1 K.2.1 hd hi (hL.2.2 i _ hl (fun q => by cases q)).2 (h r s' e H locs ls hP hS hL)
theorem g_aload (K : Ok X cc own nL d) {i : Nat} {x : Nat} (hd : decode cc pc = .ok (.aload i, 2)) (hl : L[i]? = some (.ref x)) (h : G X (pc + 2) L (.ref x :: S) s o) : G X pc L S s o :=
  fun r s' e H locs ls hP hS hL => lv_aload K.1 K.2.1 hd (hL.2.2 i _ hl (fun q => by cases q)).2 (h r s' e H locs ls hP hS hL)
theorem g_istore_n (K : Ok X cc own nL d) {k : Fin 4} (i : Nat) {x : Int32} (hd : decode cc pc = .ok (.istore_n k, 1)) (hi : (k : Nat) = i) (hn : i < nL) (h : G X (pc + 1) (L.set i (.int x)) S s o) : G X pc L (.int x :: S) s o :=
  fun r s' e H locs ls hP hS hL => lv_istore_n K.1 K.2.1 hd hi hL.has (by rw [K.2.2.2.2.2.2.1]; exact hn) rfl (fun ls' h' => h r s' e H locs ls' hP hS (hL.set rfl h'))
theorem g_istore (K : Ok X cc own nL d) {i : Nat} {x : Int32} (hd : decode cc pc = .ok (.istore i, 2)) (hn : i < nL) (h : G X (pc + 2) (L.set i (.int x)) S s o) : G X pc L (.int x :: S) s o :=
  fun r s' e H locs ls hP hS hL => lv_istore K.1 K.2.1 hd hL.has (by rw [K.2.2.2.2.2.2.1]; exact hn) rfl (fun ls' h' => h r s' e H locs ls' hP hS (hL.set rfl h'))
theorem g_iinc (K : Ok X cc own nL d) {i : Nat} {n : Int} {x : Int32} (v : Int32) (hd : decode cc pc = .ok (.iinc i n, 3)) (hl : L[i]? = some (.int x)) (hv : Int32.ofInt n = v) (hn : i < nL) (h : G X (pc + 3) (L.set i (.int (x + v))) S s o) : G X pc L S s o := by
  intro r s' e H locs ls hP hS hL
  obtain ⟨q, hq⟩ := List.getElem?_of_mem (asl_mem hl (fun q => by cases q))
  exact lv_iinc (v := x + v) K.1 K.2.1 hd hL.has hq (by rw [hv]) (by rw [K.2.2.2.2.2.2.1]; exact hn) rfl (fun ls' h' => h r s' e H locs ls' hP hS (hL.set rfl h'))
theorem g_dup (K : Ok X cc own nL d) {v : Value} (hd : decode cc pc = .ok (.dup, 1)) (hv : v.category = 1) (h : G X (pc + 1) L (v :: v :: S) s o) : G X pc L (v :: S) s o :=
  fun r s' e H locs ls hP hS hL => lv_dup K.1 K.2.1 hd hv (h r s' e H locs ls hP hS hL)
theorem g_dup2 (K : Ok X cc own nL d) {v w : Value} (hd : decode cc pc = .ok (.dup2, 1)) (hv : v.category = 1) (hw : w.category = 1) (h : G X (pc + 1) L (v :: w :: v :: w :: S) s o) : G X pc L (v :: w :: S) s o :=
  fun r s' e H locs ls hP hS hL => lv_dup2_11 K.1 K.2.1 hd hv hw (h r s' e H locs ls hP hS hL)
theorem g_pop (K : Ok X cc own nL d) {v : Value} (hd : decode cc pc = .ok (.pop, 1)) (hv : v.category = 1) (h : G X (pc + 1) L S s o) : G X pc L (v :: S) s o :=
  fun r s' e H locs ls hP hS hL => lv_pop K.1 K.2.1 hd hv (h r s' e H locs ls hP hS hL)
theorem g_goto (K : Ok X cc own nL d) {off : Int} (tgt : Nat) (hd : decode cc pc = .ok (.goto off, 3)) (ht : (pc : Int) + off = (tgt : Int)) (h : G X tgt L S s o) : G X pc L S s o :=
  fun r s' e H locs ls hP hS hL => lv_goto K.1 K.2.1 hd ht (h r s' e H locs ls hP hS hL)
theorem g_iadd (K : Ok X cc own nL d) {x y : Int32} (hd : decode cc pc = .ok (.iadd, 1)) (h : G X (pc + 1) L (.int (x + y) :: S) s o) : G X pc L (.int y :: .int x :: S) s o :=
  fun r s' e H locs ls hP hS hL => lv_iadd K.1 K.2.1 hd (h r s' e H locs ls hP hS hL)
theorem g_isub (K : Ok X cc own nL d) {x y : Int32} (hd : decode cc pc = .ok (.isub, 1)) (h : G X (pc + 1) L (.int (x - y) :: S) s o) : G X pc L (.int y :: .int x :: S) s o :=
  fun r s' e H locs ls hP hS hL => lv_isub K.1 K.2.1 hd (h r s' e H locs ls hP hS hL)
theorem g_imul (K : Ok X cc own nL d) {x y : Int32} (hd : decode cc pc = .ok (.imul, 1)) (h : G X (pc + 1) L (.int (x * y) :: S) s o) : G X pc L (.int y :: .int x :: S) s o :=
  fun r s' e H locs ls hP hS hL => lv_imul K.1 K.2.1 hd (h r s' e H locs ls hP hS hL)
theorem g_iand (K : Ok X cc own nL d) {x y : Int32} (hd : decode cc pc = .ok (.iand, 1)) (h : G X (pc + 1) L (.int (x &&& y) :: S) s o) : G X pc L (.int y :: .int x :: S) s o :=
  fun r s' e H locs ls hP hS hL => lv_iand K.1 K.2.1 hd (h r s' e H locs ls hP hS hL)
theorem g_ior (K : Ok X cc own nL d) {x y : Int32} (hd : decode cc pc = .ok (.ior, 1)) (h : G X (pc + 1) L (.int (x ||| y) :: S) s o) : G X pc L (.int y :: .int x :: S) s o :=
  fun r s' e H locs ls hP hS hL => lv_ior K.1 K.2.1 hd (h r s' e H locs ls hP hS hL)
theorem g_ixor (K : Ok X cc own nL d) {x y : Int32} (hd : decode cc pc = .ok (.ixor, 1)) (h : G X (pc + 1) L (.int (x ^^^ y) :: S) s o) : G X pc L (.int y :: .int x :: S) s o :=
  fun r s' e H locs ls hP hS hL => lv_ixor K.1 K.2.1 hd (h r s' e H locs ls hP hS hL)
theorem g_ishl (K : Ok X cc own nL d) {x y : Int32} (hd : decode cc pc = .ok (.ishl, 1)) (h : G X (pc + 1) L (.int (x <<< (y &&& 31)) :: S) s o) : G X pc L (.int y :: .int x :: S) s o :=
  fun r s' e H locs ls hP hS hL => lv_ishl K.1 K.2.1 hd (h r s' e H locs ls hP hS hL)
theorem g_ishr (K : Ok X cc own nL d) {x y : Int32} (hd : decode cc pc = .ok (.ishr, 1)) (h : G X (pc + 1) L (.int (x >>> (y &&& 31)) :: S) s o) : G X pc L (.int y :: .int x :: S) s o :=
  fun r s' e H locs ls hP hS hL => lv_ishr K.1 K.2.1 hd (h r s' e H locs ls hP hS hL)
theorem g_ineg (K : Ok X cc own nL d) {x : Int32} (hd : decode cc pc = .ok (.ineg, 1)) (h : G X (pc + 1) L (.int (-x) :: S) s o) : G X pc L (.int x :: S) s o :=
  fun r s' e H locs ls hP hS hL => lv_ineg K.1 K.2.1 hd (h r s' e H locs ls hP hS hL)
theorem g_ladd (K : Ok X cc own nL d) {x y : Int64} (hd : decode cc pc = .ok (.ladd, 1)) (h : G X (pc + 1) L (.long (x + y) :: S) s o) : G X pc L (.long y :: .long x :: S) s o :=
  fun r s' e H locs ls hP hS hL => lv_ladd K.1 K.2.1 hd (h r s' e H locs ls hP hS hL)
theorem g_icmp_eq (K : Ok X cc own nL d) {x y : Int32} {off : Int} (tgt : Nat) (hd : decode cc pc = .ok (.if_icmp .eq off, 3)) (ht : (pc : Int) + off = (tgt : Int)) (h1 : G X tgt L S s o1) (h2 : G X (pc + 3) L S s o2) : G X pc L (.int y :: .int x :: S) s (if x = y then o1 else o2) :=
  fun r s' e H locs ls hP hS hL => lv_icmp_eq K.1 K.2.1 hd ht (fun q => h1 r s' (by rw [if_pos (by first | exact q | exact (fun z => q z))] at e; exact e) H locs ls hP hS hL) (fun q => h2 r s' (by rw [if_neg q] at e; exact e) H locs ls hP hS hL)
theorem g_if_eq (K : Ok X cc own nL d) {x : Int32} {off : Int} (tgt : Nat) (hd : decode cc pc = .ok (.ifCond .eq off, 3)) (ht : (pc : Int) + off = (tgt : Int)) (h1 : G X tgt L S s o1) (h2 : G X (pc + 3) L S s o2) : G X pc L (.int x :: S) s (if x = 0 then o1 else o2) :=
  fun r s' e H locs ls hP hS hL => lv_if_eq K.1 K.2.1 hd ht (fun q => h1 r s' (by rw [if_pos (by first | exact q | exact (fun z => q z))] at e; exact e) H locs ls hP hS hL) (fun q => h2 r s' (by rw [if_neg q] at e; exact e) H locs ls hP hS hL)
theorem g_icmp_lt (K : Ok X cc own nL d) {x y : Int32} {off : Int} (tgt : Nat) (hd : decode cc pc = .ok (.if_icmp .lt off, 3)) (ht : (pc : Int) + off = (tgt : Int)) (h1 : G X tgt L S s o1) (h2 : G X (pc + 3) L S s o2) : G X pc L (.int y :: .int x :: S) s (if x < y then o1 else o2) :=
  fun r s' e H locs ls hP hS hL => lv_icmp_lt K.1 K.2.1 hd ht (fun q => h1 r s' (by rw [if_pos (by first | exact q | exact (fun z => q z))] at e; exact e) H locs ls hP hS hL) (fun q => h2 r s' (by rw [if_neg q] at e; exact e) H locs ls hP hS hL)
theorem g_if_lt (K : Ok X cc own nL d) {x : Int32} {off : Int} (tgt : Nat) (hd : decode cc pc = .ok (.ifCond .lt off, 3)) (ht : (pc : Int) + off = (tgt : Int)) (h1 : G X tgt L S s o1) (h2 : G X (pc + 3) L S s o2) : G X pc L (.int x :: S) s (if x < 0 then o1 else o2) :=
  fun r s' e H locs ls hP hS hL => lv_if_lt K.1 K.2.1 hd ht (fun q => h1 r s' (by rw [if_pos (by first | exact q | exact (fun z => q z))] at e; exact e) H locs ls hP hS hL) (fun q => h2 r s' (by rw [if_neg q] at e; exact e) H locs ls hP hS hL)
theorem g_icmp_ge (K : Ok X cc own nL d) {x y : Int32} {off : Int} (tgt : Nat) (hd : decode cc pc = .ok (.if_icmp .ge off, 3)) (ht : (pc : Int) + off = (tgt : Int)) (h1 : G X tgt L S s o1) (h2 : G X (pc + 3) L S s o2) : G X pc L (.int y :: .int x :: S) s (if y ≤ x then o1 else o2) :=
  fun r s' e H locs ls hP hS hL => lv_icmp_ge K.1 K.2.1 hd ht (fun q => h1 r s' (by rw [if_pos (by first | exact q | exact (fun z => q z))] at e; exact e) H locs ls hP hS hL) (fun q => h2 r s' (by rw [if_neg q] at e; exact e) H locs ls hP hS hL)
theorem g_if_ge (K : Ok X cc own nL d) {x : Int32} {off : Int} (tgt : Nat) (hd : decode cc pc = .ok (.ifCond .ge off, 3)) (ht : (pc : Int) + off = (tgt : Int)) (h1 : G X tgt L S s o1) (h2 : G X (pc + 3) L S s o2) : G X pc L (.int x :: S) s (if 0 ≤ x then o1 else o2) :=
  fun r s' e H locs ls hP hS hL => lv_if_ge K.1 K.2.1 hd ht (fun q => h1 r s' (by rw [if_pos (by first | exact q | exact (fun z => q z))] at e; exact e) H locs ls hP hS hL) (fun q => h2 r s' (by rw [if_neg q] at e; exact e) H locs ls hP hS hL)
theorem g_icmp_gt (K : Ok X cc own nL d) {x y : Int32} {off : Int} (tgt : Nat) (hd : decode cc pc = .ok (.if_icmp .gt off, 3)) (ht : (pc : Int) + off = (tgt : Int)) (h1 : G X tgt L S s o1) (h2 : G X (pc + 3) L S s o2) : G X pc L (.int y :: .int x :: S) s (if y < x then o1 else o2) :=
  fun r s' e H locs ls hP hS hL => lv_icmp_gt K.1 K.2.1 hd ht (fun q => h1 r s' (by rw [if_pos (by first | exact q | exact (fun z => q z))] at e; exact e) H locs ls hP hS hL) (fun q => h2 r s' (by rw [if_neg q] at e; exact e) H locs ls hP hS hL)
theorem g_if_gt (K : Ok X cc own nL d) {x : Int32} {off : Int} (tgt : Nat) (hd : decode cc pc = .ok (.ifCond .gt off, 3)) (ht : (pc : Int) + off = (tgt : Int)) (h1 : G X tgt L S s o1) (h2 : G X (pc + 3) L S s o2) : G X pc L (.int x :: S) s (if 0 < x then o1 else o2) :=
  fun r s' e H locs ls hP hS hL => lv_if_gt K.1 K.2.1 hd ht (fun q => h1 r s' (by rw [if_pos (by first | exact q | exact (fun z => q z))] at e; exact e) H locs ls hP hS hL) (fun q => h2 r s' (by rw [if_neg q] at e; exact e) H locs ls hP hS hL)
theorem g_icmp_le (K : Ok X cc own nL d) {x y : Int32} {off : Int} (tgt : Nat) (hd : decode cc pc = .ok (.if_icmp .le off, 3)) (ht : (pc : Int) + off = (tgt : Int)) (h1 : G X tgt L S s o1) (h2 : G X (pc + 3) L S s o2) : G X pc L (.int y :: .int x :: S) s (if x ≤ y then o1 else o2) :=
  fun r s' e H locs ls hP hS hL => lv_icmp_le K.1 K.2.1 hd ht (fun q => h1 r s' (by rw [if_pos (by first | exact q | exact (fun z => q z))] at e; exact e) H locs ls hP hS hL) (fun q => h2 r s' (by rw [if_neg q] at e; exact e) H locs ls hP hS hL)
theorem g_if_le (K : Ok X cc own nL d) {x : Int32} {off : Int} (tgt : Nat) (hd : decode cc pc = .ok (.ifCond .le off, 3)) (ht : (pc : Int) + off = (tgt : Int)) (h1 : G X tgt L S s o1) (h2 : G X (pc + 3) L S s o2) : G X pc L (.int x :: S) s (if x ≤ 0 then o1 else o2) :=
  fun r s' e H locs ls hP hS hL => lv_if_le K.1 K.2.1 hd ht (fun q => h1 r s' (by rw [if_pos (by first | exact q | exact (fun z => q z))] at e; exact e) H locs ls hP hS hL) (fun q => h2 r s' (by rw [if_neg q] at e; exact e) H locs ls hP hS hL)
theorem g_icmp_ne (K : Ok X cc own nL d) {x y : Int32} {off : Int} (tgt : Nat) (hd : decode cc pc = .ok (.if_icmp .ne off, 3)) (ht : (pc : Int) + off = (tgt : Int)) (h1 : G X tgt L S s o1) (h2 : G X (pc + 3) L S s o2) : G X pc L (.int y :: .int x :: S) s (if x = y then o2 else o1) :=
  fun r s' e H locs ls hP hS hL => lv_icmp_ne K.1 K.2.1 hd ht (fun q => h1 r s' (by rw [if_neg q] at e; exact e) H locs ls hP hS hL) (fun q => h2 r s' (by rw [if_pos q] at e; exact e) H locs ls hP hS hL)
theorem g_if_ne (K : Ok X cc own nL d) {x : Int32} {off : Int} (tgt : Nat) (hd : decode cc pc = .ok (.ifCond .ne off, 3)) (ht : (pc : Int) + off = (tgt : Int)) (h1 : G X tgt L S s o1) (h2 : G X (pc + 3) L S s o2) : G X pc L (.int x :: S) s (if x = 0 then o2 else o1) :=
  fun r s' e H locs ls hP hS hL => lv_if_ne K.1 K.2.1 hd ht (fun q => h1 r s' (by rw [if_neg q] at e; exact e) H locs ls hP hS hL) (fun q => h2 r s' (by rw [if_pos q] at e; exact e) H locs ls hP hS hL)
theorem g_idiv (K : Ok X cc own nL d) {x y : Int32} (hd : decode cc pc = .ok (.idiv, 1)) (h : G X (pc + 1) L (.int (x / y) :: S) s o) : G X pc L (.int y :: .int x :: S) s (dv y o) := by
  intro r s' e H locs ls hP hS hL
  unfold dv at e
  split at e
  · cases e
  · rename_i hne
    exact lv_idiv K.1 K.2.1 hd hne (h r s' e H locs ls hP hS hL)
theorem g_irem (K : Ok X cc own nL d) {x y : Int32} (hd : decode cc pc = .ok (.irem, 1)) (h : G X (pc + 1) L (.int (x - x / y * y) :: S) s o) : G X pc L (.int y :: .int x :: S) s (dv y o) := by
  intro r s' e H locs ls hP hS hL
  unfold dv at e
  split at e
  · cases e
  · rename_i hne
    exact lv_irem K.1 K.2.1 hd hne (h r s' e H locs ls hP hS hL)
theorem g_i2c (K : Ok X cc own nL d) {x : Int32} (hd : decode cc pc = .ok (.i2c, 1)) (h : G X (pc + 1) L (.int (x.toUInt32 % 65536).toInt32 :: S) s o) : G X pc L (.int x :: S) s o :=
  fun r s' e H locs ls hP hS hL => lv_i2c K.1 K.2.1 hd rfl (h r s' e H locs ls hP hS hL)
theorem g_iushr (K : Ok X cc own nL d) {x y : Int32} (hd : decode cc pc = .ok (.iushr, 1)) (h : G X (pc + 1) L (.int (x.toUInt32 >>> (y.toUInt32 &&& Int32.toUInt32 31)).toInt32 :: S) s o) : G X pc L (.int y :: .int x :: S) s o :=
  fun r s' e H locs ls hP hS hL => lv_iushr K.1 K.2.1 hd rfl (h r s' e H locs ls hP hS hL)
/-! arrays -/
theorem g_iaload (K : Ok X cc own nL d) {k n : Nat} {i : Int32} (hk : k < 80) (hkd : kd k = 8) (hn : ln k = n) {c : Int32 → Option (Int32 × St)} (hd : decode cc pc = .ok (.iaload, 1)) (h : ∀ v, G X (pc + 1) L (.int v :: S) s (c v)) : G X pc L (.int i :: .ref (X.B + k) :: S) s (rd s k n i c) := by
  intro r s' e H locs ls hP hS hL
  unfold rd at e
  split at e
  · rename_i hin
    have hat := wl_at X.E s hk
    rw [ce_8 hkd] at hat
    exact va_iald K.1 K.2.1 K.2.2.2.2.2.1 hP k 0 hat rfl (by rw [hn]; exact hin) hd (h _ r s' e H locs ls hP hS hL)
  · cases e
theorem g_caload (K : Ok X cc own nL d) {k n : Nat} {i : Int32} (hk : k < 80) (hkd : kd k = 9) (hn : ln k = n) {c : Int32 → Option (Int32 × St)} (hd : decode cc pc = .ok (.caload, 1)) (h : ∀ v, G X (pc + 1) L (.int v :: S) s (c v)) : G X pc L (.int i :: .ref (X.B + k) :: S) s (rd s k n i c) := by
  intro r s' e H locs ls hP hS hL
  unfold rd at e
  split at e
  · rename_i hin
    have hat := wl_at X.E s hk
    rw [ce_9 hkd] at hat
    exact va_cald K.1 K.2.1 K.2.2.2.2.2.1 hP k 1 hat rfl (by rw [hn]; exact hin) hd (h _ r s' e H locs ls hP hS hL)
  · cases e
theorem g_baload (K : Ok X cc own nL d) {k n : Nat} {i : Int32} (hk : k < 80) (hkd : kd k = 10) (hn : ln k = n) {c : Int32 → Option (Int32 × St)} (hd : decode cc pc = .ok (.baload, 1)) (h : ∀ v, G X (pc + 1) L (.int v :: S) s (c v)) : G X pc L (.int i :: .ref (X.B + k) :: S) s (rd s k n i c) := by
  intro r s' e H locs ls hP hS hL
  unfold rd at e
  split at e
  · rename_i hin
    have hat := wl_at X.E s hk
    rw [ce_10 hkd] at hat
    exact va_zald K.1 K.2.1 K.2.2.2.2.2.1 hP k 2 hat rfl (by rw [hn]; exact hin) hd (h _ r s' e H locs ls hP hS hL)
  · cases e
theorem g_iastore (K : Ok X cc own nL d) {k n : Nat} {i v : Int32} (hk : k < 80) (hkd : kd k = 8) (hn : ln k = n) {c : St → Option (Int32 × St)} (hd : decode cc pc = .ok (.iastore, 1)) (h : ∀ s1, G X (pc + 1) L S s1 (c s1)) : G X pc L (.int v :: .int i :: .ref (X.B + k) :: S) s (wr s k n i v c) := by
  intro r s' e H locs ls hP hS hL
  unfold wr at e
  split at e
  · rename_i hin
    have hat := wl_at X.E s hk
    rw [ce_8 hkd] at hat
    have hset := wl_set X.E s (up s k i.toNatClampNeg v) hk (fun j hj => ⟨by simp [up, va_up, hj], rfl⟩)
    rw [ce_8 hkd] at hset
    have hf : (up s k i.toNatClampNeg v).1 k = upd (s.1 k) i.toNatClampNeg v := by simp [up, va_up]
    rw [hf] at hset
    exact va_iast K.1 K.2.1 K.2.2.2.2.2.1 hP (wl_D X.E s) hS k 0 hat rfl (by rw [hn]; exact hin) hd (fun H1 locs1 hP1 _ hS1 => h _ r s' e H1 locs1 ls (by rw [hset] at hP1; exact hP1) hS1 hL)
  · cases e
theorem g_castore (K : Ok X cc own nL d) {k n : Nat} {i v : Int32} (hk : k < 80) (hkd : kd k = 9) (hn : ln k = n) {c : St → Option (Int32 × St)} (hd : decode cc pc = .ok (.castore, 1)) (h : ∀ s1, G X (pc + 1) L S s1 (c s1)) : G X pc L (.int v :: .int i :: .ref (X.B + k) :: S) s (wr s k n i (vp_nar .char v) c) := by
  intro r s' e H locs ls hP hS hL
  unfold wr at e
  split at e
  · rename_i hin
    have hat := wl_at X.E s hk
    rw [ce_9 hkd] at hat
    have hset := wl_set X.E s (up s k i.toNatClampNeg (vp_nar .char v)) hk (fun j hj => ⟨by simp [up, va_up, hj], rfl⟩)
    rw [ce_9 hkd] at hset
    have hf : (up s k i.toNatClampNeg (vp_nar .char v)).1 k = upd (s.1 k) i.toNatClampNeg (vp_nar .char v) := by simp [up, va_up]
    rw [hf] at hset
    exact va_cast K.1 K.2.1 K.2.2.2.2.2.1 hP (wl_D X.E s) hS k 1 hat rfl (by rw [hn]; exact hin) hd (fun H1 locs1 hP1 _ hS1 => h _ r s' e H1 locs1 ls (by rw [hset] at hP1; exact hP1) hS1 hL)
  · cases e
theorem g_bastore (K : Ok X cc own nL d) {k n : Nat} {i v : Int32} (hk : k < 80) (hkd : kd k = 10) (hn : ln k = n) {c : St → Option (Int32 × St)} (hd : decode cc pc = .ok (.bastore, 1)) (h : ∀ s1, G X (pc + 1) L S s1 (c s1)) : G X pc L (.int v :: .int i :: .ref (X.B + k) :: S) s (wr s k n i (vp_nar .boolean v) c) := by
  intro r s' e H locs ls hP hS hL
  unfold wr at e
  split at e
  · rename_i hin
    have hat := wl_at X.E s hk
    rw [ce_10 hkd] at hat
    have hset := wl_set X.E s (up s k i.toNatClampNeg (vp_nar .boolean v)) hk (fun j hj => ⟨by simp [up, va_up, hj], rfl⟩)
    rw [ce_10 hkd] at hset
    have hf : (up s k i.toNatClampNeg (vp_nar .boolean v)).1 k = upd (s.1 k) i.toNatClampNeg (vp_nar .boolean v) := by simp [up, va_up]
    rw [hf] at hset
    exact va_zast K.1 K.2.1 K.2.2.2.2.2.1 hP (wl_D X.E s) hS k 2 hat rfl (by rw [hn]; exact hin) hd (fun H1 locs1 hP1 _ hS1 => h _ r s' e H1 locs1 ls (by rw [hset] at hP1; exact hP1) hS1 hL)
  · cases e
theorem g_aald (K : Ok X cc own nL d) {k n : Nat} {i : Int32} (hk : k < 80) (hkd : kd k = 11) (hn : ln k = n) (P : Nat → Prop) (hP0 : ∀ j, j < n → P (k + 1 + 3 * j)) {c : Nat → Option (Int32 × St)} (hd : decode cc pc = .ok (.aaload, 1)) (h : ∀ j, P j → G X (pc + 1) L (.ref (X.B + j) :: S) s (c j)) : G X pc L (.int i :: .ref (X.B + k) :: S) s (ra k n i c) := by
  intro r s' e H locs ls hP hS hL
  unfold ra at e
  split at e
  · rename_i hin
    have hat := wl_at X.E s hk
    rw [ce_11 hkd] at hat
    exact va_aldq K.1 K.2.1 K.2.2.2.2.2.1 hP k 3 hat rfl (by rw [hn]; exact hin) hd (h _ (hP0 _ (Nat.not_le.mp fun q => hin (Or.inr q))) r s' e H locs ls hP hS hL)
  · cases e
/-! fields -/
def lk (own : String) (ix : Nat) (ref n dd : String) : Prop := Cond.fieldLink own ix ref n dd ∈ TB ∨ ∃ host, Cond.fieldLinkNest own ix ref n dd host ∈ NB
theorem g_get (K : Ok X cc own nL d) {k : Nat} (hk : k < 80) {C : String} {T : u_T} {N ci : Nat} {fs : List Value} (hc : vwCl[ci]? = some (C, T, N)) (hin : ∀ w ∈ u_ws C T N, w ∈ TB) (he : cellE X.E k (s.1 k) (s.2 k) = .inr (ci, fs)) (fi : Nat) (hfi : fi < N) {v : Value} (hv : fs[fi]? = some v) {ix : Nat} (hl : lk own ix (T fi).1 (T fi).2.1 (T fi).2.2.1) (hd : decode cc pc = .ok (.getfield ix, 3))
    (h : G X (pc + 3) L (v :: S) s o) : G X pc L (.ref (X.B + k) :: S) s o := by
  intro r s' e H locs ls hP hS hL
  have hat := wl_at X.E s hk
  rw [he] at hat
  rcases hl with hl | ⟨host, hl⟩
  · exact va_get K.1 K.2.1 K.2.2.2.1 hin K.2.2.1 K.2.2.2.2.2.1 hP k hat hc fi hfi (K.2.2.2.1 _ hl) (fun _ q => q) hv hd (h r s' e H locs ls hP hS hL)
  · exact va_getN K.1 K.2.1 K.2.2.2.1 hin K.2.2.1 K.2.2.2.2.2.1 hP k hat hc fi hfi (va_Nw.use (nb_on hl) (K.2.2.2.2.1 _ hl)) (fun _ q => q) hv hd (h r s' e H locs ls hP hS hL)
theorem g_putv (K : Ok X cc own nL d) {k : Nat} (hk : k < 80) {C : String} {T : u_T} {N ci : Nat} {fs : List Value} (hc : vwCl[ci]? = some (C, T, N)) (hin : ∀ w ∈ u_ws C T N, w ∈ TB) (ty0 : Nat → FieldType) (hty : ∀ k, k < N → parseFieldDescriptor (T k).2.2.1 = some (ty0 k)) (hnm : ∀ a, a < N → ∀ b, b < N → a ≠ b → (T a).2.1 ≠ (T b).2.1) (he : cellE X.E k (s.1 k) (s.2 k) = .inr (ci, fs)) (fi : Nat) (hfi : fi < N) {v : Value} (hfin : (T fi).2.2.2 = false) (hlen : fi < fs.length) (hn : narrow (ty0 fi) v = v) (hfit : fits (ty0 fi) v = true)
    {s1 : St} (he1 : cellE X.E k (s1.1 k) (s1.2 k) = .inr (ci, fs.set fi v)) (ho : ∀ j, j ≠ k → s1.1 j = s.1 j ∧ s1.2 j = s.2 j) {ix : Nat} (hl : lk own ix (T fi).1 (T fi).2.1 (T fi).2.2.1) (hd : decode cc pc = .ok (.putfield ix, 3))
    (h : G X (pc + 3) L S s1 o) : G X pc L (v :: .ref (X.B + k) :: S) s o := by
  intro r s' e H locs ls hP hS hL
  have hat := wl_at X.E s hk
  rw [he] at hat
  have hset := wl_set X.E s s1 hk ho
  rw [he1] at hset
  rcases hl with hl | ⟨host, hl⟩
  · exact va_put K.1 K.2.1 K.2.2.2.1 hin ty0 hty hnm K.2.2.1 K.2.2.2.2.2.1 hP (wl_D X.E s) hS k hat hc fi hfi (K.2.2.2.1 _ hl) (fun _ q => q) hfin (hty fi hfi) hn hfit hlen hd (fun H1 locs1 hP1 _ hS1 => h r s' e H1 locs1 ls (by rw [hset] at hP1; exact hP1) hS1 hL)
  · exact va_putN K.1 K.2.1 K.2.2.2.1 hin ty0 hty hnm K.2.2.1 K.2.2.2.2.2.1 hP (wl_D X.E s) hS k hat hc fi hfi (va_Nw.use (nb_on hl) (K.2.2.2.2.1 _ hl)) (fun _ q => q) hfin (hty fi hfi) hn hfit hlen hd (fun H1 locs1 hP1 _ hS1 => h r s' e H1 locs1 ls (by rw [hset] at hP1; exact hP1) hS1 hL)
end
/-! ===== contracts ===== -/
def oc (ret : Option FieldType) (r : Int32) : Outcome := match ret with
  | none => .returned none
  | some _ => .returned (some (.int r))
def Qm (E : Ce) (ret : Option FieldType) (r : Int32) (s' : St) : Array Value → State → Outcome → State → Prop := fun _ st o t => o = oc ret r ∧ va_P E.D vwCl (wl E s') t.heap ∧ va_F (AA E) st t
def Con (E : Ce) (y : MethodName) (cc : ByteArray) (mL : Nat) (ret : Option FieldType) (d : Nat) (as : List Value) (f : St → Option (Int32 × St)) : Prop :=
  ∀ (s : St) (r : Int32) (s' : St), f s = some (r, s') → Met E.l y (.code y cc mL ret :: TB) (rmD d) (va_Pc as (Wd E s)) (Qm E ret r s') 0 0 (AA E)
theorem lv_args_cat : ∀ (as : List Value) (i : Nat), (∀ v ∈ as, v.category = 1) → ∀ (j : Nat) (v : Value), as[j]? = some v → (i + j, v) ∈ lv_args i as
  | [], i, h, j, v, hj => by simp at hj
  | a :: as, i, h, j, v, hj => by
    have ha : a.category = 1 := h a List.mem_cons_self
    cases j with
    | zero =>
      simp at hj
      subst hj
      exact List.mem_cons_self
    | succ j =>
      simp at hj
      refine List.mem_cons_of_mem _ ?_
      rw [if_neg (by rw [ha]; decide)]
      have := lv_args_cat as (i + 1) (fun v hv => h v (List.mem_cons_of_mem _ hv)) j v hj
      rw [show i + (j + 1) = i + 1 + j by omega]
      exact this
theorem LH.entry {as : List Value} {n : Nat} {L : List Value} (hc : ∀ v ∈ as, v.category = 1) (h : (lg_sl as).length ≤ n) (hL : lsub L (as ++ List.replicate L.length .null)) : LH ((lg_sl as ++ List.replicate (n - (lg_sl as).length) Slot.unset).toArray) n L := by
  obtain ⟨h1, h2, h3⟩ := lv_entry as h
  refine ⟨h1, h2, fun i v hi hv => ?_⟩
  have h4 := lsub_at _ _ hL i v hi hv
  have h5 : as[i]? = some v := by
    by_cases hlt : i < as.length
    · rw [List.getElem?_append_left hlt] at h4; exact h4
    · rw [List.getElem?_append_right (by omega), List.getElem?_replicate] at h4
      split at h4
      · cases h4; exact absurd rfl hv
      · cases h4
  have h6 := lv_args_cat as 0 hc i v h5
  rw [Nat.zero_add] at h6
  exact ⟨hc v (List.mem_of_getElem? h5), h3 (i, v) h6⟩
theorem Con.of {E : Ce} {y : MethodName} {cc : ByteArray} {mL : Nat} {ret : Option FieldType} {d : Nat} {as : List Value} {f : St → Option (Int32 × St)} (hy : plainName y.cls = true) (hc : ∀ v ∈ as, v.category = 1) (hl : (lg_sl as).length ≤ mL) (hret : ret = none ∨ ret = some .int ∨ ret = some .boolean) (L : List Value) (hL : lsub L (as ++ List.replicate L.length .null))
    (h : ∀ (X : Cx) (s : St), X.E = E → Ok X cc y.cls mL d → (ret = some .int → RI X cc) → (ret = some .boolean → RZ X cc) → (ret = none → RV X cc) → G X 0 L [] s (f s)) : Con E y cc mL ret d as f := by
  intro s0 r0 s0' e0
  refine Met.ofW (cc := cc) (maxL := mL) (ret := ret) hy rfl ?_
  intro p e s m args below meth c s₁ B hml hv
  obtain ⟨rfl, hP, hK, hN⟩ := hv
  have hx := B.exec
  have hb := B.bytes
  have hr := B.returns
  have hts := atoms_spec (ws := .code y cc mL ret :: TB) B.pre
  have hown : s.vm.findClass y.cls = some m.cls := findClass_of_methodNamed B.named
  have hlocks := B.notSynchronized
  have hS : va_S (AA E) s.heap s.heap [] := va_S.rf
  rw [lg_entry_eq]
  let X : Cx := (E, p, e, rmD d, s, m, as.toArray, below, meth, c, fun r s' => MQ below (Qm E ret r s') as.toArray s 0 0 (AA E))
  have hok : Ok X cc y.cls mL d := ⟨hx, hb, hown, fun w hw => hts w (List.mem_cons_of_mem _ hw), hN, hK, hml, Nat.le_refl _, Nat.le_refl _⟩
  have hg := h X s0 rfl hok
    (fun hre => by
      subst hre
      intro pc v s2 H locs ls hd hP2 hS2
      exact W.iret (v := v) hx hb hr (fun t ht hW => ⟨rfl, by rw [ht]; exact hP2, hS2.F ht⟩) hS2.2.2 hd)
    (fun hre => by
      subst hre
      intro pc v s2 H locs ls hv hd hP2 hS2
      exact W.zret (v := v) hx hb hr (by rcases hv with rfl | rfl <;> rfl) (fun t ht hW => ⟨rfl, by rw [ht]; exact hP2, hS2.F ht⟩) hS2.2.2 hd)
    (fun hre => by
      subst hre
      intro pc s2 H locs ls hd hP2 hS2
      exact W.vret hx hb hr (fun t ht hW => ⟨rfl, by rw [ht]; exact hP2, hS2.F ht⟩) hS2.2.2 hd)
  exact hg r0 s0' e0 s.heap [] _ hP hS (by
    show LH _ c.maxLocals L
    rw [hml]
    exact LH.entry hc hl hL)
/-! ===== calls ===== -/
section
variable {X : Cx} {cc : ByteArray} {own : String} {nL d pc : Nat} {L S : List Value} {s : St}
def psh (ret : Option FieldType) (r : Int32) : List Value := match ret with
  | none => []
  | some _ => [.int r]
theorem wd_blind {E : Ce} {s : St} {as : List Value} : FrameBlind (va_Pc as (Wd E s)) := by
  intro a U g mk q
  obtain ⟨q0, qP, qK, qN⟩ := q
  exact ⟨q0, qP, va_K.moved (u := U) (U := U.calling g mk a) (Vm.Alike.refl U.vm) qK, fun w hw => va_Nw.same (nb_on hw) (rfl : U.vm = (U.calling g mk a).vm) (qN w hw)⟩
theorem wd_pre {E : Ce} {s0 : State} {s : St} {as : List Value} {H : Heap} (hP : va_P E.D vwCl (wl E s) H) (hK : va_K E.D vwCl (tys E) s0) (hN : ∀ w ∈ NB, va_Nw w s0) : ∀ U : State, U.heap = H → s0.WarmedH U.vm → va_Pc as (Wd E s) as.toArray U := fun U hU hW => ⟨rfl, by rw [hU]; exact hP, va_K.moved hW.alike hK, nb_warm hW hN⟩
theorem g_back {p : Program} {l : Launch} {e : Env} {R : Room} {s0 : State} {m : MethodId} {args : Array Value} {below : List Frame} {meth : Method} {c : Code} {H : Heap} {locs : List Loc} {Q : State → Prop} {ls : Array Slot} {st0 rest : List Value} {a : Array Value} {E : Ce} {ret : Option FieldType} {r1 : Int32} {s1 : St}
    (hr : va_Run p l e R s0 m args below meth c H locs 0 0 0 0 (F0 m pc ls st0) rest (Qm E ret r1 s1 a) (AA E)) (hS : va_S (AA E) s0.heap H locs)
    (kk : ∀ (H1 : Heap) (locs1 : List Loc), va_P E.D vwCl (wl E s1) H1 → va_S (AA E) s0.heap H1 locs1 → W p l e R s0 m args below meth c H1 locs1 0 0 Q (F0 m (pc + 3) ls (psh ret r1 ++ rest))) : W p l e R s0 m args below meth c H locs 0 0 Q (F0 m pc ls st0) := by
  intro T hT X
  obtain ⟨v, st₀, t, T', L, h0, X', hL, e1, e2, ⟨hv, hP1, hz, hk⟩, st⟩ := hr T hT X
  rw [h0] at hz hk
  obtain ⟨t2, a1, b1⟩ := kk T'.heap (locs ++ L) (by rw [e1]; exact hP1)
    ⟨Nat.le_trans hS.1 (by rw [e1]; exact hz), fun q h1 h2 => by rw [e1, hk q (Nat.lt_of_lt_of_le h1 hS.1) h2]; exact hS.2.1 q h1 h2, fun q hq => by
      rcases List.mem_append.mp hq with h | h
      · exact hS.2.2 q h
      · exact hL q h⟩ T' rfl X'
  refine ⟨t2, st t2 ?_, b1⟩
  have hvv : v.toList = psh ret r1 := by
    cases ret with
    | none => cases hv; rfl
    | some ty => cases hv; rfl
  rw [hvv]
  exact a1
theorem g_cl {f : Option (Int32 × St)} {c : Int32 → St → Option (Int32 × St)} {r : Int32} {s' : St} (h : cl f c = some (r, s')) : ∃ r1 s1, f = some (r1, s1) ∧ c r1 s1 = some (r, s') := by
  unfold cl at h
  cases f with
  | none => cases h
  | some q => exact ⟨q.1, q.2, rfl, h⟩
theorem g_cb (K : Ok X cc own nL d) {y : MethodName} {cc' : ByteArray} {mL d' n ix : Nat} {ret : Option FieldType} (hd' : d' < d) (hm : mL ≤ 21) (hcode : Cond.code y cc' mL ret ∈ TB) (hini : Cond.initialized y.cls ∈ TB) (hlink : Cond.methodLink own ix y ∈ TB) (hy : y.cls ≠ "java/lang/invoke/MethodHandle" ∧ y.cls ≠ "java/lang/invoke/VarHandle" ∧ (parseMethodDescriptor y.desc).map (fun d => d.parameters.length) = some n) :
    CallB X.R X.s X.args own ix y cc' mL ret (.code y cc' mL ret :: TB) (rmD d') 0 0 n :=
  callB_of n K.2.2.2.1 (tb_goodIn hcode) rfl rfl rfl (K.2.2.2.1 _ hini) (K.2.2.2.1 _ hlink) hy ⟨by have := K.2.2.2.2.2.2.2.1; show d' + 1 ≤ _; omega, by have := K.2.2.2.2.2.2.2.2; show 8 + (mL + 11) + 40 * d' ≤ _; omega⟩
theorem g_callS (K : Ok X cc own nL d) {y : MethodName} {cc' : ByteArray} {mL d' n ix : Nat} {ret : Option FieldType} {As : List Value} {f : St → Option (Int32 × St)} (hcon : Con X.E y cc' mL ret d' As f) (hd' : d' < d) (hm : mL ≤ 21) (hcode : Cond.code y cc' mL ret ∈ TB) (hini : Cond.initialized y.cls ∈ TB) (hlink : Cond.methodLink own ix y ∈ TB) (hst : Cond.static y ∈ TB)
    (hy : y.cls ≠ "java/lang/invoke/MethodHandle" ∧ y.cls ≠ "java/lang/invoke/VarHandle" ∧ (parseMethodDescriptor y.desc).map (fun d => d.parameters.length) = some n) (hn : As.length = n) {S0 : List Value} (hS0 : S0 = As.reverse ++ S) (hrm : (S.map fun v => v.category).sum ≤ 8) (hd : decode cc pc = .ok (.invokestatic ix, 3)) {c : Int32 → St → Option (Int32 × St)}
    (h : ∀ r1 s1, G X (pc + 3) L (psh ret r1 ++ S) s1 (c r1 s1)) : G X pc L S0 s (cl (f s) c) := by
  intro r s' e H locs ls hP hS hL
  obtain ⟨r1, s1, e1, e2⟩ := g_cl e
  subst hS0
  refine g_back (va_runS (Ts := TB) (As := As) (rest := S) ⟨K.1, K.2.1, rfl, K.2.2.1, K.2.2.2.1⟩ (hcon s r1 s1 e1) ⟨g_cb K hd' hm hcode hini hlink hy, K.2.2.2.1 _ hst⟩ ⟨wd_blind, wd_pre hP K.2.2.2.2.2.1 K.2.2.2.2.1⟩ rfl hn hL.1 rfl (lv_room hrm) hd ⟨Nat.zero_le _, Nat.zero_le _⟩) hS (fun H1 locs1 hP1 hS1 => h r1 s1 r s' e2 H1 locs1 ls hP1 hS1 hL)
theorem g_rcv (K : Ok X cc own nL d) {H : Heap} (hP : va_P X.E.D vwCl (wl X.E s) H) {k ci : Nat} {fs : List Value} {q : vw_C} (hk : k < 80) (hc : vwCl[ci]? = some q) (he : cellE X.E k (s.1 k) (s.2 k) = .inr (ci, fs)) : ∃ cell : Cell, H[X.B + k]? = some cell ∧ cell.vm.isStatics = false ∧ X.s.vm.findClass q.1 = some cell.cls := by
  have hat := wl_at X.E s hk
  rw [he] at hat
  exact va_recv K.2.2.2.2.2.1 hP hc hat
theorem g_callV (K : Ok X cc own nL d) {y : MethodName} {cc' : ByteArray} {mL d' n ix k ci : Nat} {ret : Option FieldType} {As : List Value} {f : St → Option (Int32 × St)} (hcon : Con X.E y cc' mL ret d' (.ref (X.B + k) :: As) f) {T : u_T} {N : Nat} (hk : k < 80) (hc : vwCl[ci]? = some (y.cls, T, N)) (he : ∀ s : St, ∃ fs, cellE X.E k (s.1 k) (s.2 k) = .inr (ci, fs)) (hd' : d' < d) (hm : mL ≤ 21) (hcode : Cond.code y cc' mL ret ∈ TB) (hini : Cond.initialized y.cls ∈ TB) (hlink : Cond.methodLink own ix y ∈ TB) (hin : Cond.instanceMethod y ∈ TB) (hse : Cond.selects y.cls y y ∈ TB)
    (hy : y.cls ≠ "java/lang/invoke/MethodHandle" ∧ y.cls ≠ "java/lang/invoke/VarHandle" ∧ (parseMethodDescriptor y.desc).map (fun d => d.parameters.length) = some n) (hn : As.length = n) {S0 : List Value} (hS0 : S0 = As.reverse ++ .ref (X.B + k) :: S) (hrm : (S.map fun v => v.category).sum ≤ 8) (hd : decode cc pc = .ok (.invokevirtual ix, 3)) {c : Int32 → St → Option (Int32 × St)}
    (h : ∀ r1 s1, G X (pc + 3) L (psh ret r1 ++ S) s1 (c r1 s1)) : G X pc L S0 s (cl (f s) c) := by
  intro r s' e H locs ls hP hS hL
  obtain ⟨r1, s1, e1, e2⟩ := g_cl e
  obtain ⟨fs, he⟩ := he s
  subst hS0
  refine g_back (va_runV (Ts := TB) (C := y.cls) (As := As) (rest := S) ⟨K.1, K.2.1, rfl, K.2.2.1, K.2.2.2.1⟩ (hcon s r1 s1 e1) ⟨g_cb K hd' hm hcode hini hlink hy, K.2.2.2.1 _ hin, K.2.2.2.1 _ hse⟩ ⟨wd_blind, g_rcv K hP hk hc he, wd_pre hP K.2.2.2.2.2.1 K.2.2.2.2.1⟩ rfl hn hL.1 rfl (lv_room hrm) hd ⟨Nat.zero_le _, Nat.zero_le _⟩) hS (fun H1 locs1 hP1 hS1 => h r1 s1 r s' e2 H1 locs1 ls hP1 hS1 hL)
theorem g_callVN (K : Ok X cc own nL d) {y : MethodName} {cc' : ByteArray} {mL d' n ix k ci : Nat} {ret : Option FieldType} {As : List Value} {f : St → Option (Int32 × St)} (hcon : Con X.E y cc' mL ret d' (.ref (X.B + k) :: As) f) {T : u_T} {N : Nat} (hk : k < 80) (hc : vwCl[ci]? = some (y.cls, T, N)) (he : ∀ s : St, ∃ fs, cellE X.E k (s.1 k) (s.2 k) = .inr (ci, fs)) (hd' : d' < d) (hm : mL ≤ 21) (hcode : Cond.code y cc' mL ret ∈ TB) (hini : Cond.initialized y.cls ∈ TB) {host : String} (hlink : Cond.methodLinkNest own ix y host ∈ NB) (hin : Cond.instanceMethod y ∈ TB) (hse : Cond.selects y.cls y y ∈ TB)
    (hy : y.cls ≠ "java/lang/invoke/MethodHandle" ∧ y.cls ≠ "java/lang/invoke/VarHandle" ∧ (parseMethodDescriptor y.desc).map (fun d => d.parameters.length) = some n) (hn : As.length = n) {S0 : List Value} (hS0 : S0 = As.reverse ++ .ref (X.B + k) :: S) (hrm : (S.map fun v => v.category).sum ≤ 8) (hd : decode cc pc = .ok (.invokevirtual ix, 3)) {c : Int32 → St → Option (Int32 × St)}
    (h : ∀ r1 s1, G X (pc + 3) L (psh ret r1 ++ S) s1 (c r1 s1)) : G X pc L S0 s (cl (f s) c) := by
  intro r s' e H locs ls hP hS hL
  obtain ⟨r1, s1, e1, e2⟩ := g_cl e
  obtain ⟨fs, he⟩ := he s
  subst hS0
  refine g_back (va_runVN (Ts := TB) (C := y.cls) (host := host) (As := As) (rest := S) ⟨K.1, K.2.1, rfl, K.2.2.1, K.2.2.2.1⟩ (hcon s r1 s1 e1) ⟨va_cnB n K.2.2.2.1 (tb_goodIn hcode) rfl rfl rfl (K.2.2.2.2.1 _ hlink) (K.2.2.2.1 _ hini) hy ⟨by have := K.2.2.2.2.2.2.2.1; show d' + 1 ≤ _; omega, by have := K.2.2.2.2.2.2.2.2; show 8 + (mL + 11) + 40 * d' ≤ _; omega⟩, K.2.2.2.1 _ hin, K.2.2.2.1 _ hse⟩ ⟨wd_blind, g_rcv K hP hk hc he, wd_pre hP K.2.2.2.2.2.1 K.2.2.2.2.1⟩ rfl hn hL.1 rfl (lv_room hrm) hd ⟨Nat.zero_le _, Nat.zero_le _⟩) hS (fun H1 locs1 hP1 hS1 => h r1 s1 r s' e2 H1 locs1 ls hP1 hS1 hL)
end
end
section
theorem dX0_init_0 : decode cX0_init 0 = .ok (.aload_n 0, 1) := by decide +kernel
theorem dX0_init_1 : decode cX0_init 1 = .ok (.invokespecial 3, 3) := by decide +kernel
theorem dX0_init_4 : decode cX0_init 4 = .ok (.aload_n 0, 1) := by decide +kernel
theorem dX0_init_5 : decode cX0_init 5 = .ok (.bipush 6, 2) := by decide +kernel
theorem dX0_init_7 : decode cX0_init 7 = .ok (.newarray .int, 2) := by decide +kernel
theorem dX0_init_9 : decode cX0_init 9 = .ok (.putfield 9, 3) := by decide +kernel
theorem dX0_init_12 : decode cX0_init 12 = .ok (.aload_n 0, 1) := by decide +kernel
theorem dX0_init_13 : decode cX0_init 13 = .ok (.bipush 6, 2) := by decide +kernel
theorem dX0_init_15 : decode cX0_init 15 = .ok (.newarray .int, 2) := by decide +kernel
theorem dX0_init_17 : decode cX0_init 17 = .ok (.putfield 15, 3) := by decide +kernel
theorem dX0_init_20 : decode cX0_init 20 = .ok (.aload_n 0, 1) := by decide +kernel
theorem dX0_init_21 : decode cX0_init 21 = .ok (.aload_n 1, 1) := by decide +kernel
theorem dX0_init_22 : decode cX0_init 22 = .ok (.putfield 18, 3) := by decide +kernel
theorem dX0_init_25 : decode cX0_init 25 = .ok (.return_, 1) := by decide +kernel
theorem dX0_search_0 : decode cX0_search 0 = .ok (.aload_n 0, 1) := by decide +kernel
theorem dX0_search_1 : decode cX0_search 1 = .ok (.sipush 181, 3) := by decide +kernel
theorem dX0_search_4 : decode cX0_search 4 = .ok (.putfield 22, 3) := by decide +kernel
theorem dX0_search_7 : decode cX0_search 7 = .ok (.aload_n 0, 1) := by decide +kernel
theorem dX0_search_8 : decode cX0_search 8 = .ok (.iconst 0, 1) := by decide +kernel
theorem dX0_search_9 : decode cX0_search 9 = .ok (.iconst 0, 1) := by decide +kernel
theorem dX0_search_10 : decode cX0_search 10 = .ok (.iconst 0, 1) := by decide +kernel
theorem dX0_search_11 : decode cX0_search 11 = .ok (.invokestatic 26, 3) := by decide +kernel
theorem dX0_search_14 : decode cX0_search 14 = .ok (.return_, 1) := by decide +kernel
theorem dX0_hangFrom_0 : decode cX0_hangFrom 0 = .ok (.iload_n 3, 1) := by decide +kernel
theorem dX0_hangFrom_1 : decode cX0_hangFrom 1 = .ok (.aload_n 0, 1) := by decide +kernel
theorem dX0_hangFrom_2 : decode cX0_hangFrom 2 = .ok (.getfield 22, 3) := by decide +kernel
theorem dX0_hangFrom_5 : decode cX0_hangFrom 5 = .ok (.if_icmp .lt 4, 3) := by decide +kernel
theorem dX0_hangFrom_8 : decode cX0_hangFrom 8 = .ok (.return_, 1) := by decide +kernel
theorem dX0_hangFrom_9 : decode cX0_hangFrom 9 = .ok (.iload_n 1, 1) := by decide +kernel
theorem dX0_hangFrom_10 : decode cX0_hangFrom 10 = .ok (.aload_n 0, 1) := by decide +kernel
theorem dX0_hangFrom_11 : decode cX0_hangFrom 11 = .ok (.getfield 18, 3) := by decide +kernel
theorem dX0_hangFrom_14 : decode cX0_hangFrom 14 = .ok (.getfield 30, 3) := by decide +kernel
theorem dX0_hangFrom_17 : decode cX0_hangFrom 17 = .ok (.if_icmp .ge 9, 3) := by decide +kernel
theorem dX0_hangFrom_20 : decode cX0_hangFrom 20 = .ok (.iload_n 1, 1) := by decide +kernel
theorem dX0_hangFrom_21 : decode cX0_hangFrom 21 = .ok (.bipush 6, 2) := by decide +kernel
theorem dX0_hangFrom_23 : decode cX0_hangFrom 23 = .ok (.if_icmp .lt 24, 3) := by decide +kernel
theorem dX0_hangFrom_26 : decode cX0_hangFrom 26 = .ok (.aload_n 0, 1) := by decide +kernel
theorem dX0_hangFrom_27 : decode cX0_hangFrom 27 = .ok (.iload_n 3, 1) := by decide +kernel
theorem dX0_hangFrom_28 : decode cX0_hangFrom 28 = .ok (.putfield 22, 3) := by decide +kernel
theorem dX0_hangFrom_31 : decode cX0_hangFrom 31 = .ok (.aload_n 0, 1) := by decide +kernel
theorem dX0_hangFrom_32 : decode cX0_hangFrom 32 = .ok (.getfield 15, 3) := by decide +kernel
theorem dX0_hangFrom_35 : decode cX0_hangFrom 35 = .ok (.iconst 0, 1) := by decide +kernel
theorem dX0_hangFrom_36 : decode cX0_hangFrom 36 = .ok (.aload_n 0, 1) := by decide +kernel
theorem dX0_hangFrom_37 : decode cX0_hangFrom 37 = .ok (.getfield 9, 3) := by decide +kernel
theorem dX0_hangFrom_40 : decode cX0_hangFrom 40 = .ok (.iconst 0, 1) := by decide +kernel
theorem dX0_hangFrom_41 : decode cX0_hangFrom 41 = .ok (.bipush 6, 2) := by decide +kernel
theorem dX0_hangFrom_43 : decode cX0_hangFrom 43 = .ok (.invokestatic 35, 3) := by decide +kernel
theorem dX0_hangFrom_46 : decode cX0_hangFrom 46 = .ok (.return_, 1) := by decide +kernel
theorem dX0_hangFrom_47 : decode cX0_hangFrom 47 = .ok (.iconst 0, 1) := by decide +kernel
theorem dX0_hangFrom_48 : decode cX0_hangFrom 48 = .ok (.istore 4, 2) := by decide +kernel
theorem dX0_hangFrom_50 : decode cX0_hangFrom 50 = .ok (.iload 4, 2) := by decide +kernel
theorem dX0_hangFrom_52 : decode cX0_hangFrom 52 = .ok (.aload_n 0, 1) := by decide +kernel
theorem dX0_hangFrom_53 : decode cX0_hangFrom 53 = .ok (.getfield 18, 3) := by decide +kernel
theorem dX0_hangFrom_56 : decode cX0_hangFrom 56 = .ok (.getfield 30, 3) := by decide +kernel
theorem dX0_hangFrom_59 : decode cX0_hangFrom 59 = .ok (.if_icmp .ge 74, 3) := by decide +kernel
theorem dX0_hangFrom_62 : decode cX0_hangFrom 62 = .ok (.iload 4, 2) := by decide +kernel
theorem dX0_hangFrom_64 : decode cX0_hangFrom 64 = .ok (.iload_n 1, 1) := by decide +kernel
theorem dX0_hangFrom_65 : decode cX0_hangFrom 65 = .ok (.if_icmp .eq 62, 3) := by decide +kernel
theorem dX0_hangFrom_68 : decode cX0_hangFrom 68 = .ok (.iload_n 2, 1) := by decide +kernel
theorem dX0_hangFrom_69 : decode cX0_hangFrom 69 = .ok (.iload 4, 2) := by decide +kernel
theorem dX0_hangFrom_71 : decode cX0_hangFrom 71 = .ok (.ishr, 1) := by decide +kernel
theorem dX0_hangFrom_72 : decode cX0_hangFrom 72 = .ok (.iconst 1, 1) := by decide +kernel
theorem dX0_hangFrom_73 : decode cX0_hangFrom 73 = .ok (.iand, 1) := by decide +kernel
theorem dX0_hangFrom_74 : decode cX0_hangFrom 74 = .ok (.ifCond .ne 53, 3) := by decide +kernel
theorem dX0_hangFrom_77 : decode cX0_hangFrom 77 = .ok (.aload_n 0, 1) := by decide +kernel
theorem dX0_hangFrom_78 : decode cX0_hangFrom 78 = .ok (.getfield 15, 3) := by decide +kernel
theorem dX0_hangFrom_81 : decode cX0_hangFrom 81 = .ok (.iload_n 1, 1) := by decide +kernel
theorem dX0_hangFrom_82 : decode cX0_hangFrom 82 = .ok (.iload 4, 2) := by decide +kernel
theorem dX0_hangFrom_84 : decode cX0_hangFrom 84 = .ok (.iastore, 1) := by decide +kernel
theorem dX0_hangFrom_85 : decode cX0_hangFrom 85 = .ok (.aload_n 0, 1) := by decide +kernel
theorem dX0_hangFrom_86 : decode cX0_hangFrom 86 = .ok (.getfield 18, 3) := by decide +kernel
theorem dX0_hangFrom_89 : decode cX0_hangFrom 89 = .ok (.getfield 41, 3) := by decide +kernel
theorem dX0_hangFrom_92 : decode cX0_hangFrom 92 = .ok (.iload_n 1, 1) := by decide +kernel
theorem dX0_hangFrom_93 : decode cX0_hangFrom 93 = .ok (.iaload, 1) := by decide +kernel
theorem dX0_hangFrom_94 : decode cX0_hangFrom 94 = .ok (.aload_n 0, 1) := by decide +kernel
theorem dX0_hangFrom_95 : decode cX0_hangFrom 95 = .ok (.getfield 18, 3) := by decide +kernel
theorem dX0_hangFrom_98 : decode cX0_hangFrom 98 = .ok (.getfield 41, 3) := by decide +kernel
theorem dX0_hangFrom_101 : decode cX0_hangFrom 101 = .ok (.iload 4, 2) := by decide +kernel
theorem dX0_hangFrom_103 : decode cX0_hangFrom 103 = .ok (.iaload, 1) := by decide +kernel
theorem dX0_hangFrom_104 : decode cX0_hangFrom 104 = .ok (.isub, 1) := by decide +kernel
theorem dX0_hangFrom_105 : decode cX0_hangFrom 105 = .ok (.invokestatic 44, 3) := by decide +kernel
theorem dX0_hangFrom_108 : decode cX0_hangFrom 108 = .ok (.istore 5, 2) := by decide +kernel
theorem dX0_hangFrom_110 : decode cX0_hangFrom 110 = .ok (.aload_n 0, 1) := by decide +kernel
theorem dX0_hangFrom_111 : decode cX0_hangFrom 111 = .ok (.iload_n 1, 1) := by decide +kernel
theorem dX0_hangFrom_112 : decode cX0_hangFrom 112 = .ok (.iconst 1, 1) := by decide +kernel
theorem dX0_hangFrom_113 : decode cX0_hangFrom 113 = .ok (.iadd, 1) := by decide +kernel
theorem dX0_hangFrom_114 : decode cX0_hangFrom 114 = .ok (.iload_n 2, 1) := by decide +kernel
theorem dX0_hangFrom_115 : decode cX0_hangFrom 115 = .ok (.iconst 1, 1) := by decide +kernel
theorem dX0_hangFrom_116 : decode cX0_hangFrom 116 = .ok (.iload 4, 2) := by decide +kernel
theorem dX0_hangFrom_118 : decode cX0_hangFrom 118 = .ok (.ishl, 1) := by decide +kernel
theorem dX0_hangFrom_119 : decode cX0_hangFrom 119 = .ok (.ior, 1) := by decide +kernel
theorem dX0_hangFrom_120 : decode cX0_hangFrom 120 = .ok (.iload_n 3, 1) := by decide +kernel
theorem dX0_hangFrom_121 : decode cX0_hangFrom 121 = .ok (.iload 5, 2) := by decide +kernel
theorem dX0_hangFrom_123 : decode cX0_hangFrom 123 = .ok (.iadd, 1) := by decide +kernel
theorem dX0_hangFrom_124 : decode cX0_hangFrom 124 = .ok (.invokestatic 26, 3) := by decide +kernel
theorem dX0_hangFrom_127 : decode cX0_hangFrom 127 = .ok (.iinc 4 1, 3) := by decide +kernel
theorem dX0_hangFrom_130 : decode cX0_hangFrom 130 = .ok (.goto (-80), 3) := by decide +kernel
theorem dX0_hangFrom_133 : decode cX0_hangFrom 133 = .ok (.return_, 1) := by decide +kernel
theorem dX1_init_0 : decode cX1_init 0 = .ok (.aload_n 0, 1) := by decide +kernel
theorem dX1_init_1 : decode cX1_init 1 = .ok (.invokespecial 3, 3) := by decide +kernel
theorem dX1_init_4 : decode cX1_init 4 = .ok (.aload_n 0, 1) := by decide +kernel
theorem dX1_init_5 : decode cX1_init 5 = .ok (.bipush 6, 2) := by decide +kernel
theorem dX1_init_7 : decode cX1_init 7 = .ok (.newarray .int, 2) := by decide +kernel
theorem dX1_init_9 : decode cX1_init 9 = .ok (.putfield 9, 3) := by decide +kernel
theorem dX1_init_12 : decode cX1_init 12 = .ok (.aload_n 0, 1) := by decide +kernel
theorem dX1_init_13 : decode cX1_init 13 = .ok (.bipush 6, 2) := by decide +kernel
theorem dX1_init_15 : decode cX1_init 15 = .ok (.newarray .int, 2) := by decide +kernel
theorem dX1_init_17 : decode cX1_init 17 = .ok (.putfield 15, 3) := by decide +kernel
theorem dX1_init_20 : decode cX1_init 20 = .ok (.aload_n 0, 1) := by decide +kernel
theorem dX1_init_21 : decode cX1_init 21 = .ok (.bipush 6, 2) := by decide +kernel
theorem dX1_init_23 : decode cX1_init 23 = .ok (.newarray .int, 2) := by decide +kernel
theorem dX1_init_25 : decode cX1_init 25 = .ok (.putfield 18, 3) := by decide +kernel
theorem dX1_init_28 : decode cX1_init 28 = .ok (.aload_n 0, 1) := by decide +kernel
theorem dX1_init_29 : decode cX1_init 29 = .ok (.bipush 6, 2) := by decide +kernel
theorem dX1_init_31 : decode cX1_init 31 = .ok (.newarray .int, 2) := by decide +kernel
theorem dX1_init_33 : decode cX1_init 33 = .ok (.putfield 21, 3) := by decide +kernel
theorem dX1_init_36 : decode cX1_init 36 = .ok (.aload_n 0, 1) := by decide +kernel
theorem dX1_init_37 : decode cX1_init 37 = .ok (.bipush 6, 2) := by decide +kernel
theorem dX1_init_39 : decode cX1_init 39 = .ok (.newarray .int, 2) := by decide +kernel
theorem dX1_init_41 : decode cX1_init 41 = .ok (.putfield 24, 3) := by decide +kernel
theorem dX1_init_44 : decode cX1_init 44 = .ok (.return_, 1) := by decide +kernel
theorem dX1_has_0 : decode cX1_has 0 = .ok (.iload_n 1, 1) := by decide +kernel
theorem dX1_has_1 : decode cX1_has 1 = .ok (.ifCond .lt 15, 3) := by decide +kernel
theorem dX1_has_4 : decode cX1_has 4 = .ok (.iload_n 1, 1) := by decide +kernel
theorem dX1_has_5 : decode cX1_has 5 = .ok (.aload_n 0, 1) := by decide +kernel
theorem dX1_has_6 : decode cX1_has 6 = .ok (.getfield 27, 3) := by decide +kernel
theorem dX1_has_9 : decode cX1_has 9 = .ok (.if_icmp .ge 7, 3) := by decide +kernel
theorem dX1_has_12 : decode cX1_has 12 = .ok (.iconst 1, 1) := by decide +kernel
theorem dX1_has_13 : decode cX1_has 13 = .ok (.goto 4, 3) := by decide +kernel
theorem dX1_has_16 : decode cX1_has 16 = .ok (.iconst 0, 1) := by decide +kernel
theorem dX1_has_17 : decode cX1_has 17 = .ok (.ireturn, 1) := by decide +kernel
theorem dX1_everyone_0 : decode cX1_everyone 0 = .ok (.iconst 1, 1) := by decide +kernel
theorem dX1_everyone_1 : decode cX1_everyone 1 = .ok (.aload_n 0, 1) := by decide +kernel
theorem dX1_everyone_2 : decode cX1_everyone 2 = .ok (.getfield 27, 3) := by decide +kernel
theorem dX1_everyone_5 : decode cX1_everyone 5 = .ok (.ishl, 1) := by decide +kernel
theorem dX1_everyone_6 : decode cX1_everyone 6 = .ok (.iconst 1, 1) := by decide +kernel
theorem dX1_everyone_7 : decode cX1_everyone 7 = .ok (.isub, 1) := by decide +kernel
theorem dX1_everyone_8 : decode cX1_everyone 8 = .ok (.ireturn, 1) := by decide +kernel
theorem dX1_copyFrom_0 : decode cX1_copyFrom 0 = .ok (.aload_n 0, 1) := by decide +kernel
theorem dX1_copyFrom_1 : decode cX1_copyFrom 1 = .ok (.aload_n 1, 1) := by decide +kernel
theorem dX1_copyFrom_2 : decode cX1_copyFrom 2 = .ok (.getfield 27, 3) := by decide +kernel
theorem dX1_copyFrom_5 : decode cX1_copyFrom 5 = .ok (.putfield 27, 3) := by decide +kernel
theorem dX1_copyFrom_8 : decode cX1_copyFrom 8 = .ok (.iconst 0, 1) := by decide +kernel
theorem dX1_copyFrom_9 : decode cX1_copyFrom 9 = .ok (.istore_n 2, 1) := by decide +kernel
theorem dX1_copyFrom_10 : decode cX1_copyFrom 10 = .ok (.iload_n 2, 1) := by decide +kernel
theorem dX1_copyFrom_11 : decode cX1_copyFrom 11 = .ok (.bipush 6, 2) := by decide +kernel
theorem dX1_copyFrom_13 : decode cX1_copyFrom 13 = .ok (.if_icmp .ge 69, 3) := by decide +kernel
theorem dX1_copyFrom_16 : decode cX1_copyFrom 16 = .ok (.aload_n 0, 1) := by decide +kernel
theorem dX1_copyFrom_17 : decode cX1_copyFrom 17 = .ok (.getfield 9, 3) := by decide +kernel
theorem dX1_copyFrom_20 : decode cX1_copyFrom 20 = .ok (.iload_n 2, 1) := by decide +kernel
theorem dX1_copyFrom_21 : decode cX1_copyFrom 21 = .ok (.aload_n 1, 1) := by decide +kernel
theorem dX1_copyFrom_22 : decode cX1_copyFrom 22 = .ok (.getfield 9, 3) := by decide +kernel
theorem dX1_copyFrom_25 : decode cX1_copyFrom 25 = .ok (.iload_n 2, 1) := by decide +kernel
theorem dX1_copyFrom_26 : decode cX1_copyFrom 26 = .ok (.iaload, 1) := by decide +kernel
theorem dX1_copyFrom_27 : decode cX1_copyFrom 27 = .ok (.iastore, 1) := by decide +kernel
theorem dX1_copyFrom_28 : decode cX1_copyFrom 28 = .ok (.aload_n 0, 1) := by decide +kernel
theorem dX1_copyFrom_29 : decode cX1_copyFrom 29 = .ok (.getfield 15, 3) := by decide +kernel
theorem dX1_copyFrom_32 : decode cX1_copyFrom 32 = .ok (.iload_n 2, 1) := by decide +kernel
theorem dX1_copyFrom_33 : decode cX1_copyFrom 33 = .ok (.aload_n 1, 1) := by decide +kernel
theorem dX1_copyFrom_34 : decode cX1_copyFrom 34 = .ok (.getfield 15, 3) := by decide +kernel
theorem dX1_copyFrom_37 : decode cX1_copyFrom 37 = .ok (.iload_n 2, 1) := by decide +kernel
theorem dX1_copyFrom_38 : decode cX1_copyFrom 38 = .ok (.iaload, 1) := by decide +kernel
theorem dX1_copyFrom_39 : decode cX1_copyFrom 39 = .ok (.iastore, 1) := by decide +kernel
theorem dX1_copyFrom_40 : decode cX1_copyFrom 40 = .ok (.aload_n 0, 1) := by decide +kernel
theorem dX1_copyFrom_41 : decode cX1_copyFrom 41 = .ok (.getfield 18, 3) := by decide +kernel
theorem dX1_copyFrom_44 : decode cX1_copyFrom 44 = .ok (.iload_n 2, 1) := by decide +kernel
theorem dX1_copyFrom_45 : decode cX1_copyFrom 45 = .ok (.aload_n 1, 1) := by decide +kernel
theorem dX1_copyFrom_46 : decode cX1_copyFrom 46 = .ok (.getfield 18, 3) := by decide +kernel
theorem dX1_copyFrom_49 : decode cX1_copyFrom 49 = .ok (.iload_n 2, 1) := by decide +kernel
theorem dX1_copyFrom_50 : decode cX1_copyFrom 50 = .ok (.iaload, 1) := by decide +kernel
theorem dX1_copyFrom_51 : decode cX1_copyFrom 51 = .ok (.iastore, 1) := by decide +kernel
theorem dX1_copyFrom_52 : decode cX1_copyFrom 52 = .ok (.aload_n 0, 1) := by decide +kernel
theorem dX1_copyFrom_53 : decode cX1_copyFrom 53 = .ok (.getfield 21, 3) := by decide +kernel
theorem dX1_copyFrom_56 : decode cX1_copyFrom 56 = .ok (.iload_n 2, 1) := by decide +kernel
theorem dX1_copyFrom_57 : decode cX1_copyFrom 57 = .ok (.aload_n 1, 1) := by decide +kernel
theorem dX1_copyFrom_58 : decode cX1_copyFrom 58 = .ok (.getfield 21, 3) := by decide +kernel
theorem dX1_copyFrom_61 : decode cX1_copyFrom 61 = .ok (.iload_n 2, 1) := by decide +kernel
theorem dX1_copyFrom_62 : decode cX1_copyFrom 62 = .ok (.iaload, 1) := by decide +kernel
theorem dX1_copyFrom_63 : decode cX1_copyFrom 63 = .ok (.iastore, 1) := by decide +kernel
theorem dX1_copyFrom_64 : decode cX1_copyFrom 64 = .ok (.aload_n 0, 1) := by decide +kernel
theorem dX1_copyFrom_65 : decode cX1_copyFrom 65 = .ok (.getfield 24, 3) := by decide +kernel
theorem dX1_copyFrom_68 : decode cX1_copyFrom 68 = .ok (.iload_n 2, 1) := by decide +kernel
theorem dX1_copyFrom_69 : decode cX1_copyFrom 69 = .ok (.aload_n 1, 1) := by decide +kernel
theorem dX1_copyFrom_70 : decode cX1_copyFrom 70 = .ok (.getfield 24, 3) := by decide +kernel
theorem dX1_copyFrom_73 : decode cX1_copyFrom 73 = .ok (.iload_n 2, 1) := by decide +kernel
theorem dX1_copyFrom_74 : decode cX1_copyFrom 74 = .ok (.iaload, 1) := by decide +kernel
theorem dX1_copyFrom_75 : decode cX1_copyFrom 75 = .ok (.iastore, 1) := by decide +kernel
theorem dX1_copyFrom_76 : decode cX1_copyFrom 76 = .ok (.iinc 2 1, 3) := by decide +kernel
theorem dX1_copyFrom_79 : decode cX1_copyFrom 79 = .ok (.goto (-69), 3) := by decide +kernel
theorem dX1_copyFrom_82 : decode cX1_copyFrom 82 = .ok (.return_, 1) := by decide +kernel
theorem dX1_keepersAreThere_0 : decode cX1_keepersAreThere 0 = .ok (.iconst 0, 1) := by decide +kernel
theorem dX1_keepersAreThere_1 : decode cX1_keepersAreThere 1 = .ok (.istore_n 1, 1) := by decide +kernel
theorem dX1_keepersAreThere_2 : decode cX1_keepersAreThere 2 = .ok (.iload_n 1, 1) := by decide +kernel
theorem dX1_keepersAreThere_3 : decode cX1_keepersAreThere 3 = .ok (.aload_n 0, 1) := by decide +kernel
theorem dX1_keepersAreThere_4 : decode cX1_keepersAreThere 4 = .ok (.getfield 27, 3) := by decide +kernel
theorem dX1_keepersAreThere_7 : decode cX1_keepersAreThere 7 = .ok (.if_icmp .ge 24, 3) := by decide +kernel
theorem dX1_keepersAreThere_10 : decode cX1_keepersAreThere 10 = .ok (.aload_n 0, 1) := by decide +kernel
theorem dX1_keepersAreThere_11 : decode cX1_keepersAreThere 11 = .ok (.aload_n 0, 1) := by decide +kernel
theorem dX1_keepersAreThere_12 : decode cX1_keepersAreThere 12 = .ok (.getfield 24, 3) := by decide +kernel
theorem dX1_keepersAreThere_15 : decode cX1_keepersAreThere 15 = .ok (.iload_n 1, 1) := by decide +kernel
theorem dX1_keepersAreThere_16 : decode cX1_keepersAreThere 16 = .ok (.iaload, 1) := by decide +kernel
theorem dX1_keepersAreThere_17 : decode cX1_keepersAreThere 17 = .ok (.invokevirtual 31, 3) := by decide +kernel
theorem dX1_keepersAreThere_20 : decode cX1_keepersAreThere 20 = .ok (.ifCond .ne 5, 3) := by decide +kernel
theorem dX1_keepersAreThere_23 : decode cX1_keepersAreThere 23 = .ok (.iconst 0, 1) := by decide +kernel
theorem dX1_keepersAreThere_24 : decode cX1_keepersAreThere 24 = .ok (.ireturn, 1) := by decide +kernel
theorem dX1_keepersAreThere_25 : decode cX1_keepersAreThere 25 = .ok (.iinc 1 1, 3) := by decide +kernel
theorem dX1_keepersAreThere_28 : decode cX1_keepersAreThere 28 = .ok (.goto (-26), 3) := by decide +kernel
theorem dX1_keepersAreThere_31 : decode cX1_keepersAreThere 31 = .ok (.iconst 1, 1) := by decide +kernel
theorem dX1_keepersAreThere_32 : decode cX1_keepersAreThere 32 = .ok (.ireturn, 1) := by decide +kernel
theorem dX1_askedBehind_0 : decode cX1_askedBehind 0 = .ok (.iload_n 1, 1) := by decide +kernel
theorem dX1_askedBehind_1 : decode cX1_askedBehind 1 = .ok (.invokestatic 35, 3) := by decide +kernel
theorem dX1_askedBehind_4 : decode cX1_askedBehind 4 = .ok (.istore_n 3, 1) := by decide +kernel
theorem dX1_askedBehind_5 : decode cX1_askedBehind 5 = .ok (.iload_n 1, 1) := by decide +kernel
theorem dX1_askedBehind_6 : decode cX1_askedBehind 6 = .ok (.istore 4, 2) := by decide +kernel
theorem dX1_askedBehind_8 : decode cX1_askedBehind 8 = .ok (.iconst 0, 1) := by decide +kernel
theorem dX1_askedBehind_9 : decode cX1_askedBehind 9 = .ok (.istore 5, 2) := by decide +kernel
theorem dX1_askedBehind_11 : decode cX1_askedBehind 11 = .ok (.iload 5, 2) := by decide +kernel
theorem dX1_askedBehind_13 : decode cX1_askedBehind 13 = .ok (.aload_n 0, 1) := by decide +kernel
theorem dX1_askedBehind_14 : decode cX1_askedBehind 14 = .ok (.getfield 27, 3) := by decide +kernel
theorem dX1_askedBehind_17 : decode cX1_askedBehind 17 = .ok (.if_icmp .ge 40, 3) := by decide +kernel
theorem dX1_askedBehind_20 : decode cX1_askedBehind 20 = .ok (.aload_n 0, 1) := by decide +kernel
theorem dX1_askedBehind_21 : decode cX1_askedBehind 21 = .ok (.getfield 18, 3) := by decide +kernel
theorem dX1_askedBehind_24 : decode cX1_askedBehind 24 = .ok (.iload 5, 2) := by decide +kernel
theorem dX1_askedBehind_26 : decode cX1_askedBehind 26 = .ok (.iaload, 1) := by decide +kernel
theorem dX1_askedBehind_27 : decode cX1_askedBehind 27 = .ok (.iload_n 2, 1) := by decide +kernel
theorem dX1_askedBehind_28 : decode cX1_askedBehind 28 = .ok (.if_icmp .le 14, 3) := by decide +kernel
theorem dX1_askedBehind_31 : decode cX1_askedBehind 31 = .ok (.aload_n 0, 1) := by decide +kernel
theorem dX1_askedBehind_32 : decode cX1_askedBehind 32 = .ok (.getfield 21, 3) := by decide +kernel
theorem dX1_askedBehind_35 : decode cX1_askedBehind 35 = .ok (.iload 5, 2) := by decide +kernel
theorem dX1_askedBehind_37 : decode cX1_askedBehind 37 = .ok (.iaload, 1) := by decide +kernel
theorem dX1_askedBehind_38 : decode cX1_askedBehind 38 = .ok (.iload_n 3, 1) := by decide +kernel
theorem dX1_askedBehind_39 : decode cX1_askedBehind 39 = .ok (.if_icmp .gt 12, 3) := by decide +kernel
theorem dX1_askedBehind_42 : decode cX1_askedBehind 42 = .ok (.iload 4, 2) := by decide +kernel
theorem dX1_askedBehind_44 : decode cX1_askedBehind 44 = .ok (.iconst 1, 1) := by decide +kernel
theorem dX1_askedBehind_45 : decode cX1_askedBehind 45 = .ok (.iload 5, 2) := by decide +kernel
theorem dX1_askedBehind_47 : decode cX1_askedBehind 47 = .ok (.ishl, 1) := by decide +kernel
theorem dX1_askedBehind_48 : decode cX1_askedBehind 48 = .ok (.ior, 1) := by decide +kernel
theorem dX1_askedBehind_49 : decode cX1_askedBehind 49 = .ok (.istore 4, 2) := by decide +kernel
theorem dX1_askedBehind_51 : decode cX1_askedBehind 51 = .ok (.iinc 5 1, 3) := by decide +kernel
theorem dX1_askedBehind_54 : decode cX1_askedBehind 54 = .ok (.goto (-43), 3) := by decide +kernel
theorem dX1_askedBehind_57 : decode cX1_askedBehind 57 = .ok (.iload 4, 2) := by decide +kernel
theorem dX1_askedBehind_59 : decode cX1_askedBehind 59 = .ok (.ireturn, 1) := by decide +kernel
theorem dX2_init_0 : decode cX2_init 0 = .ok (.aload_n 0, 1) := by decide +kernel
theorem dX2_init_1 : decode cX2_init 1 = .ok (.invokespecial 3, 3) := by decide +kernel
theorem dX2_init_4 : decode cX2_init 4 = .ok (.aload_n 0, 1) := by decide +kernel
theorem dX2_init_5 : decode cX2_init 5 = .ok (.bipush 10, 2) := by decide +kernel
theorem dX2_init_7 : decode cX2_init 7 = .ok (.anewarray 9, 3) := by decide +kernel
theorem dX2_init_10 : decode cX2_init 10 = .ok (.putfield 11, 3) := by decide +kernel
theorem dX2_init_13 : decode cX2_init 13 = .ok (.iconst 0, 1) := by decide +kernel
theorem dX2_init_14 : decode cX2_init 14 = .ok (.istore_n 2, 1) := by decide +kernel
theorem dX2_init_15 : decode cX2_init 15 = .ok (.iload_n 2, 1) := by decide +kernel
theorem dX2_init_16 : decode cX2_init 16 = .ok (.bipush 10, 2) := by decide +kernel
theorem dX2_init_18 : decode cX2_init 18 = .ok (.if_icmp .ge 23, 3) := by decide +kernel
theorem dX2_init_21 : decode cX2_init 21 = .ok (.aload_n 0, 1) := by decide +kernel
theorem dX2_init_22 : decode cX2_init 22 = .ok (.getfield 11, 3) := by decide +kernel
theorem dX2_init_25 : decode cX2_init 25 = .ok (.iload_n 2, 1) := by decide +kernel
theorem dX2_init_26 : decode cX2_init 26 = .ok (.new 9, 3) := by decide +kernel
theorem dX2_init_29 : decode cX2_init 29 = .ok (.dup, 1) := by decide +kernel
theorem dX2_init_30 : decode cX2_init 30 = .ok (.aload_n 1, 1) := by decide +kernel
theorem dX2_init_31 : decode cX2_init 31 = .ok (.invokespecial 17, 3) := by decide +kernel
theorem dX2_init_34 : decode cX2_init 34 = .ok (.aastore, 1) := by decide +kernel
theorem dX2_init_35 : decode cX2_init 35 = .ok (.iinc 2 1, 3) := by decide +kernel
theorem dX2_init_38 : decode cX2_init 38 = .ok (.goto (-23), 3) := by decide +kernel
theorem dX2_init_41 : decode cX2_init 41 = .ok (.return_, 1) := by decide +kernel
theorem dX2_push_0 : decode cX2_push 0 = .ok (.aload_n 0, 1) := by decide +kernel
theorem dX2_push_1 : decode cX2_push 1 = .ok (.getfield 11, 3) := by decide +kernel
theorem dX2_push_4 : decode cX2_push 4 = .ok (.aload_n 0, 1) := by decide +kernel
theorem dX2_push_5 : decode cX2_push 5 = .ok (.getfield 20, 3) := by decide +kernel
theorem dX2_push_8 : decode cX2_push 8 = .ok (.aaload, 1) := by decide +kernel
theorem dX2_push_9 : decode cX2_push 9 = .ok (.aload_n 1, 1) := by decide +kernel
theorem dX2_push_10 : decode cX2_push 10 = .ok (.invokevirtual 24, 3) := by decide +kernel
theorem dX2_push_13 : decode cX2_push 13 = .ok (.aload_n 0, 1) := by decide +kernel
theorem dX2_push_14 : decode cX2_push 14 = .ok (.aload_n 0, 1) := by decide +kernel
theorem dX2_push_15 : decode cX2_push 15 = .ok (.getfield 20, 3) := by decide +kernel
theorem dX2_push_18 : decode cX2_push 18 = .ok (.bipush 9, 2) := by decide +kernel
theorem dX2_push_20 : decode cX2_push 20 = .ok (.if_icmp .ne 7, 3) := by decide +kernel
theorem dX2_push_23 : decode cX2_push 23 = .ok (.iconst 0, 1) := by decide +kernel
theorem dX2_push_24 : decode cX2_push 24 = .ok (.goto 9, 3) := by decide +kernel
theorem dX2_push_27 : decode cX2_push 27 = .ok (.aload_n 0, 1) := by decide +kernel
theorem dX2_push_28 : decode cX2_push 28 = .ok (.getfield 20, 3) := by decide +kernel
theorem dX2_push_31 : decode cX2_push 31 = .ok (.iconst 1, 1) := by decide +kernel
theorem dX2_push_32 : decode cX2_push 32 = .ok (.iadd, 1) := by decide +kernel
theorem dX2_push_33 : decode cX2_push 33 = .ok (.putfield 20, 3) := by decide +kernel
theorem dX2_push_36 : decode cX2_push 36 = .ok (.aload_n 0, 1) := by decide +kernel
theorem dX2_push_37 : decode cX2_push 37 = .ok (.aload_n 0, 1) := by decide +kernel
theorem dX2_push_38 : decode cX2_push 38 = .ok (.getfield 28, 3) := by decide +kernel
theorem dX2_push_41 : decode cX2_push 41 = .ok (.iconst 1, 1) := by decide +kernel
theorem dX2_push_42 : decode cX2_push 42 = .ok (.iadd, 1) := by decide +kernel
theorem dX2_push_43 : decode cX2_push 43 = .ok (.bipush 10, 2) := by decide +kernel
theorem dX2_push_45 : decode cX2_push 45 = .ok (.invokestatic 31, 3) := by decide +kernel
theorem dX2_push_48 : decode cX2_push 48 = .ok (.putfield 28, 3) := by decide +kernel
theorem dX2_push_51 : decode cX2_push 51 = .ok (.return_, 1) := by decide +kernel
theorem dX2_pop_0 : decode cX2_pop 0 = .ok (.aload_n 0, 1) := by decide +kernel
theorem dX2_pop_1 : decode cX2_pop 1 = .ok (.aload_n 0, 1) := by decide +kernel
theorem dX2_pop_2 : decode cX2_pop 2 = .ok (.getfield 20, 3) := by decide +kernel
theorem dX2_pop_5 : decode cX2_pop 5 = .ok (.ifCond .ne 8, 3) := by decide +kernel
theorem dX2_pop_8 : decode cX2_pop 8 = .ok (.bipush 9, 2) := by decide +kernel
theorem dX2_pop_10 : decode cX2_pop 10 = .ok (.goto 9, 3) := by decide +kernel
theorem dX2_pop_13 : decode cX2_pop 13 = .ok (.aload_n 0, 1) := by decide +kernel
theorem dX2_pop_14 : decode cX2_pop 14 = .ok (.getfield 20, 3) := by decide +kernel
theorem dX2_pop_17 : decode cX2_pop 17 = .ok (.iconst 1, 1) := by decide +kernel
theorem dX2_pop_18 : decode cX2_pop 18 = .ok (.isub, 1) := by decide +kernel
theorem dX2_pop_19 : decode cX2_pop 19 = .ok (.putfield 20, 3) := by decide +kernel
theorem dX2_pop_22 : decode cX2_pop 22 = .ok (.aload_n 0, 1) := by decide +kernel
theorem dX2_pop_23 : decode cX2_pop 23 = .ok (.dup, 1) := by decide +kernel
theorem dX2_pop_24 : decode cX2_pop 24 = .ok (.getfield 28, 3) := by decide +kernel
theorem dX2_pop_27 : decode cX2_pop 27 = .ok (.iconst 1, 1) := by decide +kernel
theorem dX2_pop_28 : decode cX2_pop 28 = .ok (.isub, 1) := by decide +kernel
theorem dX2_pop_29 : decode cX2_pop 29 = .ok (.putfield 28, 3) := by decide +kernel
theorem dX2_pop_32 : decode cX2_pop 32 = .ok (.aload_n 1, 1) := by decide +kernel
theorem dX2_pop_33 : decode cX2_pop 33 = .ok (.aload_n 0, 1) := by decide +kernel
theorem dX2_pop_34 : decode cX2_pop 34 = .ok (.getfield 11, 3) := by decide +kernel
theorem dX2_pop_37 : decode cX2_pop 37 = .ok (.aload_n 0, 1) := by decide +kernel
theorem dX2_pop_38 : decode cX2_pop 38 = .ok (.getfield 20, 3) := by decide +kernel
theorem dX2_pop_41 : decode cX2_pop 41 = .ok (.aaload, 1) := by decide +kernel
theorem dX2_pop_42 : decode cX2_pop 42 = .ok (.invokevirtual 24, 3) := by decide +kernel
theorem dX2_pop_45 : decode cX2_pop 45 = .ok (.return_, 1) := by decide +kernel
theorem dX3_init_0 : decode cX3_init 0 = .ok (.aload_n 0, 1) := by decide +kernel
theorem dX3_init_1 : decode cX3_init 1 = .ok (.invokespecial 3, 3) := by decide +kernel
theorem dX3_init_4 : decode cX3_init 4 = .ok (.aload_n 0, 1) := by decide +kernel
theorem dX3_init_5 : decode cX3_init 5 = .ok (.bipush 6, 2) := by decide +kernel
theorem dX3_init_7 : decode cX3_init 7 = .ok (.newarray .int, 2) := by decide +kernel
theorem dX3_init_9 : decode cX3_init 9 = .ok (.putfield 9, 3) := by decide +kernel
theorem dX3_init_12 : decode cX3_init 12 = .ok (.aload_n 0, 1) := by decide +kernel
theorem dX3_init_13 : decode cX3_init 13 = .ok (.bipush 6, 2) := by decide +kernel
theorem dX3_init_15 : decode cX3_init 15 = .ok (.newarray .int, 2) := by decide +kernel
theorem dX3_init_17 : decode cX3_init 17 = .ok (.putfield 15, 3) := by decide +kernel
theorem dX3_init_20 : decode cX3_init 20 = .ok (.aload_n 0, 1) := by decide +kernel
theorem dX3_init_21 : decode cX3_init 21 = .ok (.aload_n 1, 1) := by decide +kernel
theorem dX3_init_22 : decode cX3_init 22 = .ok (.putfield 18, 3) := by decide +kernel
theorem dX3_init_25 : decode cX3_init 25 = .ok (.return_, 1) := by decide +kernel
theorem dX3_begin_0 : decode cX3_begin 0 = .ok (.aload_n 0, 1) := by decide +kernel
theorem dX3_begin_1 : decode cX3_begin 1 = .ok (.iconst 0, 1) := by decide +kernel
theorem dX3_begin_2 : decode cX3_begin 2 = .ok (.putfield 22, 3) := by decide +kernel
theorem dX3_begin_5 : decode cX3_begin 5 = .ok (.aload_n 0, 1) := by decide +kernel
theorem dX3_begin_6 : decode cX3_begin 6 = .ok (.iconst 0, 1) := by decide +kernel
theorem dX3_begin_7 : decode cX3_begin 7 = .ok (.putfield 26, 3) := by decide +kernel
theorem dX3_begin_10 : decode cX3_begin 10 = .ok (.iconst 0, 1) := by decide +kernel
theorem dX3_begin_11 : decode cX3_begin 11 = .ok (.istore_n 1, 1) := by decide +kernel
theorem dX3_begin_12 : decode cX3_begin 12 = .ok (.iload_n 1, 1) := by decide +kernel
theorem dX3_begin_13 : decode cX3_begin 13 = .ok (.bipush 6, 2) := by decide +kernel
theorem dX3_begin_15 : decode cX3_begin 15 = .ok (.if_icmp .ge 39, 3) := by decide +kernel
theorem dX3_begin_18 : decode cX3_begin 18 = .ok (.aload_n 0, 1) := by decide +kernel
theorem dX3_begin_19 : decode cX3_begin 19 = .ok (.getfield 9, 3) := by decide +kernel
theorem dX3_begin_22 : decode cX3_begin 22 = .ok (.iload_n 1, 1) := by decide +kernel
theorem dX3_begin_23 : decode cX3_begin 23 = .ok (.aload_n 0, 1) := by decide +kernel
theorem dX3_begin_24 : decode cX3_begin 24 = .ok (.getfield 18, 3) := by decide +kernel
theorem dX3_begin_27 : decode cX3_begin 27 = .ok (.getfield 29, 3) := by decide +kernel
theorem dX3_begin_30 : decode cX3_begin 30 = .ok (.iload_n 1, 1) := by decide +kernel
theorem dX3_begin_31 : decode cX3_begin 31 = .ok (.iaload, 1) := by decide +kernel
theorem dX3_begin_32 : decode cX3_begin 32 = .ok (.iastore, 1) := by decide +kernel
theorem dX3_begin_33 : decode cX3_begin 33 = .ok (.aload_n 0, 1) := by decide +kernel
theorem dX3_begin_34 : decode cX3_begin 34 = .ok (.getfield 15, 3) := by decide +kernel
theorem dX3_begin_37 : decode cX3_begin 37 = .ok (.iload_n 1, 1) := by decide +kernel
theorem dX3_begin_38 : decode cX3_begin 38 = .ok (.aload_n 0, 1) := by decide +kernel
theorem dX3_begin_39 : decode cX3_begin 39 = .ok (.getfield 18, 3) := by decide +kernel
theorem dX3_begin_42 : decode cX3_begin 42 = .ok (.getfield 34, 3) := by decide +kernel
theorem dX3_begin_45 : decode cX3_begin 45 = .ok (.iload_n 1, 1) := by decide +kernel
theorem dX3_begin_46 : decode cX3_begin 46 = .ok (.iaload, 1) := by decide +kernel
theorem dX3_begin_47 : decode cX3_begin 47 = .ok (.iastore, 1) := by decide +kernel
theorem dX3_begin_48 : decode cX3_begin 48 = .ok (.iinc 1 1, 3) := by decide +kernel
theorem dX3_begin_51 : decode cX3_begin 51 = .ok (.goto (-39), 3) := by decide +kernel
theorem dX3_begin_54 : decode cX3_begin 54 = .ok (.return_, 1) := by decide +kernel
theorem dX3_copyFrom_0 : decode cX3_copyFrom 0 = .ok (.aload_n 0, 1) := by decide +kernel
theorem dX3_copyFrom_1 : decode cX3_copyFrom 1 = .ok (.aload_n 1, 1) := by decide +kernel
theorem dX3_copyFrom_2 : decode cX3_copyFrom 2 = .ok (.getfield 22, 3) := by decide +kernel
theorem dX3_copyFrom_5 : decode cX3_copyFrom 5 = .ok (.putfield 22, 3) := by decide +kernel
theorem dX3_copyFrom_8 : decode cX3_copyFrom 8 = .ok (.aload_n 0, 1) := by decide +kernel
theorem dX3_copyFrom_9 : decode cX3_copyFrom 9 = .ok (.aload_n 1, 1) := by decide +kernel
theorem dX3_copyFrom_10 : decode cX3_copyFrom 10 = .ok (.getfield 26, 3) := by decide +kernel
theorem dX3_copyFrom_13 : decode cX3_copyFrom 13 = .ok (.putfield 26, 3) := by decide +kernel
theorem dX3_copyFrom_16 : decode cX3_copyFrom 16 = .ok (.iconst 0, 1) := by decide +kernel
theorem dX3_copyFrom_17 : decode cX3_copyFrom 17 = .ok (.istore_n 2, 1) := by decide +kernel
theorem dX3_copyFrom_18 : decode cX3_copyFrom 18 = .ok (.iload_n 2, 1) := by decide +kernel
theorem dX3_copyFrom_19 : decode cX3_copyFrom 19 = .ok (.bipush 6, 2) := by decide +kernel
theorem dX3_copyFrom_21 : decode cX3_copyFrom 21 = .ok (.if_icmp .ge 33, 3) := by decide +kernel
theorem dX3_copyFrom_24 : decode cX3_copyFrom 24 = .ok (.aload_n 0, 1) := by decide +kernel
theorem dX3_copyFrom_25 : decode cX3_copyFrom 25 = .ok (.getfield 9, 3) := by decide +kernel
theorem dX3_copyFrom_28 : decode cX3_copyFrom 28 = .ok (.iload_n 2, 1) := by decide +kernel
theorem dX3_copyFrom_29 : decode cX3_copyFrom 29 = .ok (.aload_n 1, 1) := by decide +kernel
theorem dX3_copyFrom_30 : decode cX3_copyFrom 30 = .ok (.getfield 9, 3) := by decide +kernel
theorem dX3_copyFrom_33 : decode cX3_copyFrom 33 = .ok (.iload_n 2, 1) := by decide +kernel
theorem dX3_copyFrom_34 : decode cX3_copyFrom 34 = .ok (.iaload, 1) := by decide +kernel
theorem dX3_copyFrom_35 : decode cX3_copyFrom 35 = .ok (.iastore, 1) := by decide +kernel
theorem dX3_copyFrom_36 : decode cX3_copyFrom 36 = .ok (.aload_n 0, 1) := by decide +kernel
theorem dX3_copyFrom_37 : decode cX3_copyFrom 37 = .ok (.getfield 15, 3) := by decide +kernel
theorem dX3_copyFrom_40 : decode cX3_copyFrom 40 = .ok (.iload_n 2, 1) := by decide +kernel
theorem dX3_copyFrom_41 : decode cX3_copyFrom 41 = .ok (.aload_n 1, 1) := by decide +kernel
theorem dX3_copyFrom_42 : decode cX3_copyFrom 42 = .ok (.getfield 15, 3) := by decide +kernel
theorem dX3_copyFrom_45 : decode cX3_copyFrom 45 = .ok (.iload_n 2, 1) := by decide +kernel
theorem dX3_copyFrom_46 : decode cX3_copyFrom 46 = .ok (.iaload, 1) := by decide +kernel
theorem dX3_copyFrom_47 : decode cX3_copyFrom 47 = .ok (.iastore, 1) := by decide +kernel
theorem dX3_copyFrom_48 : decode cX3_copyFrom 48 = .ok (.iinc 2 1, 3) := by decide +kernel
theorem dX3_copyFrom_51 : decode cX3_copyFrom 51 = .ok (.goto (-33), 3) := by decide +kernel
theorem dX3_copyFrom_54 : decode cX3_copyFrom 54 = .ok (.return_, 1) := by decide +kernel
theorem dX3_hasAsked_0 : decode cX3_hasAsked 0 = .ok (.aload_n 0, 1) := by decide +kernel
theorem dX3_hasAsked_1 : decode cX3_hasAsked 1 = .ok (.getfield 26, 3) := by decide +kernel
theorem dX3_hasAsked_4 : decode cX3_hasAsked 4 = .ok (.iload_n 1, 1) := by decide +kernel
theorem dX3_hasAsked_5 : decode cX3_hasAsked 5 = .ok (.ishr, 1) := by decide +kernel
theorem dX3_hasAsked_6 : decode cX3_hasAsked 6 = .ok (.iconst 1, 1) := by decide +kernel
theorem dX3_hasAsked_7 : decode cX3_hasAsked 7 = .ok (.iand, 1) := by decide +kernel
theorem dX3_hasAsked_8 : decode cX3_hasAsked 8 = .ok (.iconst 1, 1) := by decide +kernel
theorem dX3_hasAsked_9 : decode cX3_hasAsked 9 = .ok (.if_icmp .ne 7, 3) := by decide +kernel
theorem dX3_hasAsked_12 : decode cX3_hasAsked 12 = .ok (.iconst 1, 1) := by decide +kernel
theorem dX3_hasAsked_13 : decode cX3_hasAsked 13 = .ok (.goto 4, 3) := by decide +kernel
theorem dX3_hasAsked_16 : decode cX3_hasAsked 16 = .ok (.iconst 0, 1) := by decide +kernel
theorem dX3_hasAsked_17 : decode cX3_hasAsked 17 = .ok (.ireturn, 1) := by decide +kernel
theorem dX3_hungWith_0 : decode cX3_hungWith 0 = .ok (.iconst 0, 1) := by decide +kernel
theorem dX3_hungWith_1 : decode cX3_hungWith 1 = .ok (.istore_n 2, 1) := by decide +kernel
theorem dX3_hungWith_2 : decode cX3_hungWith 2 = .ok (.iconst 0, 1) := by decide +kernel
theorem dX3_hungWith_3 : decode cX3_hungWith 3 = .ok (.istore_n 3, 1) := by decide +kernel
theorem dX3_hungWith_4 : decode cX3_hungWith 4 = .ok (.iload_n 3, 1) := by decide +kernel
theorem dX3_hungWith_5 : decode cX3_hungWith 5 = .ok (.aload_n 0, 1) := by decide +kernel
theorem dX3_hungWith_6 : decode cX3_hungWith 6 = .ok (.getfield 18, 3) := by decide +kernel
theorem dX3_hungWith_9 : decode cX3_hungWith 9 = .ok (.getfield 35, 3) := by decide +kernel
theorem dX3_hungWith_12 : decode cX3_hungWith 12 = .ok (.if_icmp .ge 25, 3) := by decide +kernel
theorem dX3_hungWith_15 : decode cX3_hungWith 15 = .ok (.aload_n 0, 1) := by decide +kernel
theorem dX3_hungWith_16 : decode cX3_hungWith 16 = .ok (.getfield 15, 3) := by decide +kernel
theorem dX3_hungWith_19 : decode cX3_hungWith 19 = .ok (.iload_n 3, 1) := by decide +kernel
theorem dX3_hungWith_20 : decode cX3_hungWith 20 = .ok (.iaload, 1) := by decide +kernel
theorem dX3_hungWith_21 : decode cX3_hungWith 21 = .ok (.iload_n 1, 1) := by decide +kernel
theorem dX3_hungWith_22 : decode cX3_hungWith 22 = .ok (.if_icmp .ne 9, 3) := by decide +kernel
theorem dX3_hungWith_25 : decode cX3_hungWith 25 = .ok (.iload_n 2, 1) := by decide +kernel
theorem dX3_hungWith_26 : decode cX3_hungWith 26 = .ok (.iconst 1, 1) := by decide +kernel
theorem dX3_hungWith_27 : decode cX3_hungWith 27 = .ok (.iload_n 3, 1) := by decide +kernel
theorem dX3_hungWith_28 : decode cX3_hungWith 28 = .ok (.ishl, 1) := by decide +kernel
theorem dX3_hungWith_29 : decode cX3_hungWith 29 = .ok (.ior, 1) := by decide +kernel
theorem dX3_hungWith_30 : decode cX3_hungWith 30 = .ok (.istore_n 2, 1) := by decide +kernel
theorem dX3_hungWith_31 : decode cX3_hungWith 31 = .ok (.iinc 3 1, 3) := by decide +kernel
theorem dX3_hungWith_34 : decode cX3_hungWith 34 = .ok (.goto (-30), 3) := by decide +kernel
theorem dX3_hungWith_37 : decode cX3_hungWith 37 = .ok (.iload_n 2, 1) := by decide +kernel
theorem dX3_hungWith_38 : decode cX3_hungWith 38 = .ok (.ireturn, 1) := by decide +kernel
theorem dX3_ringOf_0 : decode cX3_ringOf 0 = .ok (.aload_n 0, 1) := by decide +kernel
theorem dX3_ringOf_1 : decode cX3_ringOf 1 = .ok (.getfield 15, 3) := by decide +kernel
theorem dX3_ringOf_4 : decode cX3_ringOf 4 = .ok (.iload_n 1, 1) := by decide +kernel
theorem dX3_ringOf_5 : decode cX3_ringOf 5 = .ok (.iaload, 1) := by decide +kernel
theorem dX3_ringOf_6 : decode cX3_ringOf 6 = .ok (.istore_n 2, 1) := by decide +kernel
theorem dX3_ringOf_7 : decode cX3_ringOf 7 = .ok (.iconst 1, 1) := by decide +kernel
theorem dX3_ringOf_8 : decode cX3_ringOf 8 = .ok (.istore_n 3, 1) := by decide +kernel
theorem dX3_ringOf_9 : decode cX3_ringOf 9 = .ok (.iload_n 3, 1) := by decide +kernel
theorem dX3_ringOf_10 : decode cX3_ringOf 10 = .ok (.aload_n 0, 1) := by decide +kernel
theorem dX3_ringOf_11 : decode cX3_ringOf 11 = .ok (.getfield 18, 3) := by decide +kernel
theorem dX3_ringOf_14 : decode cX3_ringOf 14 = .ok (.getfield 35, 3) := by decide +kernel
theorem dX3_ringOf_17 : decode cX3_ringOf 17 = .ok (.if_icmp .gt 34, 3) := by decide +kernel
theorem dX3_ringOf_20 : decode cX3_ringOf 20 = .ok (.aload_n 0, 1) := by decide +kernel
theorem dX3_ringOf_21 : decode cX3_ringOf 21 = .ok (.getfield 18, 3) := by decide +kernel
theorem dX3_ringOf_24 : decode cX3_ringOf 24 = .ok (.iload_n 2, 1) := by decide +kernel
theorem dX3_ringOf_25 : decode cX3_ringOf 25 = .ok (.invokevirtual 38, 3) := by decide +kernel
theorem dX3_ringOf_28 : decode cX3_ringOf 28 = .ok (.ifCond .eq 23, 3) := by decide +kernel
theorem dX3_ringOf_31 : decode cX3_ringOf 31 = .ok (.iload_n 2, 1) := by decide +kernel
theorem dX3_ringOf_32 : decode cX3_ringOf 32 = .ok (.iload_n 1, 1) := by decide +kernel
theorem dX3_ringOf_33 : decode cX3_ringOf 33 = .ok (.if_icmp .ne 5, 3) := by decide +kernel
theorem dX3_ringOf_36 : decode cX3_ringOf 36 = .ok (.iload_n 3, 1) := by decide +kernel
theorem dX3_ringOf_37 : decode cX3_ringOf 37 = .ok (.ireturn, 1) := by decide +kernel
theorem dX3_ringOf_38 : decode cX3_ringOf 38 = .ok (.aload_n 0, 1) := by decide +kernel
theorem dX3_ringOf_39 : decode cX3_ringOf 39 = .ok (.getfield 15, 3) := by decide +kernel
theorem dX3_ringOf_42 : decode cX3_ringOf 42 = .ok (.iload_n 2, 1) := by decide +kernel
theorem dX3_ringOf_43 : decode cX3_ringOf 43 = .ok (.iaload, 1) := by decide +kernel
theorem dX3_ringOf_44 : decode cX3_ringOf 44 = .ok (.istore_n 2, 1) := by decide +kernel
theorem dX3_ringOf_45 : decode cX3_ringOf 45 = .ok (.iinc 3 1, 3) := by decide +kernel
theorem dX3_ringOf_48 : decode cX3_ringOf 48 = .ok (.goto (-39), 3) := by decide +kernel
theorem dX3_ringOf_51 : decode cX3_ringOf 51 = .ok (.iconst 0, 1) := by decide +kernel
theorem dX3_ringOf_52 : decode cX3_ringOf 52 = .ok (.ireturn, 1) := by decide +kernel
theorem dX3_leftTogether_0 : decode cX3_leftTogether 0 = .ok (.iconst 0, 1) := by decide +kernel
theorem dX3_leftTogether_1 : decode cX3_leftTogether 1 = .ok (.istore_n 1, 1) := by decide +kernel
theorem dX3_leftTogether_2 : decode cX3_leftTogether 2 = .ok (.iconst 0, 1) := by decide +kernel
theorem dX3_leftTogether_3 : decode cX3_leftTogether 3 = .ok (.istore_n 2, 1) := by decide +kernel
theorem dX3_leftTogether_4 : decode cX3_leftTogether 4 = .ok (.iload_n 2, 1) := by decide +kernel
theorem dX3_leftTogether_5 : decode cX3_leftTogether 5 = .ok (.aload_n 0, 1) := by decide +kernel
theorem dX3_leftTogether_6 : decode cX3_leftTogether 6 = .ok (.getfield 18, 3) := by decide +kernel
theorem dX3_leftTogether_9 : decode cX3_leftTogether 9 = .ok (.getfield 35, 3) := by decide +kernel
theorem dX3_leftTogether_12 : decode cX3_leftTogether 12 = .ok (.if_icmp .ge 18, 3) := by decide +kernel
theorem dX3_leftTogether_15 : decode cX3_leftTogether 15 = .ok (.iload_n 1, 1) := by decide +kernel
theorem dX3_leftTogether_16 : decode cX3_leftTogether 16 = .ok (.aload_n 0, 1) := by decide +kernel
theorem dX3_leftTogether_17 : decode cX3_leftTogether 17 = .ok (.getfield 9, 3) := by decide +kernel
theorem dX3_leftTogether_20 : decode cX3_leftTogether 20 = .ok (.iload_n 2, 1) := by decide +kernel
theorem dX3_leftTogether_21 : decode cX3_leftTogether 21 = .ok (.iaload, 1) := by decide +kernel
theorem dX3_leftTogether_22 : decode cX3_leftTogether 22 = .ok (.iadd, 1) := by decide +kernel
theorem dX3_leftTogether_23 : decode cX3_leftTogether 23 = .ok (.istore_n 1, 1) := by decide +kernel
theorem dX3_leftTogether_24 : decode cX3_leftTogether 24 = .ok (.iinc 2 1, 3) := by decide +kernel
theorem dX3_leftTogether_27 : decode cX3_leftTogether 27 = .ok (.goto (-23), 3) := by decide +kernel
theorem dX3_leftTogether_30 : decode cX3_leftTogether 30 = .ok (.iload_n 1, 1) := by decide +kernel
theorem dX3_leftTogether_31 : decode cX3_leftTogether 31 = .ok (.ireturn, 1) := by decide +kernel
theorem dX3_allMown_0 : decode cX3_allMown 0 = .ok (.iconst 0, 1) := by decide +kernel
theorem dX3_allMown_1 : decode cX3_allMown 1 = .ok (.istore_n 2, 1) := by decide +kernel
theorem dX3_allMown_2 : decode cX3_allMown 2 = .ok (.iload_n 2, 1) := by decide +kernel
theorem dX3_allMown_3 : decode cX3_allMown 3 = .ok (.aload_n 0, 1) := by decide +kernel
theorem dX3_allMown_4 : decode cX3_allMown 4 = .ok (.getfield 18, 3) := by decide +kernel
theorem dX3_allMown_7 : decode cX3_allMown 7 = .ok (.getfield 35, 3) := by decide +kernel
theorem dX3_allMown_10 : decode cX3_allMown 10 = .ok (.if_icmp .ge 29, 3) := by decide +kernel
theorem dX3_allMown_13 : decode cX3_allMown 13 = .ok (.iload_n 1, 1) := by decide +kernel
theorem dX3_allMown_14 : decode cX3_allMown 14 = .ok (.iload_n 2, 1) := by decide +kernel
theorem dX3_allMown_15 : decode cX3_allMown 15 = .ok (.ishr, 1) := by decide +kernel
theorem dX3_allMown_16 : decode cX3_allMown 16 = .ok (.iconst 1, 1) := by decide +kernel
theorem dX3_allMown_17 : decode cX3_allMown 17 = .ok (.iand, 1) := by decide +kernel
theorem dX3_allMown_18 : decode cX3_allMown 18 = .ok (.iconst 1, 1) := by decide +kernel
theorem dX3_allMown_19 : decode cX3_allMown 19 = .ok (.if_icmp .ne 14, 3) := by decide +kernel
theorem dX3_allMown_22 : decode cX3_allMown 22 = .ok (.aload_n 0, 1) := by decide +kernel
theorem dX3_allMown_23 : decode cX3_allMown 23 = .ok (.getfield 9, 3) := by decide +kernel
theorem dX3_allMown_26 : decode cX3_allMown 26 = .ok (.iload_n 2, 1) := by decide +kernel
theorem dX3_allMown_27 : decode cX3_allMown 27 = .ok (.iaload, 1) := by decide +kernel
theorem dX3_allMown_28 : decode cX3_allMown 28 = .ok (.ifCond .le 5, 3) := by decide +kernel
theorem dX3_allMown_31 : decode cX3_allMown 31 = .ok (.iconst 0, 1) := by decide +kernel
theorem dX3_allMown_32 : decode cX3_allMown 32 = .ok (.ireturn, 1) := by decide +kernel
theorem dX3_allMown_33 : decode cX3_allMown 33 = .ok (.iinc 2 1, 3) := by decide +kernel
theorem dX3_allMown_36 : decode cX3_allMown 36 = .ok (.goto (-34), 3) := by decide +kernel
theorem dX3_allMown_39 : decode cX3_allMown 39 = .ok (.iconst 1, 1) := by decide +kernel
theorem dX3_allMown_40 : decode cX3_allMown 40 = .ok (.ireturn, 1) := by decide +kernel
theorem dX3_pass_0 : decode cX3_pass 0 = .ok (.aload_n 0, 1) := by decide +kernel
theorem dX3_pass_1 : decode cX3_pass 1 = .ok (.aload_n 0, 1) := by decide +kernel
theorem dX3_pass_2 : decode cX3_pass 2 = .ok (.getfield 18, 3) := by decide +kernel
theorem dX3_pass_5 : decode cX3_pass 5 = .ok (.aload_n 0, 1) := by decide +kernel
theorem dX3_pass_6 : decode cX3_pass 6 = .ok (.getfield 26, 3) := by decide +kernel
theorem dX3_pass_9 : decode cX3_pass 9 = .ok (.aload_n 0, 1) := by decide +kernel
theorem dX3_pass_10 : decode cX3_pass 10 = .ok (.getfield 22, 3) := by decide +kernel
theorem dX3_pass_13 : decode cX3_pass 13 = .ok (.invokevirtual 42, 3) := by decide +kernel
theorem dX3_pass_16 : decode cX3_pass 16 = .ok (.putfield 26, 3) := by decide +kernel
theorem dX3_pass_19 : decode cX3_pass 19 = .ok (.aload_n 0, 1) := by decide +kernel
theorem dX3_pass_20 : decode cX3_pass 20 = .ok (.dup, 1) := by decide +kernel
theorem dX3_pass_21 : decode cX3_pass 21 = .ok (.getfield 22, 3) := by decide +kernel
theorem dX3_pass_24 : decode cX3_pass 24 = .ok (.iconst 1, 1) := by decide +kernel
theorem dX3_pass_25 : decode cX3_pass 25 = .ok (.iadd, 1) := by decide +kernel
theorem dX3_pass_26 : decode cX3_pass 26 = .ok (.putfield 22, 3) := by decide +kernel
theorem dX3_pass_29 : decode cX3_pass 29 = .ok (.iload_n 1, 1) := by decide +kernel
theorem dX3_pass_30 : decode cX3_pass 30 = .ok (.ifCond .eq 10, 3) := by decide +kernel
theorem dX3_pass_33 : decode cX3_pass 33 = .ok (.aload_n 0, 1) := by decide +kernel
theorem dX3_pass_34 : decode cX3_pass 34 = .ok (.invokevirtual 46, 3) := by decide +kernel
theorem dX3_pass_37 : decode cX3_pass 37 = .ok (.goto 4, 3) := by decide +kernel
theorem dX3_pass_40 : decode cX3_pass 40 = .ok (.iconst 0, 1) := by decide +kernel
theorem dX3_pass_41 : decode cX3_pass 41 = .ok (.ireturn, 1) := by decide +kernel
theorem dX3_mowAll_0 : decode cX3_mowAll 0 = .ok (.iconst 0, 1) := by decide +kernel
theorem dX3_mowAll_1 : decode cX3_mowAll 1 = .ok (.istore_n 1, 1) := by decide +kernel
theorem dX3_mowAll_2 : decode cX3_mowAll 2 = .ok (.iconst 0, 1) := by decide +kernel
theorem dX3_mowAll_3 : decode cX3_mowAll 3 = .ok (.istore_n 2, 1) := by decide +kernel
theorem dX3_mowAll_4 : decode cX3_mowAll 4 = .ok (.iconst 0, 1) := by decide +kernel
theorem dX3_mowAll_5 : decode cX3_mowAll 5 = .ok (.istore_n 3, 1) := by decide +kernel
theorem dX3_mowAll_6 : decode cX3_mowAll 6 = .ok (.iload_n 3, 1) := by decide +kernel
theorem dX3_mowAll_7 : decode cX3_mowAll 7 = .ok (.aload_n 0, 1) := by decide +kernel
theorem dX3_mowAll_8 : decode cX3_mowAll 8 = .ok (.getfield 18, 3) := by decide +kernel
theorem dX3_mowAll_11 : decode cX3_mowAll 11 = .ok (.getfield 35, 3) := by decide +kernel
theorem dX3_mowAll_14 : decode cX3_mowAll 14 = .ok (.if_icmp .ge 48, 3) := by decide +kernel
theorem dX3_mowAll_17 : decode cX3_mowAll 17 = .ok (.aload_n 0, 1) := by decide +kernel
theorem dX3_mowAll_18 : decode cX3_mowAll 18 = .ok (.iload_n 3, 1) := by decide +kernel
theorem dX3_mowAll_19 : decode cX3_mowAll 19 = .ok (.invokevirtual 50, 3) := by decide +kernel
theorem dX3_mowAll_22 : decode cX3_mowAll 22 = .ok (.ifCond .eq 34, 3) := by decide +kernel
theorem dX3_mowAll_25 : decode cX3_mowAll 25 = .ok (.aload_n 0, 1) := by decide +kernel
theorem dX3_mowAll_26 : decode cX3_mowAll 26 = .ok (.getfield 9, 3) := by decide +kernel
theorem dX3_mowAll_29 : decode cX3_mowAll 29 = .ok (.iload_n 3, 1) := by decide +kernel
theorem dX3_mowAll_30 : decode cX3_mowAll 30 = .ok (.iaload, 1) := by decide +kernel
theorem dX3_mowAll_31 : decode cX3_mowAll 31 = .ok (.ifCond .le 19, 3) := by decide +kernel
theorem dX3_mowAll_34 : decode cX3_mowAll 34 = .ok (.aload_n 0, 1) := by decide +kernel
theorem dX3_mowAll_35 : decode cX3_mowAll 35 = .ok (.getfield 9, 3) := by decide +kernel
theorem dX3_mowAll_38 : decode cX3_mowAll 38 = .ok (.iload_n 3, 1) := by decide +kernel
theorem dX3_mowAll_39 : decode cX3_mowAll 39 = .ok (.dup2, 1) := by decide +kernel
theorem dX3_mowAll_40 : decode cX3_mowAll 40 = .ok (.iaload, 1) := by decide +kernel
theorem dX3_mowAll_41 : decode cX3_mowAll 41 = .ok (.iconst 1, 1) := by decide +kernel
theorem dX3_mowAll_42 : decode cX3_mowAll 42 = .ok (.isub, 1) := by decide +kernel
theorem dX3_mowAll_43 : decode cX3_mowAll 43 = .ok (.iastore, 1) := by decide +kernel
theorem dX3_mowAll_44 : decode cX3_mowAll 44 = .ok (.iinc 2 1, 3) := by decide +kernel
theorem dX3_mowAll_47 : decode cX3_mowAll 47 = .ok (.goto 9, 3) := by decide +kernel
theorem dX3_mowAll_50 : decode cX3_mowAll 50 = .ok (.iload_n 1, 1) := by decide +kernel
theorem dX3_mowAll_51 : decode cX3_mowAll 51 = .ok (.iconst 1, 1) := by decide +kernel
theorem dX3_mowAll_52 : decode cX3_mowAll 52 = .ok (.iload_n 3, 1) := by decide +kernel
theorem dX3_mowAll_53 : decode cX3_mowAll 53 = .ok (.ishl, 1) := by decide +kernel
theorem dX3_mowAll_54 : decode cX3_mowAll 54 = .ok (.ior, 1) := by decide +kernel
theorem dX3_mowAll_55 : decode cX3_mowAll 55 = .ok (.istore_n 1, 1) := by decide +kernel
theorem dX3_mowAll_56 : decode cX3_mowAll 56 = .ok (.iinc 3 1, 3) := by decide +kernel
theorem dX3_mowAll_59 : decode cX3_mowAll 59 = .ok (.goto (-53), 3) := by decide +kernel
theorem dX3_mowAll_62 : decode cX3_mowAll 62 = .ok (.iconst 0, 1) := by decide +kernel
theorem dX3_mowAll_63 : decode cX3_mowAll 63 = .ok (.istore_n 3, 1) := by decide +kernel
theorem dX3_mowAll_64 : decode cX3_mowAll 64 = .ok (.iload_n 3, 1) := by decide +kernel
theorem dX3_mowAll_65 : decode cX3_mowAll 65 = .ok (.aload_n 0, 1) := by decide +kernel
theorem dX3_mowAll_66 : decode cX3_mowAll 66 = .ok (.getfield 18, 3) := by decide +kernel
theorem dX3_mowAll_69 : decode cX3_mowAll 69 = .ok (.getfield 35, 3) := by decide +kernel
theorem dX3_mowAll_72 : decode cX3_mowAll 72 = .ok (.if_icmp .ge 29, 3) := by decide +kernel
theorem dX3_mowAll_75 : decode cX3_mowAll 75 = .ok (.iload_n 1, 1) := by decide +kernel
theorem dX3_mowAll_76 : decode cX3_mowAll 76 = .ok (.iload_n 3, 1) := by decide +kernel
theorem dX3_mowAll_77 : decode cX3_mowAll 77 = .ok (.ishr, 1) := by decide +kernel
theorem dX3_mowAll_78 : decode cX3_mowAll 78 = .ok (.iconst 1, 1) := by decide +kernel
theorem dX3_mowAll_79 : decode cX3_mowAll 79 = .ok (.iand, 1) := by decide +kernel
theorem dX3_mowAll_80 : decode cX3_mowAll 80 = .ok (.iconst 1, 1) := by decide +kernel
theorem dX3_mowAll_81 : decode cX3_mowAll 81 = .ok (.if_icmp .ne 14, 3) := by decide +kernel
theorem dX3_mowAll_84 : decode cX3_mowAll 84 = .ok (.aload_n 0, 1) := by decide +kernel
theorem dX3_mowAll_85 : decode cX3_mowAll 85 = .ok (.iload_n 3, 1) := by decide +kernel
theorem dX3_mowAll_86 : decode cX3_mowAll 86 = .ok (.invokevirtual 53, 3) := by decide +kernel
theorem dX3_mowAll_89 : decode cX3_mowAll 89 = .ok (.ifCond .eq 6, 3) := by decide +kernel
theorem dX3_mowAll_92 : decode cX3_mowAll 92 = .ok (.iinc 2 1, 3) := by decide +kernel
theorem dX3_mowAll_95 : decode cX3_mowAll 95 = .ok (.iinc 3 1, 3) := by decide +kernel
theorem dX3_mowAll_98 : decode cX3_mowAll 98 = .ok (.goto (-34), 3) := by decide +kernel
theorem dX3_mowAll_101 : decode cX3_mowAll 101 = .ok (.iload_n 2, 1) := by decide +kernel
theorem dX3_mowAll_102 : decode cX3_mowAll 102 = .ok (.ireturn, 1) := by decide +kernel
theorem dX3_mowsForAnother_0 : decode cX3_mowsForAnother 0 = .ok (.iconst 0, 1) := by decide +kernel
theorem dX3_mowsForAnother_1 : decode cX3_mowsForAnother 1 = .ok (.istore_n 2, 1) := by decide +kernel
theorem dX3_mowsForAnother_2 : decode cX3_mowsForAnother 2 = .ok (.iload_n 2, 1) := by decide +kernel
theorem dX3_mowsForAnother_3 : decode cX3_mowsForAnother 3 = .ok (.aload_n 0, 1) := by decide +kernel
theorem dX3_mowsForAnother_4 : decode cX3_mowsForAnother 4 = .ok (.getfield 18, 3) := by decide +kernel
theorem dX3_mowsForAnother_7 : decode cX3_mowsForAnother 7 = .ok (.getfield 35, 3) := by decide +kernel
theorem dX3_mowsForAnother_10 : decode cX3_mowsForAnother 10 = .ok (.if_icmp .ge 48, 3) := by decide +kernel
theorem dX3_mowsForAnother_13 : decode cX3_mowsForAnother 13 = .ok (.aload_n 0, 1) := by decide +kernel
theorem dX3_mowsForAnother_14 : decode cX3_mowsForAnother 14 = .ok (.getfield 15, 3) := by decide +kernel
theorem dX3_mowsForAnother_17 : decode cX3_mowsForAnother 17 = .ok (.iload_n 2, 1) := by decide +kernel
theorem dX3_mowsForAnother_18 : decode cX3_mowsForAnother 18 = .ok (.iaload, 1) := by decide +kernel
theorem dX3_mowsForAnother_19 : decode cX3_mowsForAnother 19 = .ok (.iload_n 1, 1) := by decide +kernel
theorem dX3_mowsForAnother_20 : decode cX3_mowsForAnother 20 = .ok (.if_icmp .ne 32, 3) := by decide +kernel
theorem dX3_mowsForAnother_23 : decode cX3_mowsForAnother 23 = .ok (.aload_n 0, 1) := by decide +kernel
theorem dX3_mowsForAnother_24 : decode cX3_mowsForAnother 24 = .ok (.iload_n 2, 1) := by decide +kernel
theorem dX3_mowsForAnother_25 : decode cX3_mowsForAnother 25 = .ok (.invokevirtual 50, 3) := by decide +kernel
theorem dX3_mowsForAnother_28 : decode cX3_mowsForAnother 28 = .ok (.ifCond .eq 24, 3) := by decide +kernel
theorem dX3_mowsForAnother_31 : decode cX3_mowsForAnother 31 = .ok (.aload_n 0, 1) := by decide +kernel
theorem dX3_mowsForAnother_32 : decode cX3_mowsForAnother 32 = .ok (.getfield 9, 3) := by decide +kernel
theorem dX3_mowsForAnother_35 : decode cX3_mowsForAnother 35 = .ok (.iload_n 2, 1) := by decide +kernel
theorem dX3_mowsForAnother_36 : decode cX3_mowsForAnother 36 = .ok (.iaload, 1) := by decide +kernel
theorem dX3_mowsForAnother_37 : decode cX3_mowsForAnother 37 = .ok (.ifCond .le 15, 3) := by decide +kernel
theorem dX3_mowsForAnother_40 : decode cX3_mowsForAnother 40 = .ok (.aload_n 0, 1) := by decide +kernel
theorem dX3_mowsForAnother_41 : decode cX3_mowsForAnother 41 = .ok (.getfield 9, 3) := by decide +kernel
theorem dX3_mowsForAnother_44 : decode cX3_mowsForAnother 44 = .ok (.iload_n 2, 1) := by decide +kernel
theorem dX3_mowsForAnother_45 : decode cX3_mowsForAnother 45 = .ok (.dup2, 1) := by decide +kernel
theorem dX3_mowsForAnother_46 : decode cX3_mowsForAnother 46 = .ok (.iaload, 1) := by decide +kernel
theorem dX3_mowsForAnother_47 : decode cX3_mowsForAnother 47 = .ok (.iconst 1, 1) := by decide +kernel
theorem dX3_mowsForAnother_48 : decode cX3_mowsForAnother 48 = .ok (.isub, 1) := by decide +kernel
theorem dX3_mowsForAnother_49 : decode cX3_mowsForAnother 49 = .ok (.iastore, 1) := by decide +kernel
theorem dX3_mowsForAnother_50 : decode cX3_mowsForAnother 50 = .ok (.iconst 1, 1) := by decide +kernel
theorem dX3_mowsForAnother_51 : decode cX3_mowsForAnother 51 = .ok (.ireturn, 1) := by decide +kernel
theorem dX3_mowsForAnother_52 : decode cX3_mowsForAnother 52 = .ok (.iinc 2 1, 3) := by decide +kernel
theorem dX3_mowsForAnother_55 : decode cX3_mowsForAnother 55 = .ok (.goto (-53), 3) := by decide +kernel
theorem dX3_mowsForAnother_58 : decode cX3_mowsForAnother 58 = .ok (.iconst 0, 1) := by decide +kernel
theorem dX3_mowsForAnother_59 : decode cX3_mowsForAnother 59 = .ok (.ireturn, 1) := by decide +kernel
theorem dX4_init_0 : decode cX4_init 0 = .ok (.aload_n 0, 1) := by decide +kernel
theorem dX4_init_1 : decode cX4_init 1 = .ok (.invokespecial 3, 3) := by decide +kernel
theorem dX4_init_4 : decode cX4_init 4 = .ok (.aload_n 0, 1) := by decide +kernel
theorem dX4_init_5 : decode cX4_init 5 = .ok (.sipush 147, 3) := by decide +kernel
theorem dX4_init_8 : decode cX4_init 8 = .ok (.newarray .boolean, 2) := by decide +kernel
theorem dX4_init_10 : decode cX4_init 10 = .ok (.putfield 11, 3) := by decide +kernel
theorem dX4_init_13 : decode cX4_init 13 = .ok (.return_, 1) := by decide +kernel
theorem dX4_begin_0 : decode cX4_begin 0 = .ok (.aload_n 0, 1) := by decide +kernel
theorem dX4_begin_1 : decode cX4_begin 1 = .ok (.iconst 0, 1) := by decide +kernel
theorem dX4_begin_2 : decode cX4_begin 2 = .ok (.putfield 15, 3) := by decide +kernel
theorem dX4_begin_5 : decode cX4_begin 5 = .ok (.iconst 0, 1) := by decide +kernel
theorem dX4_begin_6 : decode cX4_begin 6 = .ok (.istore_n 1, 1) := by decide +kernel
theorem dX4_begin_7 : decode cX4_begin 7 = .ok (.iload_n 1, 1) := by decide +kernel
theorem dX4_begin_8 : decode cX4_begin 8 = .ok (.aload_n 0, 1) := by decide +kernel
theorem dX4_begin_9 : decode cX4_begin 9 = .ok (.getfield 11, 3) := by decide +kernel
theorem dX4_begin_12 : decode cX4_begin 12 = .ok (.arraylength, 1) := by decide +kernel
theorem dX4_begin_13 : decode cX4_begin 13 = .ok (.if_icmp .ge 16, 3) := by decide +kernel
theorem dX4_begin_16 : decode cX4_begin 16 = .ok (.aload_n 0, 1) := by decide +kernel
theorem dX4_begin_17 : decode cX4_begin 17 = .ok (.getfield 11, 3) := by decide +kernel
theorem dX4_begin_20 : decode cX4_begin 20 = .ok (.iload_n 1, 1) := by decide +kernel
theorem dX4_begin_21 : decode cX4_begin 21 = .ok (.iconst 0, 1) := by decide +kernel
theorem dX4_begin_22 : decode cX4_begin 22 = .ok (.bastore, 1) := by decide +kernel
theorem dX4_begin_23 : decode cX4_begin 23 = .ok (.iinc 1 1, 3) := by decide +kernel
theorem dX4_begin_26 : decode cX4_begin 26 = .ok (.goto (-19), 3) := by decide +kernel
theorem dX4_begin_29 : decode cX4_begin 29 = .ok (.return_, 1) := by decide +kernel
theorem dX4_learn_0 : decode cX4_learn 0 = .ok (.aload_n 0, 1) := by decide +kernel
theorem dX4_learn_1 : decode cX4_learn 1 = .ok (.dup, 1) := by decide +kernel
theorem dX4_learn_2 : decode cX4_learn 2 = .ok (.getfield 15, 3) := by decide +kernel
theorem dX4_learn_5 : decode cX4_learn 5 = .ok (.iconst 1, 1) := by decide +kernel
theorem dX4_learn_6 : decode cX4_learn 6 = .ok (.iadd, 1) := by decide +kernel
theorem dX4_learn_7 : decode cX4_learn 7 = .ok (.putfield 15, 3) := by decide +kernel
theorem dX4_learn_10 : decode cX4_learn 10 = .ok (.iconst 0, 1) := by decide +kernel
theorem dX4_learn_11 : decode cX4_learn 11 = .ok (.istore 4, 2) := by decide +kernel
theorem dX4_learn_13 : decode cX4_learn 13 = .ok (.iload 4, 2) := by decide +kernel
theorem dX4_learn_15 : decode cX4_learn 15 = .ok (.bipush 20, 2) := by decide +kernel
theorem dX4_learn_17 : decode cX4_learn 17 = .ok (.if_icmp .gt 64, 3) := by decide +kernel
theorem dX4_learn_20 : decode cX4_learn 20 = .ok (.iconst 0, 1) := by decide +kernel
theorem dX4_learn_21 : decode cX4_learn 21 = .ok (.istore 5, 2) := by decide +kernel
theorem dX4_learn_23 : decode cX4_learn 23 = .ok (.iload 5, 2) := by decide +kernel
theorem dX4_learn_25 : decode cX4_learn 25 = .ok (.bipush 6, 2) := by decide +kernel
theorem dX4_learn_27 : decode cX4_learn 27 = .ok (.if_icmp .gt 48, 3) := by decide +kernel
theorem dX4_learn_30 : decode cX4_learn 30 = .ok (.iload 4, 2) := by decide +kernel
theorem dX4_learn_32 : decode cX4_learn 32 = .ok (.iload_n 1, 1) := by decide +kernel
theorem dX4_learn_33 : decode cX4_learn 33 = .ok (.if_icmp .le 9, 3) := by decide +kernel
theorem dX4_learn_36 : decode cX4_learn 36 = .ok (.iload 5, 2) := by decide +kernel
theorem dX4_learn_38 : decode cX4_learn 38 = .ok (.iload_n 2, 1) := by decide +kernel
theorem dX4_learn_39 : decode cX4_learn 39 = .ok (.if_icmp .gt 7, 3) := by decide +kernel
theorem dX4_learn_42 : decode cX4_learn 42 = .ok (.iconst 1, 1) := by decide +kernel
theorem dX4_learn_43 : decode cX4_learn 43 = .ok (.goto 4, 3) := by decide +kernel
theorem dX4_learn_46 : decode cX4_learn 46 = .ok (.iconst 0, 1) := by decide +kernel
theorem dX4_learn_47 : decode cX4_learn 47 = .ok (.istore 6, 2) := by decide +kernel
theorem dX4_learn_49 : decode cX4_learn 49 = .ok (.iload 6, 2) := by decide +kernel
theorem dX4_learn_51 : decode cX4_learn 51 = .ok (.iload_n 3, 1) := by decide +kernel
theorem dX4_learn_52 : decode cX4_learn 52 = .ok (.if_icmp .eq 17, 3) := by decide +kernel
theorem dX4_learn_55 : decode cX4_learn 55 = .ok (.aload_n 0, 1) := by decide +kernel
theorem dX4_learn_56 : decode cX4_learn 56 = .ok (.getfield 11, 3) := by decide +kernel
theorem dX4_learn_59 : decode cX4_learn 59 = .ok (.iload 4, 2) := by decide +kernel
theorem dX4_learn_61 : decode cX4_learn 61 = .ok (.bipush 7, 2) := by decide +kernel
theorem dX4_learn_63 : decode cX4_learn 63 = .ok (.imul, 1) := by decide +kernel
theorem dX4_learn_64 : decode cX4_learn 64 = .ok (.iload 5, 2) := by decide +kernel
theorem dX4_learn_66 : decode cX4_learn 66 = .ok (.iadd, 1) := by decide +kernel
theorem dX4_learn_67 : decode cX4_learn 67 = .ok (.iconst 1, 1) := by decide +kernel
theorem dX4_learn_68 : decode cX4_learn 68 = .ok (.bastore, 1) := by decide +kernel
theorem dX4_learn_69 : decode cX4_learn 69 = .ok (.iinc 5 1, 3) := by decide +kernel
theorem dX4_learn_72 : decode cX4_learn 72 = .ok (.goto (-49), 3) := by decide +kernel
theorem dX4_learn_75 : decode cX4_learn 75 = .ok (.iinc 4 1, 3) := by decide +kernel
theorem dX4_learn_78 : decode cX4_learn 78 = .ok (.goto (-65), 3) := by decide +kernel
theorem dX4_learn_81 : decode cX4_learn 81 = .ok (.return_, 1) := by decide +kernel
theorem dX4_number_0 : decode cX4_number 0 = .ok (.iconst 0, 1) := by decide +kernel
theorem dX4_number_1 : decode cX4_number 1 = .ok (.istore_n 3, 1) := by decide +kernel
theorem dX4_number_2 : decode cX4_number 2 = .ok (.iconst 0, 1) := by decide +kernel
theorem dX4_number_3 : decode cX4_number 3 = .ok (.istore 4, 2) := by decide +kernel
theorem dX4_number_5 : decode cX4_number 5 = .ok (.iload 4, 2) := by decide +kernel
theorem dX4_number_7 : decode cX4_number 7 = .ok (.bipush 6, 2) := by decide +kernel
theorem dX4_number_9 : decode cX4_number 9 = .ok (.if_icmp .gt 20, 3) := by decide +kernel
theorem dX4_number_12 : decode cX4_number 12 = .ok (.iload_n 3, 1) := by decide +kernel
theorem dX4_number_13 : decode cX4_number 13 = .ok (.aload_n 0, 1) := by decide +kernel
theorem dX4_number_14 : decode cX4_number 14 = .ok (.iload 4, 2) := by decide +kernel
theorem dX4_number_16 : decode cX4_number 16 = .ok (.iload_n 1, 1) := by decide +kernel
theorem dX4_number_17 : decode cX4_number 17 = .ok (.iload_n 2, 1) := by decide +kernel
theorem dX4_number_18 : decode cX4_number 18 = .ok (.invokevirtual 19, 3) := by decide +kernel
theorem dX4_number_21 : decode cX4_number 21 = .ok (.iadd, 1) := by decide +kernel
theorem dX4_number_22 : decode cX4_number 22 = .ok (.istore_n 3, 1) := by decide +kernel
theorem dX4_number_23 : decode cX4_number 23 = .ok (.iinc 4 1, 3) := by decide +kernel
theorem dX4_number_26 : decode cX4_number 26 = .ok (.goto (-21), 3) := by decide +kernel
theorem dX4_number_29 : decode cX4_number 29 = .ok (.iload_n 3, 1) := by decide +kernel
theorem dX4_number_30 : decode cX4_number 30 = .ok (.ireturn, 1) := by decide +kernel
theorem dX4_numberOfNerve_0 : decode cX4_numberOfNerve 0 = .ok (.iconst 0, 1) := by decide +kernel
theorem dX4_numberOfNerve_1 : decode cX4_numberOfNerve 1 = .ok (.istore 4, 2) := by decide +kernel
theorem dX4_numberOfNerve_3 : decode cX4_numberOfNerve 3 = .ok (.iload_n 2, 1) := by decide +kernel
theorem dX4_numberOfNerve_4 : decode cX4_numberOfNerve 4 = .ok (.istore 5, 2) := by decide +kernel
theorem dX4_numberOfNerve_6 : decode cX4_numberOfNerve 6 = .ok (.iload 5, 2) := by decide +kernel
theorem dX4_numberOfNerve_8 : decode cX4_numberOfNerve 8 = .ok (.iload_n 3, 1) := by decide +kernel
theorem dX4_numberOfNerve_9 : decode cX4_numberOfNerve 9 = .ok (.if_icmp .gt 27, 3) := by decide +kernel
theorem dX4_numberOfNerve_12 : decode cX4_numberOfNerve 12 = .ok (.aload_n 0, 1) := by decide +kernel
theorem dX4_numberOfNerve_13 : decode cX4_numberOfNerve 13 = .ok (.getfield 11, 3) := by decide +kernel
theorem dX4_numberOfNerve_16 : decode cX4_numberOfNerve 16 = .ok (.iload 5, 2) := by decide +kernel
theorem dX4_numberOfNerve_18 : decode cX4_numberOfNerve 18 = .ok (.bipush 7, 2) := by decide +kernel
theorem dX4_numberOfNerve_20 : decode cX4_numberOfNerve 20 = .ok (.imul, 1) := by decide +kernel
theorem dX4_numberOfNerve_21 : decode cX4_numberOfNerve 21 = .ok (.iload_n 1, 1) := by decide +kernel
theorem dX4_numberOfNerve_22 : decode cX4_numberOfNerve 22 = .ok (.iadd, 1) := by decide +kernel
theorem dX4_numberOfNerve_23 : decode cX4_numberOfNerve 23 = .ok (.baload, 1) := by decide +kernel
theorem dX4_numberOfNerve_24 : decode cX4_numberOfNerve 24 = .ok (.ifCond .ne 6, 3) := by decide +kernel
theorem dX4_numberOfNerve_27 : decode cX4_numberOfNerve 27 = .ok (.iinc 4 1, 3) := by decide +kernel
theorem dX4_numberOfNerve_30 : decode cX4_numberOfNerve 30 = .ok (.iinc 5 1, 3) := by decide +kernel
theorem dX4_numberOfNerve_33 : decode cX4_numberOfNerve 33 = .ok (.goto (-27), 3) := by decide +kernel
theorem dX4_numberOfNerve_36 : decode cX4_numberOfNerve 36 = .ok (.iload 4, 2) := by decide +kernel
theorem dX4_numberOfNerve_38 : decode cX4_numberOfNerve 38 = .ok (.ireturn, 1) := by decide +kernel
theorem dX4_leastShame_0 : decode cX4_leastShame 0 = .ok (.iconst 0, 1) := by decide +kernel
theorem dX4_leastShame_1 : decode cX4_leastShame 1 = .ok (.istore_n 1, 1) := by decide +kernel
theorem dX4_leastShame_2 : decode cX4_leastShame 2 = .ok (.iload_n 1, 1) := by decide +kernel
theorem dX4_leastShame_3 : decode cX4_leastShame 3 = .ok (.bipush 20, 2) := by decide +kernel
theorem dX4_leastShame_5 : decode cX4_leastShame 5 = .ok (.if_icmp .gt 20, 3) := by decide +kernel
theorem dX4_leastShame_8 : decode cX4_leastShame 8 = .ok (.aload_n 0, 1) := by decide +kernel
theorem dX4_leastShame_9 : decode cX4_leastShame 9 = .ok (.iload_n 1, 1) := by decide +kernel
theorem dX4_leastShame_10 : decode cX4_leastShame 10 = .ok (.iload_n 1, 1) := by decide +kernel
theorem dX4_leastShame_11 : decode cX4_leastShame 11 = .ok (.invokevirtual 23, 3) := by decide +kernel
theorem dX4_leastShame_14 : decode cX4_leastShame 14 = .ok (.ifCond .le 5, 3) := by decide +kernel
theorem dX4_leastShame_17 : decode cX4_leastShame 17 = .ok (.iload_n 1, 1) := by decide +kernel
theorem dX4_leastShame_18 : decode cX4_leastShame 18 = .ok (.ireturn, 1) := by decide +kernel
theorem dX4_leastShame_19 : decode cX4_leastShame 19 = .ok (.iinc 1 1, 3) := by decide +kernel
theorem dX4_leastShame_22 : decode cX4_leastShame 22 = .ok (.goto (-20), 3) := by decide +kernel
theorem dX4_leastShame_25 : decode cX4_leastShame 25 = .ok (.bipush (-9), 2) := by decide +kernel
theorem dX4_leastShame_27 : decode cX4_leastShame 27 = .ok (.ireturn, 1) := by decide +kernel
theorem dX4_greatestShame_0 : decode cX4_greatestShame 0 = .ok (.bipush 20, 2) := by decide +kernel
theorem dX4_greatestShame_2 : decode cX4_greatestShame 2 = .ok (.istore_n 1, 1) := by decide +kernel
theorem dX4_greatestShame_3 : decode cX4_greatestShame 3 = .ok (.iload_n 1, 1) := by decide +kernel
theorem dX4_greatestShame_4 : decode cX4_greatestShame 4 = .ok (.ifCond .lt 20, 3) := by decide +kernel
theorem dX4_greatestShame_7 : decode cX4_greatestShame 7 = .ok (.aload_n 0, 1) := by decide +kernel
theorem dX4_greatestShame_8 : decode cX4_greatestShame 8 = .ok (.iload_n 1, 1) := by decide +kernel
theorem dX4_greatestShame_9 : decode cX4_greatestShame 9 = .ok (.iload_n 1, 1) := by decide +kernel
theorem dX4_greatestShame_10 : decode cX4_greatestShame 10 = .ok (.invokevirtual 23, 3) := by decide +kernel
theorem dX4_greatestShame_13 : decode cX4_greatestShame 13 = .ok (.ifCond .le 5, 3) := by decide +kernel
theorem dX4_greatestShame_16 : decode cX4_greatestShame 16 = .ok (.iload_n 1, 1) := by decide +kernel
theorem dX4_greatestShame_17 : decode cX4_greatestShame 17 = .ok (.ireturn, 1) := by decide +kernel
theorem dX4_greatestShame_18 : decode cX4_greatestShame 18 = .ok (.iinc 1 (-1), 3) := by decide +kernel
theorem dX4_greatestShame_21 : decode cX4_greatestShame 21 = .ok (.goto (-18), 3) := by decide +kernel
theorem dX4_greatestShame_24 : decode cX4_greatestShame 24 = .ok (.bipush (-9), 2) := by decide +kernel
theorem dX4_greatestShame_26 : decode cX4_greatestShame 26 = .ok (.ireturn, 1) := by decide +kernel
theorem dX4_bestOthers_0 : decode cX4_bestOthers 0 = .ok (.aload_n 0, 1) := by decide +kernel
theorem dX4_bestOthers_1 : decode cX4_bestOthers 1 = .ok (.iconst 0, 1) := by decide +kernel
theorem dX4_bestOthers_2 : decode cX4_bestOthers 2 = .ok (.bipush 20, 2) := by decide +kernel
theorem dX4_bestOthers_4 : decode cX4_bestOthers 4 = .ok (.invokevirtual 23, 3) := by decide +kernel
theorem dX4_bestOthers_7 : decode cX4_bestOthers 7 = .ok (.istore_n 2, 1) := by decide +kernel
theorem dX4_bestOthers_8 : decode cX4_bestOthers 8 = .ok (.iload_n 2, 1) := by decide +kernel
theorem dX4_bestOthers_9 : decode cX4_bestOthers 9 = .ok (.iconst 1, 1) := by decide +kernel
theorem dX4_bestOthers_10 : decode cX4_bestOthers 10 = .ok (.if_icmp .gt 6, 3) := by decide +kernel
theorem dX4_bestOthers_13 : decode cX4_bestOthers 13 = .ok (.bipush (-9), 2) := by decide +kernel
theorem dX4_bestOthers_15 : decode cX4_bestOthers 15 = .ok (.ireturn, 1) := by decide +kernel
theorem dX4_bestOthers_16 : decode cX4_bestOthers 16 = .ok (.iconst 0, 1) := by decide +kernel
theorem dX4_bestOthers_17 : decode cX4_bestOthers 17 = .ok (.istore_n 3, 1) := by decide +kernel
theorem dX4_bestOthers_18 : decode cX4_bestOthers 18 = .ok (.iload_n 2, 1) := by decide +kernel
theorem dX4_bestOthers_19 : decode cX4_bestOthers 19 = .ok (.iconst 1, 1) := by decide +kernel
theorem dX4_bestOthers_20 : decode cX4_bestOthers 20 = .ok (.iadd, 1) := by decide +kernel
theorem dX4_bestOthers_21 : decode cX4_bestOthers 21 = .ok (.istore 4, 2) := by decide +kernel
theorem dX4_bestOthers_23 : decode cX4_bestOthers 23 = .ok (.aload_n 0, 1) := by decide +kernel
theorem dX4_bestOthers_24 : decode cX4_bestOthers 24 = .ok (.iconst 0, 1) := by decide +kernel
theorem dX4_bestOthers_25 : decode cX4_bestOthers 25 = .ok (.iload_n 1, 1) := by decide +kernel
theorem dX4_bestOthers_26 : decode cX4_bestOthers 26 = .ok (.invokevirtual 23, 3) := by decide +kernel
theorem dX4_bestOthers_29 : decode cX4_bestOthers 29 = .ok (.istore 5, 2) := by decide +kernel
theorem dX4_bestOthers_31 : decode cX4_bestOthers 31 = .ok (.iconst 0, 1) := by decide +kernel
theorem dX4_bestOthers_32 : decode cX4_bestOthers 32 = .ok (.istore 6, 2) := by decide +kernel
theorem dX4_bestOthers_34 : decode cX4_bestOthers 34 = .ok (.iload 6, 2) := by decide +kernel
theorem dX4_bestOthers_36 : decode cX4_bestOthers 36 = .ok (.bipush 6, 2) := by decide +kernel
theorem dX4_bestOthers_38 : decode cX4_bestOthers 38 = .ok (.if_icmp .gt 50, 3) := by decide +kernel
theorem dX4_bestOthers_41 : decode cX4_bestOthers 41 = .ok (.iload 5, 2) := by decide +kernel
theorem dX4_bestOthers_43 : decode cX4_bestOthers 43 = .ok (.aload_n 0, 1) := by decide +kernel
theorem dX4_bestOthers_44 : decode cX4_bestOthers 44 = .ok (.iload 6, 2) := by decide +kernel
theorem dX4_bestOthers_46 : decode cX4_bestOthers 46 = .ok (.iload_n 1, 1) := by decide +kernel
theorem dX4_bestOthers_47 : decode cX4_bestOthers 47 = .ok (.iconst 1, 1) := by decide +kernel
theorem dX4_bestOthers_48 : decode cX4_bestOthers 48 = .ok (.iadd, 1) := by decide +kernel
theorem dX4_bestOthers_49 : decode cX4_bestOthers 49 = .ok (.bipush 20, 2) := by decide +kernel
theorem dX4_bestOthers_51 : decode cX4_bestOthers 51 = .ok (.invokevirtual 19, 3) := by decide +kernel
theorem dX4_bestOthers_54 : decode cX4_bestOthers 54 = .ok (.iadd, 1) := by decide +kernel
theorem dX4_bestOthers_55 : decode cX4_bestOthers 55 = .ok (.istore 5, 2) := by decide +kernel
theorem dX4_bestOthers_57 : decode cX4_bestOthers 57 = .ok (.iload 5, 2) := by decide +kernel
theorem dX4_bestOthers_59 : decode cX4_bestOthers 59 = .ok (.iload_n 2, 1) := by decide +kernel
theorem dX4_bestOthers_60 : decode cX4_bestOthers 60 = .ok (.iload 5, 2) := by decide +kernel
theorem dX4_bestOthers_62 : decode cX4_bestOthers 62 = .ok (.isub, 1) := by decide +kernel
theorem dX4_bestOthers_63 : decode cX4_bestOthers 63 = .ok (.invokestatic 27, 3) := by decide +kernel
theorem dX4_bestOthers_66 : decode cX4_bestOthers 66 = .ok (.istore 7, 2) := by decide +kernel
theorem dX4_bestOthers_68 : decode cX4_bestOthers 68 = .ok (.iload 7, 2) := by decide +kernel
theorem dX4_bestOthers_70 : decode cX4_bestOthers 70 = .ok (.iload 4, 2) := by decide +kernel
theorem dX4_bestOthers_72 : decode cX4_bestOthers 72 = .ok (.if_icmp .ge 10, 3) := by decide +kernel
theorem dX4_bestOthers_75 : decode cX4_bestOthers 75 = .ok (.iload 7, 2) := by decide +kernel
theorem dX4_bestOthers_77 : decode cX4_bestOthers 77 = .ok (.istore 4, 2) := by decide +kernel
theorem dX4_bestOthers_79 : decode cX4_bestOthers 79 = .ok (.iload 6, 2) := by decide +kernel
theorem dX4_bestOthers_81 : decode cX4_bestOthers 81 = .ok (.istore_n 3, 1) := by decide +kernel
theorem dX4_bestOthers_82 : decode cX4_bestOthers 82 = .ok (.iinc 6 1, 3) := by decide +kernel
theorem dX4_bestOthers_85 : decode cX4_bestOthers 85 = .ok (.goto (-51), 3) := by decide +kernel
theorem dX4_bestOthers_88 : decode cX4_bestOthers 88 = .ok (.iload_n 3, 1) := by decide +kernel
theorem dX4_bestOthers_89 : decode cX4_bestOthers 89 = .ok (.ireturn, 1) := by decide +kernel
theorem dX5_init_0 : decode cX5_init 0 = .ok (.aload_n 0, 1) := by decide +kernel
theorem dX5_init_1 : decode cX5_init 1 = .ok (.invokespecial 3, 3) := by decide +kernel
theorem dX5_init_4 : decode cX5_init 4 = .ok (.aload_n 0, 1) := by decide +kernel
theorem dX5_init_5 : decode cX5_init 5 = .ok (.sipush 140, 3) := by decide +kernel
theorem dX5_init_8 : decode cX5_init 8 = .ok (.newarray .char, 2) := by decide +kernel
theorem dX5_init_10 : decode cX5_init 10 = .ok (.putfield 9, 3) := by decide +kernel
theorem dX5_init_13 : decode cX5_init 13 = .ok (.return_, 1) := by decide +kernel
theorem dX5_add_0 : decode cX5_add 0 = .ok (.aload_n 0, 1) := by decide +kernel
theorem dX5_add_1 : decode cX5_add 1 = .ok (.getfield 15, 3) := by decide +kernel
theorem dX5_add_4 : decode cX5_add 4 = .ok (.sipush 140, 3) := by decide +kernel
theorem dX5_add_7 : decode cX5_add 7 = .ok (.if_icmp .lt 5, 3) := by decide +kernel
theorem dX5_add_10 : decode cX5_add 10 = .ok (.iconst 0, 1) := by decide +kernel
theorem dX5_add_11 : decode cX5_add 11 = .ok (.ireturn, 1) := by decide +kernel
theorem dX5_add_12 : decode cX5_add 12 = .ok (.aload_n 0, 1) := by decide +kernel
theorem dX5_add_13 : decode cX5_add 13 = .ok (.getfield 9, 3) := by decide +kernel
theorem dX5_add_16 : decode cX5_add 16 = .ok (.aload_n 0, 1) := by decide +kernel
theorem dX5_add_17 : decode cX5_add 17 = .ok (.getfield 15, 3) := by decide +kernel
theorem dX5_add_20 : decode cX5_add 20 = .ok (.iload_n 1, 1) := by decide +kernel
theorem dX5_add_21 : decode cX5_add 21 = .ok (.i2c, 1) := by decide +kernel
theorem dX5_add_22 : decode cX5_add 22 = .ok (.castore, 1) := by decide +kernel
theorem dX5_add_23 : decode cX5_add 23 = .ok (.aload_n 0, 1) := by decide +kernel
theorem dX5_add_24 : decode cX5_add 24 = .ok (.dup, 1) := by decide +kernel
theorem dX5_add_25 : decode cX5_add 25 = .ok (.getfield 15, 3) := by decide +kernel
theorem dX5_add_28 : decode cX5_add 28 = .ok (.iconst 1, 1) := by decide +kernel
theorem dX5_add_29 : decode cX5_add 29 = .ok (.iadd, 1) := by decide +kernel
theorem dX5_add_30 : decode cX5_add 30 = .ok (.putfield 15, 3) := by decide +kernel
theorem dX5_add_33 : decode cX5_add 33 = .ok (.iconst 1, 1) := by decide +kernel
theorem dX5_add_34 : decode cX5_add 34 = .ok (.ireturn, 1) := by decide +kernel
theorem dX5_tells_0 : decode cX5_tells 0 = .ok (.aload_n 0, 1) := by decide +kernel
theorem dX5_tells_1 : decode cX5_tells 1 = .ok (.iconst 0, 1) := by decide +kernel
theorem dX5_tells_2 : decode cX5_tells 2 = .ok (.putfield 19, 3) := by decide +kernel
theorem dX5_tells_5 : decode cX5_tells 5 = .ok (.aload_n 1, 1) := by decide +kernel
theorem dX5_tells_6 : decode cX5_tells 6 = .ok (.iconst 0, 1) := by decide +kernel
theorem dX5_tells_7 : decode cX5_tells 7 = .ok (.putfield 22, 3) := by decide +kernel
theorem dX5_tells_10 : decode cX5_tells 10 = .ok (.aload_n 0, 1) := by decide +kernel
theorem dX5_tells_11 : decode cX5_tells 11 = .ok (.invokevirtual 27, 3) := by decide +kernel
theorem dX5_tells_14 : decode cX5_tells 14 = .ok (.iconst 0, 1) := by decide +kernel
theorem dX5_tells_15 : decode cX5_tells 15 = .ok (.istore_n 2, 1) := by decide +kernel
theorem dX5_tells_16 : decode cX5_tells 16 = .ok (.iload_n 2, 1) := by decide +kernel
theorem dX5_tells_17 : decode cX5_tells 17 = .ok (.sipush 140, 3) := by decide +kernel
theorem dX5_tells_20 : decode cX5_tells 20 = .ok (.if_icmp .ge 44, 3) := by decide +kernel
theorem dX5_tells_23 : decode cX5_tells 23 = .ok (.aload_n 0, 1) := by decide +kernel
theorem dX5_tells_24 : decode cX5_tells 24 = .ok (.getfield 30, 3) := by decide +kernel
theorem dX5_tells_27 : decode cX5_tells 27 = .ok (.ifCond .eq 37, 3) := by decide +kernel
theorem dX5_tells_30 : decode cX5_tells 30 = .ok (.iload_n 2, 1) := by decide +kernel
theorem dX5_tells_31 : decode cX5_tells 31 = .ok (.bipush 6, 2) := by decide +kernel
theorem dX5_tells_33 : decode cX5_tells 33 = .ok (.if_icmp .ge 12, 3) := by decide +kernel
theorem dX5_tells_36 : decode cX5_tells 36 = .ok (.aload_n 0, 1) := by decide +kernel
theorem dX5_tells_37 : decode cX5_tells 37 = .ok (.aload_n 1, 1) := by decide +kernel
theorem dX5_tells_38 : decode cX5_tells 38 = .ok (.iload_n 2, 1) := by decide +kernel
theorem dX5_tells_39 : decode cX5_tells 39 = .ok (.invokevirtual 33, 3) := by decide +kernel
theorem dX5_tells_42 : decode cX5_tells 42 = .ok (.ifCond .ne 5, 3) := by decide +kernel
theorem dX5_tells_45 : decode cX5_tells 45 = .ok (.iconst 0, 1) := by decide +kernel
theorem dX5_tells_46 : decode cX5_tells 46 = .ok (.ireturn, 1) := by decide +kernel
theorem dX5_tells_47 : decode cX5_tells 47 = .ok (.aload_n 1, 1) := by decide +kernel
theorem dX5_tells_48 : decode cX5_tells 48 = .ok (.iload_n 2, 1) := by decide +kernel
theorem dX5_tells_49 : decode cX5_tells 49 = .ok (.iconst 1, 1) := by decide +kernel
theorem dX5_tells_50 : decode cX5_tells 50 = .ok (.iadd, 1) := by decide +kernel
theorem dX5_tells_51 : decode cX5_tells 51 = .ok (.putfield 22, 3) := by decide +kernel
theorem dX5_tells_54 : decode cX5_tells 54 = .ok (.aload_n 0, 1) := by decide +kernel
theorem dX5_tells_55 : decode cX5_tells 55 = .ok (.invokevirtual 27, 3) := by decide +kernel
theorem dX5_tells_58 : decode cX5_tells 58 = .ok (.iinc 2 1, 3) := by decide +kernel
theorem dX5_tells_61 : decode cX5_tells 61 = .ok (.goto (-45), 3) := by decide +kernel
theorem dX5_tells_64 : decode cX5_tells 64 = .ok (.aload_n 1, 1) := by decide +kernel
theorem dX5_tells_65 : decode cX5_tells 65 = .ok (.invokevirtual 37, 3) := by decide +kernel
theorem dX5_tells_68 : decode cX5_tells 68 = .ok (.ireturn, 1) := by decide +kernel
theorem dX5_tellsOne_0 : decode cX5_tellsOne 0 = .ok (.aload_n 0, 1) := by decide +kernel
theorem dX5_tellsOne_1 : decode cX5_tellsOne 1 = .ok (.getfield 30, 3) := by decide +kernel
theorem dX5_tellsOne_4 : decode cX5_tellsOne 4 = .ok (.iconst 1, 1) := by decide +kernel
theorem dX5_tellsOne_5 : decode cX5_tellsOne 5 = .ok (.if_icmp .ne 91, 3) := by decide +kernel
theorem dX5_tellsOne_8 : decode cX5_tellsOne 8 = .ok (.aload_n 0, 1) := by decide +kernel
theorem dX5_tellsOne_9 : decode cX5_tellsOne 9 = .ok (.aload_n 1, 1) := by decide +kernel
theorem dX5_tellsOne_10 : decode cX5_tellsOne 10 = .ok (.getfield 41, 3) := by decide +kernel
theorem dX5_tellsOne_13 : decode cX5_tellsOne 13 = .ok (.iload_n 2, 1) := by decide +kernel
theorem dX5_tellsOne_14 : decode cX5_tellsOne 14 = .ok (.iconst 0, 1) := by decide +kernel
theorem dX5_tellsOne_15 : decode cX5_tellsOne 15 = .ok (.bipush 30, 2) := by decide +kernel
theorem dX5_tellsOne_17 : decode cX5_tellsOne 17 = .ok (.invokevirtual 45, 3) := by decide +kernel
theorem dX5_tellsOne_20 : decode cX5_tellsOne 20 = .ok (.ifCond .eq 76, 3) := by decide +kernel
theorem dX5_tellsOne_23 : decode cX5_tellsOne 23 = .ok (.aload_n 0, 1) := by decide +kernel
theorem dX5_tellsOne_24 : decode cX5_tellsOne 24 = .ok (.aload_n 1, 1) := by decide +kernel
theorem dX5_tellsOne_25 : decode cX5_tellsOne 25 = .ok (.getfield 49, 3) := by decide +kernel
theorem dX5_tellsOne_28 : decode cX5_tellsOne 28 = .ok (.iload_n 2, 1) := by decide +kernel
theorem dX5_tellsOne_29 : decode cX5_tellsOne 29 = .ok (.iconst 1, 1) := by decide +kernel
theorem dX5_tellsOne_30 : decode cX5_tellsOne 30 = .ok (.bipush 9, 2) := by decide +kernel
theorem dX5_tellsOne_32 : decode cX5_tellsOne 32 = .ok (.invokevirtual 45, 3) := by decide +kernel
theorem dX5_tellsOne_35 : decode cX5_tellsOne 35 = .ok (.ifCond .eq 61, 3) := by decide +kernel
theorem dX5_tellsOne_38 : decode cX5_tellsOne 38 = .ok (.aload_n 0, 1) := by decide +kernel
theorem dX5_tellsOne_39 : decode cX5_tellsOne 39 = .ok (.aload_n 1, 1) := by decide +kernel
theorem dX5_tellsOne_40 : decode cX5_tellsOne 40 = .ok (.getfield 52, 3) := by decide +kernel
theorem dX5_tellsOne_43 : decode cX5_tellsOne 43 = .ok (.iload_n 2, 1) := by decide +kernel
theorem dX5_tellsOne_44 : decode cX5_tellsOne 44 = .ok (.iconst 0, 1) := by decide +kernel
theorem dX5_tellsOne_45 : decode cX5_tellsOne 45 = .ok (.bipush 20, 2) := by decide +kernel
theorem dX5_tellsOne_47 : decode cX5_tellsOne 47 = .ok (.invokevirtual 45, 3) := by decide +kernel
theorem dX5_tellsOne_50 : decode cX5_tellsOne 50 = .ok (.ifCond .eq 46, 3) := by decide +kernel
theorem dX5_tellsOne_53 : decode cX5_tellsOne 53 = .ok (.aload_n 0, 1) := by decide +kernel
theorem dX5_tellsOne_54 : decode cX5_tellsOne 54 = .ok (.aload_n 1, 1) := by decide +kernel
theorem dX5_tellsOne_55 : decode cX5_tellsOne 55 = .ok (.getfield 55, 3) := by decide +kernel
theorem dX5_tellsOne_58 : decode cX5_tellsOne 58 = .ok (.iload_n 2, 1) := by decide +kernel
theorem dX5_tellsOne_59 : decode cX5_tellsOne 59 = .ok (.iconst 0, 1) := by decide +kernel
theorem dX5_tellsOne_60 : decode cX5_tellsOne 60 = .ok (.bipush 6, 2) := by decide +kernel
theorem dX5_tellsOne_62 : decode cX5_tellsOne 62 = .ok (.invokevirtual 45, 3) := by decide +kernel
theorem dX5_tellsOne_65 : decode cX5_tellsOne 65 = .ok (.ifCond .eq 31, 3) := by decide +kernel
theorem dX5_tellsOne_68 : decode cX5_tellsOne 68 = .ok (.aload_n 0, 1) := by decide +kernel
theorem dX5_tellsOne_69 : decode cX5_tellsOne 69 = .ok (.aload_n 1, 1) := by decide +kernel
theorem dX5_tellsOne_70 : decode cX5_tellsOne 70 = .ok (.getfield 58, 3) := by decide +kernel
theorem dX5_tellsOne_73 : decode cX5_tellsOne 73 = .ok (.iload_n 2, 1) := by decide +kernel
theorem dX5_tellsOne_74 : decode cX5_tellsOne 74 = .ok (.iconst 0, 1) := by decide +kernel
theorem dX5_tellsOne_75 : decode cX5_tellsOne 75 = .ok (.iconst 5, 1) := by decide +kernel
theorem dX5_tellsOne_76 : decode cX5_tellsOne 76 = .ok (.invokevirtual 45, 3) := by decide +kernel
theorem dX5_tellsOne_79 : decode cX5_tellsOne 79 = .ok (.ifCond .eq 17, 3) := by decide +kernel
theorem dX5_tellsOne_82 : decode cX5_tellsOne 82 = .ok (.aload_n 1, 1) := by decide +kernel
theorem dX5_tellsOne_83 : decode cX5_tellsOne 83 = .ok (.getfield 58, 3) := by decide +kernel
theorem dX5_tellsOne_86 : decode cX5_tellsOne 86 = .ok (.iload_n 2, 1) := by decide +kernel
theorem dX5_tellsOne_87 : decode cX5_tellsOne 87 = .ok (.iaload, 1) := by decide +kernel
theorem dX5_tellsOne_88 : decode cX5_tellsOne 88 = .ok (.iload_n 2, 1) := by decide +kernel
theorem dX5_tellsOne_89 : decode cX5_tellsOne 89 = .ok (.if_icmp .eq 7, 3) := by decide +kernel
theorem dX5_tellsOne_92 : decode cX5_tellsOne 92 = .ok (.iconst 1, 1) := by decide +kernel
theorem dX5_tellsOne_93 : decode cX5_tellsOne 93 = .ok (.goto 4, 3) := by decide +kernel
theorem dX5_tellsOne_96 : decode cX5_tellsOne 96 = .ok (.iconst 0, 1) := by decide +kernel
theorem dX5_tellsOne_97 : decode cX5_tellsOne 97 = .ok (.istore_n 3, 1) := by decide +kernel
theorem dX5_tellsOne_98 : decode cX5_tellsOne 98 = .ok (.iload_n 3, 1) := by decide +kernel
theorem dX5_tellsOne_99 : decode cX5_tellsOne 99 = .ok (.ifCond .ne 5, 3) := by decide +kernel
theorem dX5_tellsOne_102 : decode cX5_tellsOne 102 = .ok (.iconst 0, 1) := by decide +kernel
theorem dX5_tellsOne_103 : decode cX5_tellsOne 103 = .ok (.ireturn, 1) := by decide +kernel
theorem dX5_tellsOne_104 : decode cX5_tellsOne 104 = .ok (.aload_n 0, 1) := by decide +kernel
theorem dX5_tellsOne_105 : decode cX5_tellsOne 105 = .ok (.invokevirtual 27, 3) := by decide +kernel
theorem dX5_tellsOne_108 : decode cX5_tellsOne 108 = .ok (.aload_n 0, 1) := by decide +kernel
theorem dX5_tellsOne_109 : decode cX5_tellsOne 109 = .ok (.getfield 30, 3) := by decide +kernel
theorem dX5_tellsOne_112 : decode cX5_tellsOne 112 = .ok (.iconst 3, 1) := by decide +kernel
theorem dX5_tellsOne_113 : decode cX5_tellsOne 113 = .ok (.if_icmp .ne 7, 3) := by decide +kernel
theorem dX5_tellsOne_116 : decode cX5_tellsOne 116 = .ok (.iconst 1, 1) := by decide +kernel
theorem dX5_tellsOne_117 : decode cX5_tellsOne 117 = .ok (.goto 4, 3) := by decide +kernel
theorem dX5_tellsOne_120 : decode cX5_tellsOne 120 = .ok (.iconst 0, 1) := by decide +kernel
theorem dX5_tellsOne_121 : decode cX5_tellsOne 121 = .ok (.ireturn, 1) := by decide +kernel
theorem dX5_tellsNumber_0 : decode cX5_tellsNumber 0 = .ok (.aload_n 0, 1) := by decide +kernel
theorem dX5_tellsNumber_1 : decode cX5_tellsNumber 1 = .ok (.invokevirtual 27, 3) := by decide +kernel
theorem dX5_tellsNumber_4 : decode cX5_tellsNumber 4 = .ok (.aload_n 0, 1) := by decide +kernel
theorem dX5_tellsNumber_5 : decode cX5_tellsNumber 5 = .ok (.getfield 30, 3) := by decide +kernel
theorem dX5_tellsNumber_8 : decode cX5_tellsNumber 8 = .ok (.iconst 2, 1) := by decide +kernel
theorem dX5_tellsNumber_9 : decode cX5_tellsNumber 9 = .ok (.if_icmp .ne 20, 3) := by decide +kernel
theorem dX5_tellsNumber_12 : decode cX5_tellsNumber 12 = .ok (.aload_n 0, 1) := by decide +kernel
theorem dX5_tellsNumber_13 : decode cX5_tellsNumber 13 = .ok (.getfield 61, 3) := by decide +kernel
theorem dX5_tellsNumber_16 : decode cX5_tellsNumber 16 = .ok (.iload_n 3, 1) := by decide +kernel
theorem dX5_tellsNumber_17 : decode cX5_tellsNumber 17 = .ok (.if_icmp .lt 12, 3) := by decide +kernel
theorem dX5_tellsNumber_20 : decode cX5_tellsNumber 20 = .ok (.aload_n 0, 1) := by decide +kernel
theorem dX5_tellsNumber_21 : decode cX5_tellsNumber 21 = .ok (.getfield 61, 3) := by decide +kernel
theorem dX5_tellsNumber_24 : decode cX5_tellsNumber 24 = .ok (.iload 4, 2) := by decide +kernel
theorem dX5_tellsNumber_26 : decode cX5_tellsNumber 26 = .ok (.if_icmp .le 5, 3) := by decide +kernel
theorem dX5_tellsNumber_29 : decode cX5_tellsNumber 29 = .ok (.iconst 0, 1) := by decide +kernel
theorem dX5_tellsNumber_30 : decode cX5_tellsNumber 30 = .ok (.ireturn, 1) := by decide +kernel
theorem dX5_tellsNumber_31 : decode cX5_tellsNumber 31 = .ok (.aload_n 1, 1) := by decide +kernel
theorem dX5_tellsNumber_32 : decode cX5_tellsNumber 32 = .ok (.iload_n 2, 1) := by decide +kernel
theorem dX5_tellsNumber_33 : decode cX5_tellsNumber 33 = .ok (.aload_n 0, 1) := by decide +kernel
theorem dX5_tellsNumber_34 : decode cX5_tellsNumber 34 = .ok (.getfield 61, 3) := by decide +kernel
theorem dX5_tellsNumber_37 : decode cX5_tellsNumber 37 = .ok (.iastore, 1) := by decide +kernel
theorem dX5_tellsNumber_38 : decode cX5_tellsNumber 38 = .ok (.iconst 1, 1) := by decide +kernel
theorem dX5_tellsNumber_39 : decode cX5_tellsNumber 39 = .ok (.ireturn, 1) := by decide +kernel
theorem dX5_step_0 : decode cX5_step 0 = .ok (.aload_n 0, 1) := by decide +kernel
theorem dX5_step_1 : decode cX5_step 1 = .ok (.getfield 19, 3) := by decide +kernel
theorem dX5_step_4 : decode cX5_step 4 = .ok (.aload_n 0, 1) := by decide +kernel
theorem dX5_step_5 : decode cX5_step 5 = .ok (.getfield 15, 3) := by decide +kernel
theorem dX5_step_8 : decode cX5_step 8 = .ok (.if_icmp .ge 30, 3) := by decide +kernel
theorem dX5_step_11 : decode cX5_step 11 = .ok (.aload_n 0, 1) := by decide +kernel
theorem dX5_step_12 : decode cX5_step 12 = .ok (.getfield 9, 3) := by decide +kernel
theorem dX5_step_15 : decode cX5_step 15 = .ok (.aload_n 0, 1) := by decide +kernel
theorem dX5_step_16 : decode cX5_step 16 = .ok (.getfield 19, 3) := by decide +kernel
theorem dX5_step_19 : decode cX5_step 19 = .ok (.caload, 1) := by decide +kernel
theorem dX5_step_20 : decode cX5_step 20 = .ok (.bipush 32, 2) := by decide +kernel
theorem dX5_step_22 : decode cX5_step 22 = .ok (.if_icmp .ne 16, 3) := by decide +kernel
theorem dX5_step_25 : decode cX5_step 25 = .ok (.aload_n 0, 1) := by decide +kernel
theorem dX5_step_26 : decode cX5_step 26 = .ok (.dup, 1) := by decide +kernel
theorem dX5_step_27 : decode cX5_step 27 = .ok (.getfield 19, 3) := by decide +kernel
theorem dX5_step_30 : decode cX5_step 30 = .ok (.iconst 1, 1) := by decide +kernel
theorem dX5_step_31 : decode cX5_step 31 = .ok (.iadd, 1) := by decide +kernel
theorem dX5_step_32 : decode cX5_step 32 = .ok (.putfield 19, 3) := by decide +kernel
theorem dX5_step_35 : decode cX5_step 35 = .ok (.goto (-35), 3) := by decide +kernel
theorem dX5_step_38 : decode cX5_step 38 = .ok (.aload_n 0, 1) := by decide +kernel
theorem dX5_step_39 : decode cX5_step 39 = .ok (.aload_n 0, 1) := by decide +kernel
theorem dX5_step_40 : decode cX5_step 40 = .ok (.getfield 19, 3) := by decide +kernel
theorem dX5_step_43 : decode cX5_step 43 = .ok (.putfield 64, 3) := by decide +kernel
theorem dX5_step_46 : decode cX5_step 46 = .ok (.aload_n 0, 1) := by decide +kernel
theorem dX5_step_47 : decode cX5_step 47 = .ok (.getfield 19, 3) := by decide +kernel
theorem dX5_step_50 : decode cX5_step 50 = .ok (.aload_n 0, 1) := by decide +kernel
theorem dX5_step_51 : decode cX5_step 51 = .ok (.getfield 15, 3) := by decide +kernel
theorem dX5_step_54 : decode cX5_step 54 = .ok (.if_icmp .lt 11, 3) := by decide +kernel
theorem dX5_step_57 : decode cX5_step 57 = .ok (.aload_n 0, 1) := by decide +kernel
theorem dX5_step_58 : decode cX5_step 58 = .ok (.iconst 0, 1) := by decide +kernel
theorem dX5_step_59 : decode cX5_step 59 = .ok (.putfield 30, 3) := by decide +kernel
theorem dX5_step_62 : decode cX5_step 62 = .ok (.goto 76, 3) := by decide +kernel
theorem dX5_step_65 : decode cX5_step 65 = .ok (.aload_n 0, 1) := by decide +kernel
theorem dX5_step_66 : decode cX5_step 66 = .ok (.getfield 9, 3) := by decide +kernel
theorem dX5_step_69 : decode cX5_step 69 = .ok (.aload_n 0, 1) := by decide +kernel
theorem dX5_step_70 : decode cX5_step 70 = .ok (.getfield 19, 3) := by decide +kernel
theorem dX5_step_73 : decode cX5_step 73 = .ok (.caload, 1) := by decide +kernel
theorem dX5_step_74 : decode cX5_step 74 = .ok (.invokestatic 67, 3) := by decide +kernel
theorem dX5_step_77 : decode cX5_step 77 = .ok (.ifCond .eq 10, 3) := by decide +kernel
theorem dX5_step_80 : decode cX5_step 80 = .ok (.aload_n 0, 1) := by decide +kernel
theorem dX5_step_81 : decode cX5_step 81 = .ok (.invokevirtual 71, 3) := by decide +kernel
theorem dX5_step_84 : decode cX5_step 84 = .ok (.goto 54, 3) := by decide +kernel
theorem dX5_step_87 : decode cX5_step 87 = .ok (.aload_n 0, 1) := by decide +kernel
theorem dX5_step_88 : decode cX5_step 88 = .ok (.aload_n 0, 1) := by decide +kernel
theorem dX5_step_89 : decode cX5_step 89 = .ok (.getfield 9, 3) := by decide +kernel
theorem dX5_step_92 : decode cX5_step 92 = .ok (.aload_n 0, 1) := by decide +kernel
theorem dX5_step_93 : decode cX5_step 93 = .ok (.getfield 19, 3) := by decide +kernel
theorem dX5_step_96 : decode cX5_step 96 = .ok (.caload, 1) := by decide +kernel
theorem dX5_step_97 : decode cX5_step 97 = .ok (.bipush 102, 2) := by decide +kernel
theorem dX5_step_99 : decode cX5_step 99 = .ok (.if_icmp .ne 7, 3) := by decide +kernel
theorem dX5_step_102 : decode cX5_step 102 = .ok (.iconst 1, 1) := by decide +kernel
theorem dX5_step_103 : decode cX5_step 103 = .ok (.goto 22, 3) := by decide +kernel
theorem dX5_step_106 : decode cX5_step 106 = .ok (.aload_n 0, 1) := by decide +kernel
theorem dX5_step_107 : decode cX5_step 107 = .ok (.getfield 9, 3) := by decide +kernel
theorem dX5_step_110 : decode cX5_step 110 = .ok (.aload_n 0, 1) := by decide +kernel
theorem dX5_step_111 : decode cX5_step 111 = .ok (.getfield 19, 3) := by decide +kernel
theorem dX5_step_114 : decode cX5_step 114 = .ok (.caload, 1) := by decide +kernel
theorem dX5_step_115 : decode cX5_step 115 = .ok (.bipush 59, 2) := by decide +kernel
theorem dX5_step_117 : decode cX5_step 117 = .ok (.if_icmp .ne 7, 3) := by decide +kernel
theorem dX5_step_120 : decode cX5_step 120 = .ok (.iconst 3, 1) := by decide +kernel
theorem dX5_step_121 : decode cX5_step 121 = .ok (.goto 4, 3) := by decide +kernel
theorem dX5_step_124 : decode cX5_step 124 = .ok (.iconst 4, 1) := by decide +kernel
theorem dX5_step_125 : decode cX5_step 125 = .ok (.putfield 30, 3) := by decide +kernel
theorem dX5_step_128 : decode cX5_step 128 = .ok (.aload_n 0, 1) := by decide +kernel
theorem dX5_step_129 : decode cX5_step 129 = .ok (.dup, 1) := by decide +kernel
theorem dX5_step_130 : decode cX5_step 130 = .ok (.getfield 19, 3) := by decide +kernel
theorem dX5_step_133 : decode cX5_step 133 = .ok (.iconst 1, 1) := by decide +kernel
theorem dX5_step_134 : decode cX5_step 134 = .ok (.iadd, 1) := by decide +kernel
theorem dX5_step_135 : decode cX5_step 135 = .ok (.putfield 19, 3) := by decide +kernel
theorem dX5_step_138 : decode cX5_step 138 = .ok (.return_, 1) := by decide +kernel
theorem dX5_stepOverNumber_0 : decode cX5_stepOverNumber 0 = .ok (.aload_n 0, 1) := by decide +kernel
theorem dX5_stepOverNumber_1 : decode cX5_stepOverNumber 1 = .ok (.iconst 0, 1) := by decide +kernel
theorem dX5_stepOverNumber_2 : decode cX5_stepOverNumber 2 = .ok (.putfield 61, 3) := by decide +kernel
theorem dX5_stepOverNumber_5 : decode cX5_stepOverNumber 5 = .ok (.aload_n 0, 1) := by decide +kernel
theorem dX5_stepOverNumber_6 : decode cX5_stepOverNumber 6 = .ok (.getfield 19, 3) := by decide +kernel
theorem dX5_stepOverNumber_9 : decode cX5_stepOverNumber 9 = .ok (.aload_n 0, 1) := by decide +kernel
theorem dX5_stepOverNumber_10 : decode cX5_stepOverNumber 10 = .ok (.getfield 15, 3) := by decide +kernel
theorem dX5_stepOverNumber_13 : decode cX5_stepOverNumber 13 = .ok (.if_icmp .ge 60, 3) := by decide +kernel
theorem dX5_stepOverNumber_16 : decode cX5_stepOverNumber 16 = .ok (.aload_n 0, 1) := by decide +kernel
theorem dX5_stepOverNumber_17 : decode cX5_stepOverNumber 17 = .ok (.getfield 9, 3) := by decide +kernel
theorem dX5_stepOverNumber_20 : decode cX5_stepOverNumber 20 = .ok (.aload_n 0, 1) := by decide +kernel
theorem dX5_stepOverNumber_21 : decode cX5_stepOverNumber 21 = .ok (.getfield 19, 3) := by decide +kernel
theorem dX5_stepOverNumber_24 : decode cX5_stepOverNumber 24 = .ok (.caload, 1) := by decide +kernel
theorem dX5_stepOverNumber_25 : decode cX5_stepOverNumber 25 = .ok (.invokestatic 67, 3) := by decide +kernel
theorem dX5_stepOverNumber_28 : decode cX5_stepOverNumber 28 = .ok (.ifCond .eq 45, 3) := by decide +kernel
theorem dX5_stepOverNumber_31 : decode cX5_stepOverNumber 31 = .ok (.aload_n 0, 1) := by decide +kernel
theorem dX5_stepOverNumber_32 : decode cX5_stepOverNumber 32 = .ok (.aload_n 0, 1) := by decide +kernel
theorem dX5_stepOverNumber_33 : decode cX5_stepOverNumber 33 = .ok (.getfield 61, 3) := by decide +kernel
theorem dX5_stepOverNumber_36 : decode cX5_stepOverNumber 36 = .ok (.bipush 10, 2) := by decide +kernel
theorem dX5_stepOverNumber_38 : decode cX5_stepOverNumber 38 = .ok (.imul, 1) := by decide +kernel
theorem dX5_stepOverNumber_39 : decode cX5_stepOverNumber 39 = .ok (.aload_n 0, 1) := by decide +kernel
theorem dX5_stepOverNumber_40 : decode cX5_stepOverNumber 40 = .ok (.getfield 9, 3) := by decide +kernel
theorem dX5_stepOverNumber_43 : decode cX5_stepOverNumber 43 = .ok (.aload_n 0, 1) := by decide +kernel
theorem dX5_stepOverNumber_44 : decode cX5_stepOverNumber 44 = .ok (.getfield 19, 3) := by decide +kernel
theorem dX5_stepOverNumber_47 : decode cX5_stepOverNumber 47 = .ok (.caload, 1) := by decide +kernel
theorem dX5_stepOverNumber_48 : decode cX5_stepOverNumber 48 = .ok (.bipush 48, 2) := by decide +kernel
theorem dX5_stepOverNumber_50 : decode cX5_stepOverNumber 50 = .ok (.isub, 1) := by decide +kernel
theorem dX5_stepOverNumber_51 : decode cX5_stepOverNumber 51 = .ok (.iadd, 1) := by decide +kernel
theorem dX5_stepOverNumber_52 : decode cX5_stepOverNumber 52 = .ok (.bipush 100, 2) := by decide +kernel
theorem dX5_stepOverNumber_54 : decode cX5_stepOverNumber 54 = .ok (.invokestatic 74, 3) := by decide +kernel
theorem dX5_stepOverNumber_57 : decode cX5_stepOverNumber 57 = .ok (.putfield 61, 3) := by decide +kernel
theorem dX5_stepOverNumber_60 : decode cX5_stepOverNumber 60 = .ok (.aload_n 0, 1) := by decide +kernel
theorem dX5_stepOverNumber_61 : decode cX5_stepOverNumber 61 = .ok (.dup, 1) := by decide +kernel
theorem dX5_stepOverNumber_62 : decode cX5_stepOverNumber 62 = .ok (.getfield 19, 3) := by decide +kernel
theorem dX5_stepOverNumber_65 : decode cX5_stepOverNumber 65 = .ok (.iconst 1, 1) := by decide +kernel
theorem dX5_stepOverNumber_66 : decode cX5_stepOverNumber 66 = .ok (.iadd, 1) := by decide +kernel
theorem dX5_stepOverNumber_67 : decode cX5_stepOverNumber 67 = .ok (.putfield 19, 3) := by decide +kernel
theorem dX5_stepOverNumber_70 : decode cX5_stepOverNumber 70 = .ok (.goto (-65), 3) := by decide +kernel
theorem dX5_stepOverNumber_73 : decode cX5_stepOverNumber 73 = .ok (.aload_n 0, 1) := by decide +kernel
theorem dX5_stepOverNumber_74 : decode cX5_stepOverNumber 74 = .ok (.getfield 9, 3) := by decide +kernel
theorem dX5_stepOverNumber_77 : decode cX5_stepOverNumber 77 = .ok (.aload_n 0, 1) := by decide +kernel
theorem dX5_stepOverNumber_78 : decode cX5_stepOverNumber 78 = .ok (.getfield 64, 3) := by decide +kernel
theorem dX5_stepOverNumber_81 : decode cX5_stepOverNumber 81 = .ok (.caload, 1) := by decide +kernel
theorem dX5_stepOverNumber_82 : decode cX5_stepOverNumber 82 = .ok (.bipush 48, 2) := by decide +kernel
theorem dX5_stepOverNumber_84 : decode cX5_stepOverNumber 84 = .ok (.if_icmp .ne 20, 3) := by decide +kernel
theorem dX5_stepOverNumber_87 : decode cX5_stepOverNumber 87 = .ok (.aload_n 0, 1) := by decide +kernel
theorem dX5_stepOverNumber_88 : decode cX5_stepOverNumber 88 = .ok (.getfield 19, 3) := by decide +kernel
theorem dX5_stepOverNumber_91 : decode cX5_stepOverNumber 91 = .ok (.aload_n 0, 1) := by decide +kernel
theorem dX5_stepOverNumber_92 : decode cX5_stepOverNumber 92 = .ok (.getfield 64, 3) := by decide +kernel
theorem dX5_stepOverNumber_95 : decode cX5_stepOverNumber 95 = .ok (.isub, 1) := by decide +kernel
theorem dX5_stepOverNumber_96 : decode cX5_stepOverNumber 96 = .ok (.iconst 1, 1) := by decide +kernel
theorem dX5_stepOverNumber_97 : decode cX5_stepOverNumber 97 = .ok (.if_icmp .le 7, 3) := by decide +kernel
theorem dX5_stepOverNumber_100 : decode cX5_stepOverNumber 100 = .ok (.iconst 1, 1) := by decide +kernel
theorem dX5_stepOverNumber_101 : decode cX5_stepOverNumber 101 = .ok (.goto 4, 3) := by decide +kernel
theorem dX5_stepOverNumber_104 : decode cX5_stepOverNumber 104 = .ok (.iconst 0, 1) := by decide +kernel
theorem dX5_stepOverNumber_105 : decode cX5_stepOverNumber 105 = .ok (.istore_n 1, 1) := by decide +kernel
theorem dX5_stepOverNumber_106 : decode cX5_stepOverNumber 106 = .ok (.aload_n 0, 1) := by decide +kernel
theorem dX5_stepOverNumber_107 : decode cX5_stepOverNumber 107 = .ok (.iload_n 1, 1) := by decide +kernel
theorem dX5_stepOverNumber_108 : decode cX5_stepOverNumber 108 = .ok (.ifCond .ne 12, 3) := by decide +kernel
theorem dX5_stepOverNumber_111 : decode cX5_stepOverNumber 111 = .ok (.aload_n 0, 1) := by decide +kernel
theorem dX5_stepOverNumber_112 : decode cX5_stepOverNumber 112 = .ok (.getfield 61, 3) := by decide +kernel
theorem dX5_stepOverNumber_115 : decode cX5_stepOverNumber 115 = .ok (.bipush 99, 2) := by decide +kernel
theorem dX5_stepOverNumber_117 : decode cX5_stepOverNumber 117 = .ok (.if_icmp .le 7, 3) := by decide +kernel
theorem dX5_stepOverNumber_120 : decode cX5_stepOverNumber 120 = .ok (.iconst 4, 1) := by decide +kernel
theorem dX5_stepOverNumber_121 : decode cX5_stepOverNumber 121 = .ok (.goto 4, 3) := by decide +kernel
theorem dX5_stepOverNumber_124 : decode cX5_stepOverNumber 124 = .ok (.iconst 2, 1) := by decide +kernel
theorem dX5_stepOverNumber_125 : decode cX5_stepOverNumber 125 = .ok (.putfield 30, 3) := by decide +kernel
theorem dX5_stepOverNumber_128 : decode cX5_stepOverNumber 128 = .ok (.return_, 1) := by decide +kernel
theorem dX5_isDigit_0 : decode cX5_isDigit 0 = .ok (.iload_n 0, 1) := by decide +kernel
theorem dX5_isDigit_1 : decode cX5_isDigit 1 = .ok (.bipush 48, 2) := by decide +kernel
theorem dX5_isDigit_3 : decode cX5_isDigit 3 = .ok (.if_icmp .lt 13, 3) := by decide +kernel
theorem dX5_isDigit_6 : decode cX5_isDigit 6 = .ok (.iload_n 0, 1) := by decide +kernel
theorem dX5_isDigit_7 : decode cX5_isDigit 7 = .ok (.bipush 57, 2) := by decide +kernel
theorem dX5_isDigit_9 : decode cX5_isDigit 9 = .ok (.if_icmp .gt 7, 3) := by decide +kernel
theorem dX5_isDigit_12 : decode cX5_isDigit 12 = .ok (.iconst 1, 1) := by decide +kernel
theorem dX5_isDigit_13 : decode cX5_isDigit 13 = .ok (.goto 4, 3) := by decide +kernel
theorem dX5_isDigit_16 : decode cX5_isDigit 16 = .ok (.iconst 0, 1) := by decide +kernel
theorem dX5_isDigit_17 : decode cX5_isDigit 17 = .ok (.ireturn, 1) := by decide +kernel
theorem dX6_init_0 : decode cX6_init 0 = .ok (.aload_n 0, 1) := by decide +kernel
theorem dX6_init_1 : decode cX6_init 1 = .ok (.invokespecial 1, 3) := by decide +kernel
theorem dX6_init_4 : decode cX6_init 4 = .ok (.aload_n 0, 1) := by decide +kernel
theorem dX6_init_5 : decode cX6_init 5 = .ok (.new 7, 3) := by decide +kernel
theorem dX6_init_8 : decode cX6_init 8 = .ok (.dup, 1) := by decide +kernel
theorem dX6_init_9 : decode cX6_init 9 = .ok (.invokespecial 9, 3) := by decide +kernel
theorem dX6_init_12 : decode cX6_init 12 = .ok (.putfield 10, 3) := by decide +kernel
theorem dX6_init_15 : decode cX6_init 15 = .ok (.aload_n 0, 1) := by decide +kernel
theorem dX6_init_16 : decode cX6_init 16 = .ok (.new 16, 3) := by decide +kernel
theorem dX6_init_19 : decode cX6_init 19 = .ok (.dup, 1) := by decide +kernel
theorem dX6_init_20 : decode cX6_init 20 = .ok (.invokespecial 18, 3) := by decide +kernel
theorem dX6_init_23 : decode cX6_init 23 = .ok (.putfield 19, 3) := by decide +kernel
theorem dX6_init_26 : decode cX6_init 26 = .ok (.aload_n 0, 1) := by decide +kernel
theorem dX6_init_27 : decode cX6_init 27 = .ok (.new 16, 3) := by decide +kernel
theorem dX6_init_30 : decode cX6_init 30 = .ok (.dup, 1) := by decide +kernel
theorem dX6_init_31 : decode cX6_init 31 = .ok (.invokespecial 18, 3) := by decide +kernel
theorem dX6_init_34 : decode cX6_init 34 = .ok (.putfield 23, 3) := by decide +kernel
theorem dX6_init_37 : decode cX6_init 37 = .ok (.aload_n 0, 1) := by decide +kernel
theorem dX6_init_38 : decode cX6_init 38 = .ok (.new 26, 3) := by decide +kernel
theorem dX6_init_41 : decode cX6_init 41 = .ok (.dup, 1) := by decide +kernel
theorem dX6_init_42 : decode cX6_init 42 = .ok (.aload_n 0, 1) := by decide +kernel
theorem dX6_init_43 : decode cX6_init 43 = .ok (.getfield 23, 3) := by decide +kernel
theorem dX6_init_46 : decode cX6_init 46 = .ok (.invokespecial 28, 3) := by decide +kernel
theorem dX6_init_49 : decode cX6_init 49 = .ok (.putfield 31, 3) := by decide +kernel
theorem dX6_init_52 : decode cX6_init 52 = .ok (.aload_n 0, 1) := by decide +kernel
theorem dX6_init_53 : decode cX6_init 53 = .ok (.new 26, 3) := by decide +kernel
theorem dX6_init_56 : decode cX6_init 56 = .ok (.dup, 1) := by decide +kernel
theorem dX6_init_57 : decode cX6_init 57 = .ok (.aload_n 0, 1) := by decide +kernel
theorem dX6_init_58 : decode cX6_init 58 = .ok (.getfield 23, 3) := by decide +kernel
theorem dX6_init_61 : decode cX6_init 61 = .ok (.invokespecial 28, 3) := by decide +kernel
theorem dX6_init_64 : decode cX6_init 64 = .ok (.putfield 35, 3) := by decide +kernel
theorem dX6_init_67 : decode cX6_init 67 = .ok (.aload_n 0, 1) := by decide +kernel
theorem dX6_init_68 : decode cX6_init 68 = .ok (.new 38, 3) := by decide +kernel
theorem dX6_init_71 : decode cX6_init 71 = .ok (.dup, 1) := by decide +kernel
theorem dX6_init_72 : decode cX6_init 72 = .ok (.aload_n 0, 1) := by decide +kernel
theorem dX6_init_73 : decode cX6_init 73 = .ok (.getfield 23, 3) := by decide +kernel
theorem dX6_init_76 : decode cX6_init 76 = .ok (.invokespecial 40, 3) := by decide +kernel
theorem dX6_init_79 : decode cX6_init 79 = .ok (.putfield 41, 3) := by decide +kernel
theorem dX6_init_82 : decode cX6_init 82 = .ok (.aload_n 0, 1) := by decide +kernel
theorem dX6_init_83 : decode cX6_init 83 = .ok (.iconst 2, 1) := by decide +kernel
theorem dX6_init_84 : decode cX6_init 84 = .ok (.anewarray 26, 3) := by decide +kernel
theorem dX6_init_87 : decode cX6_init 87 = .ok (.putfield 45, 3) := by decide +kernel
theorem dX6_init_90 : decode cX6_init 90 = .ok (.iconst 0, 1) := by decide +kernel
theorem dX6_init_91 : decode cX6_init 91 = .ok (.istore_n 1, 1) := by decide +kernel
theorem dX6_init_92 : decode cX6_init 92 = .ok (.iload_n 1, 1) := by decide +kernel
theorem dX6_init_93 : decode cX6_init 93 = .ok (.iconst 2, 1) := by decide +kernel
theorem dX6_init_94 : decode cX6_init 94 = .ok (.if_icmp .ge 26, 3) := by decide +kernel
theorem dX6_init_97 : decode cX6_init 97 = .ok (.aload_n 0, 1) := by decide +kernel
theorem dX6_init_98 : decode cX6_init 98 = .ok (.getfield 45, 3) := by decide +kernel
theorem dX6_init_101 : decode cX6_init 101 = .ok (.iload_n 1, 1) := by decide +kernel
theorem dX6_init_102 : decode cX6_init 102 = .ok (.new 26, 3) := by decide +kernel
theorem dX6_init_105 : decode cX6_init 105 = .ok (.dup, 1) := by decide +kernel
theorem dX6_init_106 : decode cX6_init 106 = .ok (.aload_n 0, 1) := by decide +kernel
theorem dX6_init_107 : decode cX6_init 107 = .ok (.getfield 23, 3) := by decide +kernel
theorem dX6_init_110 : decode cX6_init 110 = .ok (.invokespecial 28, 3) := by decide +kernel
theorem dX6_init_113 : decode cX6_init 113 = .ok (.aastore, 1) := by decide +kernel
theorem dX6_init_114 : decode cX6_init 114 = .ok (.iinc 1 1, 3) := by decide +kernel
theorem dX6_init_117 : decode cX6_init 117 = .ok (.goto (-25), 3) := by decide +kernel
theorem dX6_init_120 : decode cX6_init 120 = .ok (.aload_n 0, 1) := by decide +kernel
theorem dX6_init_121 : decode cX6_init 121 = .ok (.iconst 2, 1) := by decide +kernel
theorem dX6_init_122 : decode cX6_init 122 = .ok (.newarray .boolean, 2) := by decide +kernel
theorem dX6_init_124 : decode cX6_init 124 = .ok (.putfield 49, 3) := by decide +kernel
theorem dX6_init_127 : decode cX6_init 127 = .ok (.aload_n 0, 1) := by decide +kernel
theorem dX6_init_128 : decode cX6_init 128 = .ok (.new 53, 3) := by decide +kernel
theorem dX6_init_131 : decode cX6_init 131 = .ok (.dup, 1) := by decide +kernel
theorem dX6_init_132 : decode cX6_init 132 = .ok (.aload_n 0, 1) := by decide +kernel
theorem dX6_init_133 : decode cX6_init 133 = .ok (.getfield 23, 3) := by decide +kernel
theorem dX6_init_136 : decode cX6_init 136 = .ok (.invokespecial 55, 3) := by decide +kernel
theorem dX6_init_139 : decode cX6_init 139 = .ok (.putfield 56, 3) := by decide +kernel
theorem dX6_init_142 : decode cX6_init 142 = .ok (.aload_n 0, 1) := by decide +kernel
theorem dX6_init_143 : decode cX6_init 143 = .ok (.new 60, 3) := by decide +kernel
theorem dX6_init_146 : decode cX6_init 146 = .ok (.dup, 1) := by decide +kernel
theorem dX6_init_147 : decode cX6_init 147 = .ok (.invokespecial 62, 3) := by decide +kernel
theorem dX6_init_150 : decode cX6_init 150 = .ok (.putfield 63, 3) := by decide +kernel
theorem dX6_init_153 : decode cX6_init 153 = .ok (.aload_n 0, 1) := by decide +kernel
theorem dX6_init_154 : decode cX6_init 154 = .ok (.bipush 9, 2) := by decide +kernel
theorem dX6_init_156 : decode cX6_init 156 = .ok (.newarray .int, 2) := by decide +kernel
theorem dX6_init_158 : decode cX6_init 158 = .ok (.putfield 67, 3) := by decide +kernel
theorem dX6_init_161 : decode cX6_init 161 = .ok (.return_, 1) := by decide +kernel
theorem dX6_type_0 : decode cX6_type 0 = .ok (.iload_n 1, 1) := by decide +kernel
theorem dX6_type_1 : decode cX6_type 1 = .ok (.iconst 0, 1) := by decide +kernel
theorem dX6_type_2 : decode cX6_type 2 = .ok (.sipush 255, 3) := by decide +kernel
theorem dX6_type_5 : decode cX6_type 5 = .ok (.invokestatic 71, 3) := by decide +kernel
theorem dX6_type_8 : decode cX6_type 8 = .ok (.ifCond .ne 5, 3) := by decide +kernel
theorem dX6_type_11 : decode cX6_type 11 = .ok (.iconst (-1), 1) := by decide +kernel
theorem dX6_type_12 : decode cX6_type 12 = .ok (.ireturn, 1) := by decide +kernel
theorem dX6_type_13 : decode cX6_type 13 = .ok (.aload_n 0, 1) := by decide +kernel
theorem dX6_type_14 : decode cX6_type 14 = .ok (.getfield 10, 3) := by decide +kernel
theorem dX6_type_17 : decode cX6_type 17 = .ok (.iload_n 1, 1) := by decide +kernel
theorem dX6_type_18 : decode cX6_type 18 = .ok (.invokevirtual 75, 3) := by decide +kernel
theorem dX6_type_21 : decode cX6_type 21 = .ok (.ifCond .eq 13, 3) := by decide +kernel
theorem dX6_type_24 : decode cX6_type 24 = .ok (.aload_n 0, 1) := by decide +kernel
theorem dX6_type_25 : decode cX6_type 25 = .ok (.getfield 10, 3) := by decide +kernel
theorem dX6_type_28 : decode cX6_type 28 = .ok (.getfield 79, 3) := by decide +kernel
theorem dX6_type_31 : decode cX6_type 31 = .ok (.goto 5, 3) := by decide +kernel
theorem dX6_type_34 : decode cX6_type 34 = .ok (.bipush (-3), 2) := by decide +kernel
theorem dX6_type_36 : decode cX6_type 36 = .ok (.ireturn, 1) := by decide +kernel
theorem dX6_clear_0 : decode cX6_clear 0 = .ok (.aload_n 0, 1) := by decide +kernel
theorem dX6_clear_1 : decode cX6_clear 1 = .ok (.getfield 10, 3) := by decide +kernel
theorem dX6_clear_4 : decode cX6_clear 4 = .ok (.getfield 79, 3) := by decide +kernel
theorem dX6_clear_7 : decode cX6_clear 7 = .ok (.istore_n 1, 1) := by decide +kernel
theorem dX6_clear_8 : decode cX6_clear 8 = .ok (.aload_n 0, 1) := by decide +kernel
theorem dX6_clear_9 : decode cX6_clear 9 = .ok (.getfield 10, 3) := by decide +kernel
theorem dX6_clear_12 : decode cX6_clear 12 = .ok (.iconst 0, 1) := by decide +kernel
theorem dX6_clear_13 : decode cX6_clear 13 = .ok (.putfield 79, 3) := by decide +kernel
theorem dX6_clear_16 : decode cX6_clear 16 = .ok (.iload_n 1, 1) := by decide +kernel
theorem dX6_clear_17 : decode cX6_clear 17 = .ok (.ireturn, 1) := by decide +kernel
theorem dX6_valley_0 : decode cX6_valley 0 = .ok (.aload_n 0, 1) := by decide +kernel
theorem dX6_valley_1 : decode cX6_valley 1 = .ok (.getfield 10, 3) := by decide +kernel
theorem dX6_valley_4 : decode cX6_valley 4 = .ok (.aload_n 0, 1) := by decide +kernel
theorem dX6_valley_5 : decode cX6_valley 5 = .ok (.getfield 19, 3) := by decide +kernel
theorem dX6_valley_8 : decode cX6_valley 8 = .ok (.invokevirtual 83, 3) := by decide +kernel
theorem dX6_valley_11 : decode cX6_valley 11 = .ok (.ifCond .ne 14, 3) := by decide +kernel
theorem dX6_valley_14 : decode cX6_valley 14 = .ok (.bipush (-10), 2) := by decide +kernel
theorem dX6_valley_16 : decode cX6_valley 16 = .ok (.aload_n 0, 1) := by decide +kernel
theorem dX6_valley_17 : decode cX6_valley 17 = .ok (.getfield 10, 3) := by decide +kernel
theorem dX6_valley_20 : decode cX6_valley 20 = .ok (.getfield 87, 3) := by decide +kernel
theorem dX6_valley_23 : decode cX6_valley 23 = .ok (.isub, 1) := by decide +kernel
theorem dX6_valley_24 : decode cX6_valley 24 = .ok (.ireturn, 1) := by decide +kernel
theorem dX6_valley_25 : decode cX6_valley 25 = .ok (.aload_n 0, 1) := by decide +kernel
theorem dX6_valley_26 : decode cX6_valley 26 = .ok (.getfield 10, 3) := by decide +kernel
theorem dX6_valley_29 : decode cX6_valley 29 = .ok (.iconst 0, 1) := by decide +kernel
theorem dX6_valley_30 : decode cX6_valley 30 = .ok (.putfield 79, 3) := by decide +kernel
theorem dX6_valley_33 : decode cX6_valley 33 = .ok (.aload_n 0, 1) := by decide +kernel
theorem dX6_valley_34 : decode cX6_valley 34 = .ok (.getfield 23, 3) := by decide +kernel
theorem dX6_valley_37 : decode cX6_valley 37 = .ok (.aload_n 0, 1) := by decide +kernel
theorem dX6_valley_38 : decode cX6_valley 38 = .ok (.getfield 19, 3) := by decide +kernel
theorem dX6_valley_41 : decode cX6_valley 41 = .ok (.invokevirtual 90, 3) := by decide +kernel
theorem dX6_valley_44 : decode cX6_valley 44 = .ok (.aload_n 0, 1) := by decide +kernel
theorem dX6_valley_45 : decode cX6_valley 45 = .ok (.getfield 31, 3) := by decide +kernel
theorem dX6_valley_48 : decode cX6_valley 48 = .ok (.invokevirtual 93, 3) := by decide +kernel
theorem dX6_valley_51 : decode cX6_valley 51 = .ok (.aload_n 0, 1) := by decide +kernel
theorem dX6_valley_52 : decode cX6_valley 52 = .ok (.getfield 41, 3) := by decide +kernel
theorem dX6_valley_55 : decode cX6_valley 55 = .ok (.iconst 0, 1) := by decide +kernel
theorem dX6_valley_56 : decode cX6_valley 56 = .ok (.putfield 96, 3) := by decide +kernel
theorem dX6_valley_59 : decode cX6_valley 59 = .ok (.aload_n 0, 1) := by decide +kernel
theorem dX6_valley_60 : decode cX6_valley 60 = .ok (.getfield 63, 3) := by decide +kernel
theorem dX6_valley_63 : decode cX6_valley 63 = .ok (.invokevirtual 99, 3) := by decide +kernel
theorem dX6_valley_66 : decode cX6_valley 66 = .ok (.iconst 0, 1) := by decide +kernel
theorem dX6_valley_67 : decode cX6_valley 67 = .ok (.istore_n 1, 1) := by decide +kernel
theorem dX6_valley_68 : decode cX6_valley 68 = .ok (.iload_n 1, 1) := by decide +kernel
theorem dX6_valley_69 : decode cX6_valley 69 = .ok (.iconst 2, 1) := by decide +kernel
theorem dX6_valley_70 : decode cX6_valley 70 = .ok (.if_icmp .ge 16, 3) := by decide +kernel
theorem dX6_valley_73 : decode cX6_valley 73 = .ok (.aload_n 0, 1) := by decide +kernel
theorem dX6_valley_74 : decode cX6_valley 74 = .ok (.getfield 49, 3) := by decide +kernel
theorem dX6_valley_77 : decode cX6_valley 77 = .ok (.iload_n 1, 1) := by decide +kernel
theorem dX6_valley_78 : decode cX6_valley 78 = .ok (.iconst 0, 1) := by decide +kernel
theorem dX6_valley_79 : decode cX6_valley 79 = .ok (.bastore, 1) := by decide +kernel
theorem dX6_valley_80 : decode cX6_valley 80 = .ok (.iinc 1 1, 3) := by decide +kernel
theorem dX6_valley_83 : decode cX6_valley 83 = .ok (.goto (-15), 3) := by decide +kernel
theorem dX6_valley_86 : decode cX6_valley 86 = .ok (.aload_n 0, 1) := by decide +kernel
theorem dX6_valley_87 : decode cX6_valley 87 = .ok (.getfield 23, 3) := by decide +kernel
theorem dX6_valley_90 : decode cX6_valley 90 = .ok (.getfield 100, 3) := by decide +kernel
theorem dX6_valley_93 : decode cX6_valley 93 = .ok (.ireturn, 1) := by decide +kernel
theorem dX6_farmer_0 : decode cX6_farmer 0 = .ok (.aload_n 0, 1) := by decide +kernel
theorem dX6_farmer_1 : decode cX6_farmer 1 = .ok (.getfield 23, 3) := by decide +kernel
theorem dX6_farmer_4 : decode cX6_farmer 4 = .ok (.iload_n 1, 1) := by decide +kernel
theorem dX6_farmer_5 : decode cX6_farmer 5 = .ok (.invokevirtual 101, 3) := by decide +kernel
theorem dX6_farmer_8 : decode cX6_farmer 8 = .ok (.ifCond .ne 5, 3) := by decide +kernel
theorem dX6_farmer_11 : decode cX6_farmer 11 = .ok (.iconst (-1), 1) := by decide +kernel
theorem dX6_farmer_12 : decode cX6_farmer 12 = .ok (.ireturn, 1) := by decide +kernel
theorem dX6_farmer_13 : decode cX6_farmer 13 = .ok (.iload_n 2, 1) := by decide +kernel
theorem dX6_farmer_14 : decode cX6_farmer 14 = .ok (.tableswitch 153 0 9 #[54, 64, 74, 84, 94, 104, 121, 130, 139, 145], 54) := by decide +kernel
theorem dX6_farmer_68 : decode cX6_farmer 68 = .ok (.aload_n 0, 1) := by decide +kernel
theorem dX6_farmer_69 : decode cX6_farmer 69 = .ok (.getfield 23, 3) := by decide +kernel
theorem dX6_farmer_72 : decode cX6_farmer 72 = .ok (.getfield 104, 3) := by decide +kernel
theorem dX6_farmer_75 : decode cX6_farmer 75 = .ok (.iload_n 1, 1) := by decide +kernel
theorem dX6_farmer_76 : decode cX6_farmer 76 = .ok (.iaload, 1) := by decide +kernel
theorem dX6_farmer_77 : decode cX6_farmer 77 = .ok (.ireturn, 1) := by decide +kernel
theorem dX6_farmer_78 : decode cX6_farmer 78 = .ok (.aload_n 0, 1) := by decide +kernel
theorem dX6_farmer_79 : decode cX6_farmer 79 = .ok (.getfield 31, 3) := by decide +kernel
theorem dX6_farmer_82 : decode cX6_farmer 82 = .ok (.getfield 107, 3) := by decide +kernel
theorem dX6_farmer_85 : decode cX6_farmer 85 = .ok (.iload_n 1, 1) := by decide +kernel
theorem dX6_farmer_86 : decode cX6_farmer 86 = .ok (.iaload, 1) := by decide +kernel
theorem dX6_farmer_87 : decode cX6_farmer 87 = .ok (.ireturn, 1) := by decide +kernel
theorem dX6_farmer_88 : decode cX6_farmer 88 = .ok (.aload_n 0, 1) := by decide +kernel
theorem dX6_farmer_89 : decode cX6_farmer 89 = .ok (.getfield 23, 3) := by decide +kernel
theorem dX6_farmer_92 : decode cX6_farmer 92 = .ok (.getfield 110, 3) := by decide +kernel
theorem dX6_farmer_95 : decode cX6_farmer 95 = .ok (.iload_n 1, 1) := by decide +kernel
theorem dX6_farmer_96 : decode cX6_farmer 96 = .ok (.iaload, 1) := by decide +kernel
theorem dX6_farmer_97 : decode cX6_farmer 97 = .ok (.ireturn, 1) := by decide +kernel
theorem dX6_farmer_98 : decode cX6_farmer 98 = .ok (.aload_n 0, 1) := by decide +kernel
theorem dX6_farmer_99 : decode cX6_farmer 99 = .ok (.getfield 23, 3) := by decide +kernel
theorem dX6_farmer_102 : decode cX6_farmer 102 = .ok (.getfield 113, 3) := by decide +kernel
theorem dX6_farmer_105 : decode cX6_farmer 105 = .ok (.iload_n 1, 1) := by decide +kernel
theorem dX6_farmer_106 : decode cX6_farmer 106 = .ok (.iaload, 1) := by decide +kernel
theorem dX6_farmer_107 : decode cX6_farmer 107 = .ok (.ireturn, 1) := by decide +kernel
theorem dX6_farmer_108 : decode cX6_farmer 108 = .ok (.aload_n 0, 1) := by decide +kernel
theorem dX6_farmer_109 : decode cX6_farmer 109 = .ok (.getfield 31, 3) := by decide +kernel
theorem dX6_farmer_112 : decode cX6_farmer 112 = .ok (.getfield 116, 3) := by decide +kernel
theorem dX6_farmer_115 : decode cX6_farmer 115 = .ok (.iload_n 1, 1) := by decide +kernel
theorem dX6_farmer_116 : decode cX6_farmer 116 = .ok (.iaload, 1) := by decide +kernel
theorem dX6_farmer_117 : decode cX6_farmer 117 = .ok (.ireturn, 1) := by decide +kernel
theorem dX6_farmer_118 : decode cX6_farmer 118 = .ok (.aload_n 0, 1) := by decide +kernel
theorem dX6_farmer_119 : decode cX6_farmer 119 = .ok (.getfield 31, 3) := by decide +kernel
theorem dX6_farmer_122 : decode cX6_farmer 122 = .ok (.iload_n 1, 1) := by decide +kernel
theorem dX6_farmer_123 : decode cX6_farmer 123 = .ok (.invokevirtual 119, 3) := by decide +kernel
theorem dX6_farmer_126 : decode cX6_farmer 126 = .ok (.ifCond .eq 7, 3) := by decide +kernel
theorem dX6_farmer_129 : decode cX6_farmer 129 = .ok (.iconst 1, 1) := by decide +kernel
theorem dX6_farmer_130 : decode cX6_farmer 130 = .ok (.goto 4, 3) := by decide +kernel
theorem dX6_farmer_133 : decode cX6_farmer 133 = .ok (.iconst 0, 1) := by decide +kernel
theorem dX6_farmer_134 : decode cX6_farmer 134 = .ok (.ireturn, 1) := by decide +kernel
theorem dX6_farmer_135 : decode cX6_farmer 135 = .ok (.aload_n 0, 1) := by decide +kernel
theorem dX6_farmer_136 : decode cX6_farmer 136 = .ok (.getfield 31, 3) := by decide +kernel
theorem dX6_farmer_139 : decode cX6_farmer 139 = .ok (.iload_n 1, 1) := by decide +kernel
theorem dX6_farmer_140 : decode cX6_farmer 140 = .ok (.invokevirtual 122, 3) := by decide +kernel
theorem dX6_farmer_143 : decode cX6_farmer 143 = .ok (.ireturn, 1) := by decide +kernel
theorem dX6_farmer_144 : decode cX6_farmer 144 = .ok (.aload_n 0, 1) := by decide +kernel
theorem dX6_farmer_145 : decode cX6_farmer 145 = .ok (.getfield 31, 3) := by decide +kernel
theorem dX6_farmer_148 : decode cX6_farmer 148 = .ok (.iload_n 1, 1) := by decide +kernel
theorem dX6_farmer_149 : decode cX6_farmer 149 = .ok (.invokevirtual 126, 3) := by decide +kernel
theorem dX6_farmer_152 : decode cX6_farmer 152 = .ok (.ireturn, 1) := by decide +kernel
theorem dX6_farmer_153 : decode cX6_farmer 153 = .ok (.aload_n 0, 1) := by decide +kernel
theorem dX6_farmer_154 : decode cX6_farmer 154 = .ok (.iload_n 1, 1) := by decide +kernel
theorem dX6_farmer_155 : decode cX6_farmer 155 = .ok (.invokevirtual 129, 3) := by decide +kernel
theorem dX6_farmer_158 : decode cX6_farmer 158 = .ok (.ireturn, 1) := by decide +kernel
theorem dX6_farmer_159 : decode cX6_farmer 159 = .ok (.aload_n 0, 1) := by decide +kernel
theorem dX6_farmer_160 : decode cX6_farmer 160 = .ok (.iconst 1, 1) := by decide +kernel
theorem dX6_farmer_161 : decode cX6_farmer 161 = .ok (.iload_n 1, 1) := by decide +kernel
theorem dX6_farmer_162 : decode cX6_farmer 162 = .ok (.ishl, 1) := by decide +kernel
theorem dX6_farmer_163 : decode cX6_farmer 163 = .ok (.invokevirtual 132, 3) := by decide +kernel
theorem dX6_farmer_166 : decode cX6_farmer 166 = .ok (.ireturn, 1) := by decide +kernel
theorem dX6_farmer_167 : decode cX6_farmer 167 = .ok (.iconst (-1), 1) := by decide +kernel
theorem dX6_farmer_168 : decode cX6_farmer 168 = .ok (.ireturn, 1) := by decide +kernel
theorem dX6_now_0 : decode cX6_now 0 = .ok (.iload_n 1, 1) := by decide +kernel
theorem dX6_now_1 : decode cX6_now 1 = .ok (.tableswitch 79 0 4 #[35, 43, 51, 59, 71], 35) := by decide +kernel
theorem dX6_now_36 : decode cX6_now 36 = .ok (.aload_n 0, 1) := by decide +kernel
theorem dX6_now_37 : decode cX6_now 37 = .ok (.getfield 31, 3) := by decide +kernel
theorem dX6_now_40 : decode cX6_now 40 = .ok (.getfield 135, 3) := by decide +kernel
theorem dX6_now_43 : decode cX6_now 43 = .ok (.ireturn, 1) := by decide +kernel
theorem dX6_now_44 : decode cX6_now 44 = .ok (.aload_n 0, 1) := by decide +kernel
theorem dX6_now_45 : decode cX6_now 45 = .ok (.getfield 31, 3) := by decide +kernel
theorem dX6_now_48 : decode cX6_now 48 = .ok (.getfield 138, 3) := by decide +kernel
theorem dX6_now_51 : decode cX6_now 51 = .ok (.ireturn, 1) := by decide +kernel
theorem dX6_now_52 : decode cX6_now 52 = .ok (.aload_n 0, 1) := by decide +kernel
theorem dX6_now_53 : decode cX6_now 53 = .ok (.getfield 31, 3) := by decide +kernel
theorem dX6_now_56 : decode cX6_now 56 = .ok (.invokevirtual 141, 3) := by decide +kernel
theorem dX6_now_59 : decode cX6_now 59 = .ok (.ireturn, 1) := by decide +kernel
theorem dX6_now_60 : decode cX6_now 60 = .ok (.aload_n 0, 1) := by decide +kernel
theorem dX6_now_61 : decode cX6_now 61 = .ok (.aload_n 0, 1) := by decide +kernel
theorem dX6_now_62 : decode cX6_now 62 = .ok (.getfield 23, 3) := by decide +kernel
theorem dX6_now_65 : decode cX6_now 65 = .ok (.invokevirtual 145, 3) := by decide +kernel
theorem dX6_now_68 : decode cX6_now 68 = .ok (.invokevirtual 132, 3) := by decide +kernel
theorem dX6_now_71 : decode cX6_now 71 = .ok (.ireturn, 1) := by decide +kernel
theorem dX6_now_72 : decode cX6_now 72 = .ok (.aload_n 0, 1) := by decide +kernel
theorem dX6_now_73 : decode cX6_now 73 = .ok (.getfield 41, 3) := by decide +kernel
theorem dX6_now_76 : decode cX6_now 76 = .ok (.getfield 96, 3) := by decide +kernel
theorem dX6_now_79 : decode cX6_now 79 = .ok (.ireturn, 1) := by decide +kernel
theorem dX6_now_80 : decode cX6_now 80 = .ok (.iconst (-1), 1) := by decide +kernel
theorem dX6_now_81 : decode cX6_now 81 = .ok (.ireturn, 1) := by decide +kernel
theorem dX6_day_0 : decode cX6_day 0 = .ok (.iload_n 1, 1) := by decide +kernel
theorem dX6_day_1 : decode cX6_day 1 = .ok (.iconst 0, 1) := by decide +kernel
theorem dX6_day_2 : decode cX6_day 2 = .ok (.iconst 1, 1) := by decide +kernel
theorem dX6_day_3 : decode cX6_day 3 = .ok (.invokestatic 71, 3) := by decide +kernel
theorem dX6_day_6 : decode cX6_day 6 = .ok (.ifCond .ne 5, 3) := by decide +kernel
theorem dX6_day_9 : decode cX6_day 9 = .ok (.iconst (-1), 1) := by decide +kernel
theorem dX6_day_10 : decode cX6_day 10 = .ok (.ireturn, 1) := by decide +kernel
theorem dX6_day_11 : decode cX6_day 11 = .ok (.aload_n 0, 1) := by decide +kernel
theorem dX6_day_12 : decode cX6_day 12 = .ok (.getfield 31, 3) := by decide +kernel
theorem dX6_day_15 : decode cX6_day 15 = .ok (.getfield 135, 3) := by decide +kernel
theorem dX6_day_18 : decode cX6_day 18 = .ok (.sipush 999, 3) := by decide +kernel
theorem dX6_day_21 : decode cX6_day 21 = .ok (.if_icmp .lt 6, 3) := by decide +kernel
theorem dX6_day_24 : decode cX6_day 24 = .ok (.bipush (-2), 2) := by decide +kernel
theorem dX6_day_26 : decode cX6_day 26 = .ok (.ireturn, 1) := by decide +kernel
theorem dX6_day_27 : decode cX6_day 27 = .ok (.aload_n 0, 1) := by decide +kernel
theorem dX6_day_28 : decode cX6_day 28 = .ok (.getfield 41, 3) := by decide +kernel
theorem dX6_day_31 : decode cX6_day 31 = .ok (.aload_n 0, 1) := by decide +kernel
theorem dX6_day_32 : decode cX6_day 32 = .ok (.getfield 31, 3) := by decide +kernel
theorem dX6_day_35 : decode cX6_day 35 = .ok (.invokevirtual 148, 3) := by decide +kernel
theorem dX6_day_38 : decode cX6_day 38 = .ok (.aload_n 0, 1) := by decide +kernel
theorem dX6_day_39 : decode cX6_day 39 = .ok (.getfield 31, 3) := by decide +kernel
theorem dX6_day_42 : decode cX6_day 42 = .ok (.iload_n 1, 1) := by decide +kernel
theorem dX6_day_43 : decode cX6_day 43 = .ok (.iconst 1, 1) := by decide +kernel
theorem dX6_day_44 : decode cX6_day 44 = .ok (.if_icmp .ne 7, 3) := by decide +kernel
theorem dX6_day_47 : decode cX6_day 47 = .ok (.iconst 1, 1) := by decide +kernel
theorem dX6_day_48 : decode cX6_day 48 = .ok (.goto 4, 3) := by decide +kernel
theorem dX6_day_51 : decode cX6_day 51 = .ok (.iconst 0, 1) := by decide +kernel
theorem dX6_day_52 : decode cX6_day 52 = .ok (.invokevirtual 152, 3) := by decide +kernel
theorem dX6_day_55 : decode cX6_day 55 = .ok (.ireturn, 1) := by decide +kernel
theorem dX6_brings_0 : decode cX6_brings 0 = .ok (.aload_n 0, 1) := by decide +kernel
theorem dX6_brings_1 : decode cX6_brings 1 = .ok (.getfield 23, 3) := by decide +kernel
theorem dX6_brings_4 : decode cX6_brings 4 = .ok (.iload_n 1, 1) := by decide +kernel
theorem dX6_brings_5 : decode cX6_brings 5 = .ok (.invokevirtual 101, 3) := by decide +kernel
theorem dX6_brings_8 : decode cX6_brings 8 = .ok (.ifCond .ne 5, 3) := by decide +kernel
theorem dX6_brings_11 : decode cX6_brings 11 = .ok (.iconst (-1), 1) := by decide +kernel
theorem dX6_brings_12 : decode cX6_brings 12 = .ok (.ireturn, 1) := by decide +kernel
theorem dX6_brings_13 : decode cX6_brings 13 = .ok (.aload_n 0, 1) := by decide +kernel
theorem dX6_brings_14 : decode cX6_brings 14 = .ok (.getfield 31, 3) := by decide +kernel
theorem dX6_brings_17 : decode cX6_brings 17 = .ok (.iload_n 1, 1) := by decide +kernel
theorem dX6_brings_18 : decode cX6_brings 18 = .ok (.invokevirtual 119, 3) := by decide +kernel
theorem dX6_brings_21 : decode cX6_brings 21 = .ok (.ifCond .eq 6, 3) := by decide +kernel
theorem dX6_brings_24 : decode cX6_brings 24 = .ok (.bipush (-2), 2) := by decide +kernel
theorem dX6_brings_26 : decode cX6_brings 26 = .ok (.ireturn, 1) := by decide +kernel
theorem dX6_brings_27 : decode cX6_brings 27 = .ok (.aload_n 0, 1) := by decide +kernel
theorem dX6_brings_28 : decode cX6_brings 28 = .ok (.getfield 41, 3) := by decide +kernel
theorem dX6_brings_31 : decode cX6_brings 31 = .ok (.aload_n 0, 1) := by decide +kernel
theorem dX6_brings_32 : decode cX6_brings 32 = .ok (.getfield 31, 3) := by decide +kernel
theorem dX6_brings_35 : decode cX6_brings 35 = .ok (.invokevirtual 148, 3) := by decide +kernel
theorem dX6_brings_38 : decode cX6_brings 38 = .ok (.aload_n 0, 1) := by decide +kernel
theorem dX6_brings_39 : decode cX6_brings 39 = .ok (.getfield 31, 3) := by decide +kernel
theorem dX6_brings_42 : decode cX6_brings 42 = .ok (.dup, 1) := by decide +kernel
theorem dX6_brings_43 : decode cX6_brings 43 = .ok (.getfield 138, 3) := by decide +kernel
theorem dX6_brings_46 : decode cX6_brings 46 = .ok (.iconst 1, 1) := by decide +kernel
theorem dX6_brings_47 : decode cX6_brings 47 = .ok (.iload_n 1, 1) := by decide +kernel
theorem dX6_brings_48 : decode cX6_brings 48 = .ok (.ishl, 1) := by decide +kernel
theorem dX6_brings_49 : decode cX6_brings 49 = .ok (.ior, 1) := by decide +kernel
theorem dX6_brings_50 : decode cX6_brings 50 = .ok (.putfield 138, 3) := by decide +kernel
theorem dX6_brings_53 : decode cX6_brings 53 = .ok (.aload_n 0, 1) := by decide +kernel
theorem dX6_brings_54 : decode cX6_brings 54 = .ok (.getfield 31, 3) := by decide +kernel
theorem dX6_brings_57 : decode cX6_brings 57 = .ok (.getfield 138, 3) := by decide +kernel
theorem dX6_brings_60 : decode cX6_brings 60 = .ok (.invokestatic 156, 3) := by decide +kernel
theorem dX6_brings_63 : decode cX6_brings 63 = .ok (.ireturn, 1) := by decide +kernel
theorem dX6_hangs_0 : decode cX6_hangs 0 = .ok (.aload_n 0, 1) := by decide +kernel
theorem dX6_hangs_1 : decode cX6_hangs 1 = .ok (.getfield 23, 3) := by decide +kernel
theorem dX6_hangs_4 : decode cX6_hangs 4 = .ok (.iload_n 1, 1) := by decide +kernel
theorem dX6_hangs_5 : decode cX6_hangs 5 = .ok (.invokevirtual 101, 3) := by decide +kernel
theorem dX6_hangs_8 : decode cX6_hangs 8 = .ok (.ifCond .eq 19, 3) := by decide +kernel
theorem dX6_hangs_11 : decode cX6_hangs 11 = .ok (.aload_n 0, 1) := by decide +kernel
theorem dX6_hangs_12 : decode cX6_hangs 12 = .ok (.getfield 23, 3) := by decide +kernel
theorem dX6_hangs_15 : decode cX6_hangs 15 = .ok (.iload_n 2, 1) := by decide +kernel
theorem dX6_hangs_16 : decode cX6_hangs 16 = .ok (.invokevirtual 101, 3) := by decide +kernel
theorem dX6_hangs_19 : decode cX6_hangs 19 = .ok (.ifCond .eq 8, 3) := by decide +kernel
theorem dX6_hangs_22 : decode cX6_hangs 22 = .ok (.iload_n 1, 1) := by decide +kernel
theorem dX6_hangs_23 : decode cX6_hangs 23 = .ok (.iload_n 2, 1) := by decide +kernel
theorem dX6_hangs_24 : decode cX6_hangs 24 = .ok (.if_icmp .ne 5, 3) := by decide +kernel
theorem dX6_hangs_27 : decode cX6_hangs 27 = .ok (.iconst (-1), 1) := by decide +kernel
theorem dX6_hangs_28 : decode cX6_hangs 28 = .ok (.ireturn, 1) := by decide +kernel
theorem dX6_hangs_29 : decode cX6_hangs 29 = .ok (.aload_n 0, 1) := by decide +kernel
theorem dX6_hangs_30 : decode cX6_hangs 30 = .ok (.getfield 31, 3) := by decide +kernel
theorem dX6_hangs_33 : decode cX6_hangs 33 = .ok (.getfield 116, 3) := by decide +kernel
theorem dX6_hangs_36 : decode cX6_hangs 36 = .ok (.iload_n 1, 1) := by decide +kernel
theorem dX6_hangs_37 : decode cX6_hangs 37 = .ok (.iaload, 1) := by decide +kernel
theorem dX6_hangs_38 : decode cX6_hangs 38 = .ok (.istore_n 3, 1) := by decide +kernel
theorem dX6_hangs_39 : decode cX6_hangs 39 = .ok (.aload_n 0, 1) := by decide +kernel
theorem dX6_hangs_40 : decode cX6_hangs 40 = .ok (.getfield 31, 3) := by decide +kernel
theorem dX6_hangs_43 : decode cX6_hangs 43 = .ok (.iload_n 1, 1) := by decide +kernel
theorem dX6_hangs_44 : decode cX6_hangs 44 = .ok (.invokevirtual 119, 3) := by decide +kernel
theorem dX6_hangs_47 : decode cX6_hangs 47 = .ok (.ifCond .ne 8, 3) := by decide +kernel
theorem dX6_hangs_50 : decode cX6_hangs 50 = .ok (.iload_n 3, 1) := by decide +kernel
theorem dX6_hangs_51 : decode cX6_hangs 51 = .ok (.iload_n 2, 1) := by decide +kernel
theorem dX6_hangs_52 : decode cX6_hangs 52 = .ok (.if_icmp .ne 6, 3) := by decide +kernel
theorem dX6_hangs_55 : decode cX6_hangs 55 = .ok (.bipush (-2), 2) := by decide +kernel
theorem dX6_hangs_57 : decode cX6_hangs 57 = .ok (.ireturn, 1) := by decide +kernel
theorem dX6_hangs_58 : decode cX6_hangs 58 = .ok (.aload_n 0, 1) := by decide +kernel
theorem dX6_hangs_59 : decode cX6_hangs 59 = .ok (.getfield 41, 3) := by decide +kernel
theorem dX6_hangs_62 : decode cX6_hangs 62 = .ok (.aload_n 0, 1) := by decide +kernel
theorem dX6_hangs_63 : decode cX6_hangs 63 = .ok (.getfield 31, 3) := by decide +kernel
theorem dX6_hangs_66 : decode cX6_hangs 66 = .ok (.invokevirtual 148, 3) := by decide +kernel
theorem dX6_hangs_69 : decode cX6_hangs 69 = .ok (.aload_n 0, 1) := by decide +kernel
theorem dX6_hangs_70 : decode cX6_hangs 70 = .ok (.getfield 31, 3) := by decide +kernel
theorem dX6_hangs_73 : decode cX6_hangs 73 = .ok (.getfield 116, 3) := by decide +kernel
theorem dX6_hangs_76 : decode cX6_hangs 76 = .ok (.iload_n 1, 1) := by decide +kernel
theorem dX6_hangs_77 : decode cX6_hangs 77 = .ok (.iload_n 2, 1) := by decide +kernel
theorem dX6_hangs_78 : decode cX6_hangs 78 = .ok (.iastore, 1) := by decide +kernel
theorem dX6_hangs_79 : decode cX6_hangs 79 = .ok (.iload_n 3, 1) := by decide +kernel
theorem dX6_hangs_80 : decode cX6_hangs 80 = .ok (.ireturn, 1) := by decide +kernel
theorem dX6_undo_0 : decode cX6_undo 0 = .ok (.aload_n 0, 1) := by decide +kernel
theorem dX6_undo_1 : decode cX6_undo 1 = .ok (.getfield 41, 3) := by decide +kernel
theorem dX6_undo_4 : decode cX6_undo 4 = .ok (.getfield 96, 3) := by decide +kernel
theorem dX6_undo_7 : decode cX6_undo 7 = .ok (.ifCond .ne 6, 3) := by decide +kernel
theorem dX6_undo_10 : decode cX6_undo 10 = .ok (.bipush (-2), 2) := by decide +kernel
theorem dX6_undo_12 : decode cX6_undo 12 = .ok (.ireturn, 1) := by decide +kernel
theorem dX6_undo_13 : decode cX6_undo 13 = .ok (.aload_n 0, 1) := by decide +kernel
theorem dX6_undo_14 : decode cX6_undo 14 = .ok (.getfield 41, 3) := by decide +kernel
theorem dX6_undo_17 : decode cX6_undo 17 = .ok (.aload_n 0, 1) := by decide +kernel
theorem dX6_undo_18 : decode cX6_undo 18 = .ok (.getfield 31, 3) := by decide +kernel
theorem dX6_undo_21 : decode cX6_undo 21 = .ok (.invokevirtual 161, 3) := by decide +kernel
theorem dX6_undo_24 : decode cX6_undo 24 = .ok (.aload_n 0, 1) := by decide +kernel
theorem dX6_undo_25 : decode cX6_undo 25 = .ok (.getfield 41, 3) := by decide +kernel
theorem dX6_undo_28 : decode cX6_undo 28 = .ok (.getfield 96, 3) := by decide +kernel
theorem dX6_undo_31 : decode cX6_undo 31 = .ok (.ireturn, 1) := by decide +kernel
theorem dX6_start_0 : decode cX6_start 0 = .ok (.iload_n 1, 1) := by decide +kernel
theorem dX6_start_1 : decode cX6_start 1 = .ok (.iconst 0, 1) := by decide +kernel
theorem dX6_start_2 : decode cX6_start 2 = .ok (.bipush 20, 2) := by decide +kernel
theorem dX6_start_4 : decode cX6_start 4 = .ok (.invokestatic 71, 3) := by decide +kernel
theorem dX6_start_7 : decode cX6_start 7 = .ok (.ifCond .ne 5, 3) := by decide +kernel
theorem dX6_start_10 : decode cX6_start 10 = .ok (.iconst (-1), 1) := by decide +kernel
theorem dX6_start_11 : decode cX6_start 11 = .ok (.ireturn, 1) := by decide +kernel
theorem dX6_start_12 : decode cX6_start 12 = .ok (.aload_n 0, 1) := by decide +kernel
theorem dX6_start_13 : decode cX6_start 13 = .ok (.getfield 23, 3) := by decide +kernel
theorem dX6_start_16 : decode cX6_start 16 = .ok (.invokevirtual 145, 3) := by decide +kernel
theorem dX6_start_19 : decode cX6_start 19 = .ok (.istore_n 2, 1) := by decide +kernel
theorem dX6_start_20 : decode cX6_start 20 = .ok (.iload_n 2, 1) := by decide +kernel
theorem dX6_start_21 : decode cX6_start 21 = .ok (.aload_n 0, 1) := by decide +kernel
theorem dX6_start_22 : decode cX6_start 22 = .ok (.getfield 31, 3) := by decide +kernel
theorem dX6_start_25 : decode cX6_start 25 = .ok (.getfield 138, 3) := by decide +kernel
theorem dX6_start_28 : decode cX6_start 28 = .ok (.iconst (-1), 1) := by decide +kernel
theorem dX6_start_29 : decode cX6_start 29 = .ok (.ixor, 1) := by decide +kernel
theorem dX6_start_30 : decode cX6_start 30 = .ok (.iand, 1) := by decide +kernel
theorem dX6_start_31 : decode cX6_start 31 = .ok (.istore_n 3, 1) := by decide +kernel
theorem dX6_start_32 : decode cX6_start 32 = .ok (.iconst 0, 1) := by decide +kernel
theorem dX6_start_33 : decode cX6_start 33 = .ok (.istore 4, 2) := by decide +kernel
theorem dX6_start_35 : decode cX6_start 35 = .ok (.iload 4, 2) := by decide +kernel
theorem dX6_start_37 : decode cX6_start 37 = .ok (.iload_n 2, 1) := by decide +kernel
theorem dX6_start_38 : decode cX6_start 38 = .ok (.if_icmp .gt 59, 3) := by decide +kernel
theorem dX6_start_41 : decode cX6_start 41 = .ok (.iload 4, 2) := by decide +kernel
theorem dX6_start_43 : decode cX6_start 43 = .ok (.invokestatic 156, 3) := by decide +kernel
theorem dX6_start_46 : decode cX6_start 46 = .ok (.iload_n 3, 1) := by decide +kernel
theorem dX6_start_47 : decode cX6_start 47 = .ok (.invokestatic 156, 3) := by decide +kernel
theorem dX6_start_50 : decode cX6_start 50 = .ok (.if_icmp .ge 7, 3) := by decide +kernel
theorem dX6_start_53 : decode cX6_start 53 = .ok (.iconst 1, 1) := by decide +kernel
theorem dX6_start_54 : decode cX6_start 54 = .ok (.goto 4, 3) := by decide +kernel
theorem dX6_start_57 : decode cX6_start 57 = .ok (.iconst 0, 1) := by decide +kernel
theorem dX6_start_58 : decode cX6_start 58 = .ok (.istore 5, 2) := by decide +kernel
theorem dX6_start_60 : decode cX6_start 60 = .ok (.iload 5, 2) := by decide +kernel
theorem dX6_start_62 : decode cX6_start 62 = .ok (.ifCond .eq 29, 3) := by decide +kernel
theorem dX6_start_65 : decode cX6_start 65 = .ok (.iload 4, 2) := by decide +kernel
theorem dX6_start_67 : decode cX6_start 67 = .ok (.aload_n 0, 1) := by decide +kernel
theorem dX6_start_68 : decode cX6_start 68 = .ok (.getfield 31, 3) := by decide +kernel
theorem dX6_start_71 : decode cX6_start 71 = .ok (.getfield 138, 3) := by decide +kernel
theorem dX6_start_74 : decode cX6_start 74 = .ok (.iand, 1) := by decide +kernel
theorem dX6_start_75 : decode cX6_start 75 = .ok (.ifCond .ne 16, 3) := by decide +kernel
theorem dX6_start_78 : decode cX6_start 78 = .ok (.aload_n 0, 1) := by decide +kernel
theorem dX6_start_79 : decode cX6_start 79 = .ok (.iload_n 1, 1) := by decide +kernel
theorem dX6_start_80 : decode cX6_start 80 = .ok (.iload 4, 2) := by decide +kernel
theorem dX6_start_82 : decode cX6_start 82 = .ok (.invokevirtual 164, 3) := by decide +kernel
theorem dX6_start_85 : decode cX6_start 85 = .ok (.ifCond .eq 6, 3) := by decide +kernel
theorem dX6_start_88 : decode cX6_start 88 = .ok (.iload 4, 2) := by decide +kernel
theorem dX6_start_90 : decode cX6_start 90 = .ok (.istore_n 3, 1) := by decide +kernel
theorem dX6_start_91 : decode cX6_start 91 = .ok (.iinc 4 1, 3) := by decide +kernel
theorem dX6_start_94 : decode cX6_start 94 = .ok (.goto (-59), 3) := by decide +kernel
theorem dX6_start_97 : decode cX6_start 97 = .ok (.iload_n 3, 1) := by decide +kernel
theorem dX6_start_98 : decode cX6_start 98 = .ok (.ireturn, 1) := by decide +kernel
theorem dX6_hang_0 : decode cX6_hang 0 = .ok (.iload_n 1, 1) := by decide +kernel
theorem dX6_hang_1 : decode cX6_hang 1 = .ok (.iconst (-1), 1) := by decide +kernel
theorem dX6_hang_2 : decode cX6_hang 2 = .ok (.if_icmp .eq 16, 3) := by decide +kernel
theorem dX6_hang_5 : decode cX6_hang 5 = .ok (.aload_n 0, 1) := by decide +kernel
theorem dX6_hang_6 : decode cX6_hang 6 = .ok (.getfield 23, 3) := by decide +kernel
theorem dX6_hang_9 : decode cX6_hang 9 = .ok (.iload_n 1, 1) := by decide +kernel
theorem dX6_hang_10 : decode cX6_hang 10 = .ok (.invokevirtual 101, 3) := by decide +kernel
theorem dX6_hang_13 : decode cX6_hang 13 = .ok (.ifCond .ne 5, 3) := by decide +kernel
theorem dX6_hang_16 : decode cX6_hang 16 = .ok (.iconst (-1), 1) := by decide +kernel
theorem dX6_hang_17 : decode cX6_hang 17 = .ok (.ireturn, 1) := by decide +kernel
theorem dX6_hang_18 : decode cX6_hang 18 = .ok (.aload_n 0, 1) := by decide +kernel
theorem dX6_hang_19 : decode cX6_hang 19 = .ok (.getfield 23, 3) := by decide +kernel
theorem dX6_hang_22 : decode cX6_hang 22 = .ok (.getfield 100, 3) := by decide +kernel
theorem dX6_hang_25 : decode cX6_hang 25 = .ok (.ifCond .ne 6, 3) := by decide +kernel
theorem dX6_hang_28 : decode cX6_hang 28 = .ok (.bipush (-9), 2) := by decide +kernel
theorem dX6_hang_30 : decode cX6_hang 30 = .ok (.ireturn, 1) := by decide +kernel
theorem dX6_hang_31 : decode cX6_hang 31 = .ok (.aload_n 0, 1) := by decide +kernel
theorem dX6_hang_32 : decode cX6_hang 32 = .ok (.getfield 56, 3) := by decide +kernel
theorem dX6_hang_35 : decode cX6_hang 35 = .ok (.invokevirtual 168, 3) := by decide +kernel
theorem dX6_hang_38 : decode cX6_hang 38 = .ok (.iload_n 1, 1) := by decide +kernel
theorem dX6_hang_39 : decode cX6_hang 39 = .ok (.iconst (-1), 1) := by decide +kernel
theorem dX6_hang_40 : decode cX6_hang 40 = .ok (.if_icmp .ne 13, 3) := by decide +kernel
theorem dX6_hang_43 : decode cX6_hang 43 = .ok (.aload_n 0, 1) := by decide +kernel
theorem dX6_hang_44 : decode cX6_hang 44 = .ok (.getfield 56, 3) := by decide +kernel
theorem dX6_hang_47 : decode cX6_hang 47 = .ok (.getfield 171, 3) := by decide +kernel
theorem dX6_hang_50 : decode cX6_hang 50 = .ok (.goto 12, 3) := by decide +kernel
theorem dX6_hang_53 : decode cX6_hang 53 = .ok (.aload_n 0, 1) := by decide +kernel
theorem dX6_hang_54 : decode cX6_hang 54 = .ok (.getfield 56, 3) := by decide +kernel
theorem dX6_hang_57 : decode cX6_hang 57 = .ok (.getfield 174, 3) := by decide +kernel
theorem dX6_hang_60 : decode cX6_hang 60 = .ok (.iload_n 1, 1) := by decide +kernel
theorem dX6_hang_61 : decode cX6_hang 61 = .ok (.iaload, 1) := by decide +kernel
theorem dX6_hang_62 : decode cX6_hang 62 = .ok (.ireturn, 1) := by decide +kernel
theorem dX6_odds_0 : decode cX6_odds 0 = .ok (.aload_n 0, 1) := by decide +kernel
theorem dX6_odds_1 : decode cX6_odds 1 = .ok (.getfield 23, 3) := by decide +kernel
theorem dX6_odds_4 : decode cX6_odds 4 = .ok (.iload_n 1, 1) := by decide +kernel
theorem dX6_odds_5 : decode cX6_odds 5 = .ok (.invokevirtual 101, 3) := by decide +kernel
theorem dX6_odds_8 : decode cX6_odds 8 = .ok (.ifCond .eq 33, 3) := by decide +kernel
theorem dX6_odds_11 : decode cX6_odds 11 = .ok (.iload_n 2, 1) := by decide +kernel
theorem dX6_odds_12 : decode cX6_odds 12 = .ok (.iconst 0, 1) := by decide +kernel
theorem dX6_odds_13 : decode cX6_odds 13 = .ok (.bipush 10, 2) := by decide +kernel
theorem dX6_odds_15 : decode cX6_odds 15 = .ok (.invokestatic 71, 3) := by decide +kernel
theorem dX6_odds_18 : decode cX6_odds 18 = .ok (.ifCond .eq 23, 3) := by decide +kernel
theorem dX6_odds_21 : decode cX6_odds 21 = .ok (.iload_n 3, 1) := by decide +kernel
theorem dX6_odds_22 : decode cX6_odds 22 = .ok (.iconst 0, 1) := by decide +kernel
theorem dX6_odds_23 : decode cX6_odds 23 = .ok (.bipush 8, 2) := by decide +kernel
theorem dX6_odds_25 : decode cX6_odds 25 = .ok (.invokestatic 71, 3) := by decide +kernel
theorem dX6_odds_28 : decode cX6_odds 28 = .ok (.ifCond .eq 13, 3) := by decide +kernel
theorem dX6_odds_31 : decode cX6_odds 31 = .ok (.iload 4, 2) := by decide +kernel
theorem dX6_odds_33 : decode cX6_odds 33 = .ok (.iconst 0, 1) := by decide +kernel
theorem dX6_odds_34 : decode cX6_odds 34 = .ok (.iconst 1, 1) := by decide +kernel
theorem dX6_odds_35 : decode cX6_odds 35 = .ok (.invokestatic 71, 3) := by decide +kernel
theorem dX6_odds_38 : decode cX6_odds 38 = .ok (.ifCond .ne 5, 3) := by decide +kernel
theorem dX6_odds_41 : decode cX6_odds 41 = .ok (.iconst (-1), 1) := by decide +kernel
theorem dX6_odds_42 : decode cX6_odds 42 = .ok (.ireturn, 1) := by decide +kernel
theorem dX6_odds_43 : decode cX6_odds 43 = .ok (.aload_n 0, 1) := by decide +kernel
theorem dX6_odds_44 : decode cX6_odds 44 = .ok (.iload_n 2, 1) := by decide +kernel
theorem dX6_odds_45 : decode cX6_odds 45 = .ok (.iload_n 3, 1) := by decide +kernel
theorem dX6_odds_46 : decode cX6_odds 46 = .ok (.invokevirtual 175, 3) := by decide +kernel
theorem dX6_odds_49 : decode cX6_odds 49 = .ok (.aload_n 0, 1) := by decide +kernel
theorem dX6_odds_50 : decode cX6_odds 50 = .ok (.getfield 31, 3) := by decide +kernel
theorem dX6_odds_53 : decode cX6_odds 53 = .ok (.getfield 107, 3) := by decide +kernel
theorem dX6_odds_56 : decode cX6_odds 56 = .ok (.iload_n 1, 1) := by decide +kernel
theorem dX6_odds_57 : decode cX6_odds 57 = .ok (.iaload, 1) := by decide +kernel
theorem dX6_odds_58 : decode cX6_odds 58 = .ok (.istore 5, 2) := by decide +kernel
theorem dX6_odds_60 : decode cX6_odds 60 = .ok (.iload 5, 2) := by decide +kernel
theorem dX6_odds_62 : decode cX6_odds 62 = .ok (.iload_n 3, 1) := by decide +kernel
theorem dX6_odds_63 : decode cX6_odds 63 = .ok (.if_icmp .le 7, 3) := by decide +kernel
theorem dX6_odds_66 : decode cX6_odds 66 = .ok (.iconst 0, 1) := by decide +kernel
theorem dX6_odds_67 : decode cX6_odds 67 = .ok (.goto 10, 3) := by decide +kernel
theorem dX6_odds_70 : decode cX6_odds 70 = .ok (.aload_n 0, 1) := by decide +kernel
theorem dX6_odds_71 : decode cX6_odds 71 = .ok (.getfield 67, 3) := by decide +kernel
theorem dX6_odds_74 : decode cX6_odds 74 = .ok (.iload 5, 2) := by decide +kernel
theorem dX6_odds_76 : decode cX6_odds 76 = .ok (.iaload, 1) := by decide +kernel
theorem dX6_odds_77 : decode cX6_odds 77 = .ok (.istore 6, 2) := by decide +kernel
theorem dX6_odds_79 : decode cX6_odds 79 = .ok (.aload_n 0, 1) := by decide +kernel
theorem dX6_odds_80 : decode cX6_odds 80 = .ok (.getfield 67, 3) := by decide +kernel
theorem dX6_odds_83 : decode cX6_odds 83 = .ok (.iconst 0, 1) := by decide +kernel
theorem dX6_odds_84 : decode cX6_odds 84 = .ok (.iaload, 1) := by decide +kernel
theorem dX6_odds_85 : decode cX6_odds 85 = .ok (.istore 7, 2) := by decide +kernel
theorem dX6_odds_87 : decode cX6_odds 87 = .ok (.iload 7, 2) := by decide +kernel
theorem dX6_odds_89 : decode cX6_odds 89 = .ok (.iload 6, 2) := by decide +kernel
theorem dX6_odds_91 : decode cX6_odds 91 = .ok (.invokestatic 179, 3) := by decide +kernel
theorem dX6_odds_94 : decode cX6_odds 94 = .ok (.istore 8, 2) := by decide +kernel
theorem dX6_odds_96 : decode cX6_odds 96 = .ok (.iload 4, 2) := by decide +kernel
theorem dX6_odds_98 : decode cX6_odds 98 = .ok (.ifCond .ne 8, 3) := by decide +kernel
theorem dX6_odds_101 : decode cX6_odds 101 = .ok (.iload 6, 2) := by decide +kernel
theorem dX6_odds_103 : decode cX6_odds 103 = .ok (.goto 5, 3) := by decide +kernel
theorem dX6_odds_106 : decode cX6_odds 106 = .ok (.iload 7, 2) := by decide +kernel
theorem dX6_odds_108 : decode cX6_odds 108 = .ok (.iload 8, 2) := by decide +kernel
theorem dX6_odds_110 : decode cX6_odds 110 = .ok (.idiv, 1) := by decide +kernel
theorem dX6_odds_111 : decode cX6_odds 111 = .ok (.ireturn, 1) := by decide +kernel
theorem dX6_sees_0 : decode cX6_sees 0 = .ok (.iload_n 1, 1) := by decide +kernel
theorem dX6_sees_1 : decode cX6_sees 1 = .ok (.iconst 0, 1) := by decide +kernel
theorem dX6_sees_2 : decode cX6_sees 2 = .ok (.bipush 20, 2) := by decide +kernel
theorem dX6_sees_4 : decode cX6_sees 4 = .ok (.invokestatic 71, 3) := by decide +kernel
theorem dX6_sees_7 : decode cX6_sees 7 = .ok (.ifCond .eq 22, 3) := by decide +kernel
theorem dX6_sees_10 : decode cX6_sees 10 = .ok (.iload_n 2, 1) := by decide +kernel
theorem dX6_sees_11 : decode cX6_sees 11 = .ok (.iconst 0, 1) := by decide +kernel
theorem dX6_sees_12 : decode cX6_sees 12 = .ok (.bipush 6, 2) := by decide +kernel
theorem dX6_sees_14 : decode cX6_sees 14 = .ok (.invokestatic 71, 3) := by decide +kernel
theorem dX6_sees_17 : decode cX6_sees 17 = .ok (.ifCond .eq 12, 3) := by decide +kernel
theorem dX6_sees_20 : decode cX6_sees 20 = .ok (.iload_n 3, 1) := by decide +kernel
theorem dX6_sees_21 : decode cX6_sees 21 = .ok (.iconst 0, 1) := by decide +kernel
theorem dX6_sees_22 : decode cX6_sees 22 = .ok (.iconst 1, 1) := by decide +kernel
theorem dX6_sees_23 : decode cX6_sees 23 = .ok (.invokestatic 71, 3) := by decide +kernel
theorem dX6_sees_26 : decode cX6_sees 26 = .ok (.ifCond .ne 5, 3) := by decide +kernel
theorem dX6_sees_29 : decode cX6_sees 29 = .ok (.iconst (-1), 1) := by decide +kernel
theorem dX6_sees_30 : decode cX6_sees 30 = .ok (.ireturn, 1) := by decide +kernel
theorem dX6_sees_31 : decode cX6_sees 31 = .ok (.aload_n 0, 1) := by decide +kernel
theorem dX6_sees_32 : decode cX6_sees 32 = .ok (.getfield 63, 3) := by decide +kernel
theorem dX6_sees_35 : decode cX6_sees 35 = .ok (.getfield 183, 3) := by decide +kernel
theorem dX6_sees_38 : decode cX6_sees 38 = .ok (.bipush 6, 2) := by decide +kernel
theorem dX6_sees_40 : decode cX6_sees 40 = .ok (.if_icmp .lt 6, 3) := by decide +kernel
theorem dX6_sees_43 : decode cX6_sees 43 = .ok (.bipush (-3), 2) := by decide +kernel
theorem dX6_sees_45 : decode cX6_sees 45 = .ok (.ireturn, 1) := by decide +kernel
theorem dX6_sees_46 : decode cX6_sees 46 = .ok (.aload_n 0, 1) := by decide +kernel
theorem dX6_sees_47 : decode cX6_sees 47 = .ok (.getfield 63, 3) := by decide +kernel
theorem dX6_sees_50 : decode cX6_sees 50 = .ok (.iload_n 1, 1) := by decide +kernel
theorem dX6_sees_51 : decode cX6_sees 51 = .ok (.iload_n 2, 1) := by decide +kernel
theorem dX6_sees_52 : decode cX6_sees 52 = .ok (.iload_n 3, 1) := by decide +kernel
theorem dX6_sees_53 : decode cX6_sees 53 = .ok (.iconst 1, 1) := by decide +kernel
theorem dX6_sees_54 : decode cX6_sees 54 = .ok (.if_icmp .ne 7, 3) := by decide +kernel
theorem dX6_sees_57 : decode cX6_sees 57 = .ok (.iconst 1, 1) := by decide +kernel
theorem dX6_sees_58 : decode cX6_sees 58 = .ok (.goto 4, 3) := by decide +kernel
theorem dX6_sees_61 : decode cX6_sees 61 = .ok (.iconst 0, 1) := by decide +kernel
theorem dX6_sees_62 : decode cX6_sees 62 = .ok (.invokevirtual 186, 3) := by decide +kernel
theorem dX6_sees_65 : decode cX6_sees 65 = .ok (.aload_n 0, 1) := by decide +kernel
theorem dX6_sees_66 : decode cX6_sees 66 = .ok (.getfield 63, 3) := by decide +kernel
theorem dX6_sees_69 : decode cX6_sees 69 = .ok (.getfield 183, 3) := by decide +kernel
theorem dX6_sees_72 : decode cX6_sees 72 = .ok (.ireturn, 1) := by decide +kernel
theorem dX6_forget_0 : decode cX6_forget 0 = .ok (.aload_n 0, 1) := by decide +kernel
theorem dX6_forget_1 : decode cX6_forget 1 = .ok (.getfield 63, 3) := by decide +kernel
theorem dX6_forget_4 : decode cX6_forget 4 = .ok (.getfield 183, 3) := by decide +kernel
theorem dX6_forget_7 : decode cX6_forget 7 = .ok (.istore_n 1, 1) := by decide +kernel
theorem dX6_forget_8 : decode cX6_forget 8 = .ok (.aload_n 0, 1) := by decide +kernel
theorem dX6_forget_9 : decode cX6_forget 9 = .ok (.getfield 63, 3) := by decide +kernel
theorem dX6_forget_12 : decode cX6_forget 12 = .ok (.invokevirtual 99, 3) := by decide +kernel
theorem dX6_forget_15 : decode cX6_forget 15 = .ok (.iload_n 1, 1) := by decide +kernel
theorem dX6_forget_16 : decode cX6_forget 16 = .ok (.ireturn, 1) := by decide +kernel
theorem dX6_ones_0 : decode cX6_ones 0 = .ok (.iload_n 1, 1) := by decide +kernel
theorem dX6_ones_1 : decode cX6_ones 1 = .ok (.tableswitch 54 0 2 #[27, 38, 46], 27) := by decide +kernel
theorem dX6_ones_28 : decode cX6_ones 28 = .ok (.aload_n 0, 1) := by decide +kernel
theorem dX6_ones_29 : decode cX6_ones 29 = .ok (.getfield 63, 3) := by decide +kernel
theorem dX6_ones_32 : decode cX6_ones 32 = .ok (.iconst 0, 1) := by decide +kernel
theorem dX6_ones_33 : decode cX6_ones 33 = .ok (.bipush 20, 2) := by decide +kernel
theorem dX6_ones_35 : decode cX6_ones 35 = .ok (.invokevirtual 190, 3) := by decide +kernel
theorem dX6_ones_38 : decode cX6_ones 38 = .ok (.ireturn, 1) := by decide +kernel
theorem dX6_ones_39 : decode cX6_ones 39 = .ok (.aload_n 0, 1) := by decide +kernel
theorem dX6_ones_40 : decode cX6_ones 40 = .ok (.getfield 63, 3) := by decide +kernel
theorem dX6_ones_43 : decode cX6_ones 43 = .ok (.invokevirtual 193, 3) := by decide +kernel
theorem dX6_ones_46 : decode cX6_ones 46 = .ok (.ireturn, 1) := by decide +kernel
theorem dX6_ones_47 : decode cX6_ones 47 = .ok (.aload_n 0, 1) := by decide +kernel
theorem dX6_ones_48 : decode cX6_ones 48 = .ok (.getfield 63, 3) := by decide +kernel
theorem dX6_ones_51 : decode cX6_ones 51 = .ok (.invokevirtual 196, 3) := by decide +kernel
theorem dX6_ones_54 : decode cX6_ones 54 = .ok (.ireturn, 1) := by decide +kernel
theorem dX6_ones_55 : decode cX6_ones 55 = .ok (.iconst (-1), 1) := by decide +kernel
theorem dX6_ones_56 : decode cX6_ones 56 = .ok (.ireturn, 1) := by decide +kernel
theorem dX6_look_0 : decode cX6_look 0 = .ok (.iload_n 1, 1) := by decide +kernel
theorem dX6_look_1 : decode cX6_look 1 = .ok (.iconst 0, 1) := by decide +kernel
theorem dX6_look_2 : decode cX6_look 2 = .ok (.bipush 20, 2) := by decide +kernel
theorem dX6_look_4 : decode cX6_look 4 = .ok (.invokestatic 71, 3) := by decide +kernel
theorem dX6_look_7 : decode cX6_look 7 = .ok (.ifCond .ne 5, 3) := by decide +kernel
theorem dX6_look_10 : decode cX6_look 10 = .ok (.iconst (-1), 1) := by decide +kernel
theorem dX6_look_11 : decode cX6_look 11 = .ok (.ireturn, 1) := by decide +kernel
theorem dX6_look_12 : decode cX6_look 12 = .ok (.aload_n 0, 1) := by decide +kernel
theorem dX6_look_13 : decode cX6_look 13 = .ok (.getfield 63, 3) := by decide +kernel
theorem dX6_look_16 : decode cX6_look 16 = .ok (.iload_n 1, 1) := by decide +kernel
theorem dX6_look_17 : decode cX6_look 17 = .ok (.invokevirtual 199, 3) := by decide +kernel
theorem dX6_look_20 : decode cX6_look 20 = .ok (.ireturn, 1) := by decide +kernel
theorem dX6_rate_0 : decode cX6_rate 0 = .ok (.aload_n 0, 1) := by decide +kernel
theorem dX6_rate_1 : decode cX6_rate 1 = .ok (.getfield 23, 3) := by decide +kernel
theorem dX6_rate_4 : decode cX6_rate 4 = .ok (.iload_n 2, 1) := by decide +kernel
theorem dX6_rate_5 : decode cX6_rate 5 = .ok (.invokevirtual 101, 3) := by decide +kernel
theorem dX6_rate_8 : decode cX6_rate 8 = .ok (.ifCond .ne 6, 3) := by decide +kernel
theorem dX6_rate_11 : decode cX6_rate 11 = .ok (.ldc 202, 2) := by decide +kernel
theorem dX6_rate_13 : decode cX6_rate 13 = .ok (.ireturn, 1) := by decide +kernel
theorem dX6_rate_14 : decode cX6_rate 14 = .ok (.iload_n 1, 1) := by decide +kernel
theorem dX6_rate_15 : decode cX6_rate 15 = .ok (.tableswitch 73 0 5 #[37, 43, 49, 55, 61, 67], 37) := by decide +kernel
theorem dX6_rate_52 : decode cX6_rate 52 = .ok (.aload_n 0, 1) := by decide +kernel
theorem dX6_rate_53 : decode cX6_rate 53 = .ok (.iload_n 2, 1) := by decide +kernel
theorem dX6_rate_54 : decode cX6_rate 54 = .ok (.invokevirtual 203, 3) := by decide +kernel
theorem dX6_rate_57 : decode cX6_rate 57 = .ok (.ireturn, 1) := by decide +kernel
theorem dX6_rate_58 : decode cX6_rate 58 = .ok (.aload_n 0, 1) := by decide +kernel
theorem dX6_rate_59 : decode cX6_rate 59 = .ok (.iload_n 2, 1) := by decide +kernel
theorem dX6_rate_60 : decode cX6_rate 60 = .ok (.invokevirtual 206, 3) := by decide +kernel
theorem dX6_rate_63 : decode cX6_rate 63 = .ok (.ireturn, 1) := by decide +kernel
theorem dX6_rate_64 : decode cX6_rate 64 = .ok (.aload_n 0, 1) := by decide +kernel
theorem dX6_rate_65 : decode cX6_rate 65 = .ok (.iload_n 2, 1) := by decide +kernel
theorem dX6_rate_66 : decode cX6_rate 66 = .ok (.invokevirtual 209, 3) := by decide +kernel
theorem dX6_rate_69 : decode cX6_rate 69 = .ok (.ireturn, 1) := by decide +kernel
theorem dX6_rate_70 : decode cX6_rate 70 = .ok (.aload_n 0, 1) := by decide +kernel
theorem dX6_rate_71 : decode cX6_rate 71 = .ok (.iload_n 2, 1) := by decide +kernel
theorem dX6_rate_72 : decode cX6_rate 72 = .ok (.invokevirtual 212, 3) := by decide +kernel
theorem dX6_rate_75 : decode cX6_rate 75 = .ok (.ireturn, 1) := by decide +kernel
theorem dX6_rate_76 : decode cX6_rate 76 = .ok (.aload_n 0, 1) := by decide +kernel
theorem dX6_rate_77 : decode cX6_rate 77 = .ok (.iload_n 2, 1) := by decide +kernel
theorem dX6_rate_78 : decode cX6_rate 78 = .ok (.invokevirtual 215, 3) := by decide +kernel
theorem dX6_rate_81 : decode cX6_rate 81 = .ok (.ireturn, 1) := by decide +kernel
theorem dX6_rate_82 : decode cX6_rate 82 = .ok (.aload_n 0, 1) := by decide +kernel
theorem dX6_rate_83 : decode cX6_rate 83 = .ok (.iload_n 2, 1) := by decide +kernel
theorem dX6_rate_84 : decode cX6_rate 84 = .ok (.invokevirtual 218, 3) := by decide +kernel
theorem dX6_rate_87 : decode cX6_rate 87 = .ok (.ireturn, 1) := by decide +kernel
theorem dX6_rate_88 : decode cX6_rate 88 = .ok (.ldc 202, 2) := by decide +kernel
theorem dX6_rate_90 : decode cX6_rate 90 = .ok (.ireturn, 1) := by decide +kernel
theorem dX6_keep_0 : decode cX6_keep 0 = .ok (.iload_n 1, 1) := by decide +kernel
theorem dX6_keep_1 : decode cX6_keep 1 = .ok (.iconst 0, 1) := by decide +kernel
theorem dX6_keep_2 : decode cX6_keep 2 = .ok (.iconst 1, 1) := by decide +kernel
theorem dX6_keep_3 : decode cX6_keep 3 = .ok (.invokestatic 71, 3) := by decide +kernel
theorem dX6_keep_6 : decode cX6_keep 6 = .ok (.ifCond .ne 5, 3) := by decide +kernel
theorem dX6_keep_9 : decode cX6_keep 9 = .ok (.iconst (-1), 1) := by decide +kernel
theorem dX6_keep_10 : decode cX6_keep 10 = .ok (.ireturn, 1) := by decide +kernel
theorem dX6_keep_11 : decode cX6_keep 11 = .ok (.aload_n 0, 1) := by decide +kernel
theorem dX6_keep_12 : decode cX6_keep 12 = .ok (.getfield 45, 3) := by decide +kernel
theorem dX6_keep_15 : decode cX6_keep 15 = .ok (.iload_n 1, 1) := by decide +kernel
theorem dX6_keep_16 : decode cX6_keep 16 = .ok (.aaload, 1) := by decide +kernel
theorem dX6_keep_17 : decode cX6_keep 17 = .ok (.aload_n 0, 1) := by decide +kernel
theorem dX6_keep_18 : decode cX6_keep 18 = .ok (.getfield 31, 3) := by decide +kernel
theorem dX6_keep_21 : decode cX6_keep 21 = .ok (.invokevirtual 221, 3) := by decide +kernel
theorem dX6_keep_24 : decode cX6_keep 24 = .ok (.aload_n 0, 1) := by decide +kernel
theorem dX6_keep_25 : decode cX6_keep 25 = .ok (.getfield 49, 3) := by decide +kernel
theorem dX6_keep_28 : decode cX6_keep 28 = .ok (.iload_n 1, 1) := by decide +kernel
theorem dX6_keep_29 : decode cX6_keep 29 = .ok (.iconst 1, 1) := by decide +kernel
theorem dX6_keep_30 : decode cX6_keep 30 = .ok (.bastore, 1) := by decide +kernel
theorem dX6_keep_31 : decode cX6_keep 31 = .ok (.aload_n 0, 1) := by decide +kernel
theorem dX6_keep_32 : decode cX6_keep 32 = .ok (.getfield 31, 3) := by decide +kernel
theorem dX6_keep_35 : decode cX6_keep 35 = .ok (.getfield 135, 3) := by decide +kernel
theorem dX6_keep_38 : decode cX6_keep 38 = .ok (.ireturn, 1) := by decide +kernel
theorem dX6_back_0 : decode cX6_back 0 = .ok (.iload_n 1, 1) := by decide +kernel
theorem dX6_back_1 : decode cX6_back 1 = .ok (.iconst 0, 1) := by decide +kernel
theorem dX6_back_2 : decode cX6_back 2 = .ok (.iconst 1, 1) := by decide +kernel
theorem dX6_back_3 : decode cX6_back 3 = .ok (.invokestatic 71, 3) := by decide +kernel
theorem dX6_back_6 : decode cX6_back 6 = .ok (.ifCond .ne 5, 3) := by decide +kernel
theorem dX6_back_9 : decode cX6_back 9 = .ok (.iconst (-1), 1) := by decide +kernel
theorem dX6_back_10 : decode cX6_back 10 = .ok (.ireturn, 1) := by decide +kernel
theorem dX6_back_11 : decode cX6_back 11 = .ok (.aload_n 0, 1) := by decide +kernel
theorem dX6_back_12 : decode cX6_back 12 = .ok (.getfield 49, 3) := by decide +kernel
theorem dX6_back_15 : decode cX6_back 15 = .ok (.iload_n 1, 1) := by decide +kernel
theorem dX6_back_16 : decode cX6_back 16 = .ok (.baload, 1) := by decide +kernel
theorem dX6_back_17 : decode cX6_back 17 = .ok (.ifCond .ne 6, 3) := by decide +kernel
theorem dX6_back_20 : decode cX6_back 20 = .ok (.bipush (-2), 2) := by decide +kernel
theorem dX6_back_22 : decode cX6_back 22 = .ok (.ireturn, 1) := by decide +kernel
theorem dX6_back_23 : decode cX6_back 23 = .ok (.aload_n 0, 1) := by decide +kernel
theorem dX6_back_24 : decode cX6_back 24 = .ok (.getfield 31, 3) := by decide +kernel
theorem dX6_back_27 : decode cX6_back 27 = .ok (.aload_n 0, 1) := by decide +kernel
theorem dX6_back_28 : decode cX6_back 28 = .ok (.getfield 45, 3) := by decide +kernel
theorem dX6_back_31 : decode cX6_back 31 = .ok (.iload_n 1, 1) := by decide +kernel
theorem dX6_back_32 : decode cX6_back 32 = .ok (.aaload, 1) := by decide +kernel
theorem dX6_back_33 : decode cX6_back 33 = .ok (.invokevirtual 221, 3) := by decide +kernel
theorem dX6_back_36 : decode cX6_back 36 = .ok (.aload_n 0, 1) := by decide +kernel
theorem dX6_back_37 : decode cX6_back 37 = .ok (.getfield 41, 3) := by decide +kernel
theorem dX6_back_40 : decode cX6_back 40 = .ok (.iconst 0, 1) := by decide +kernel
theorem dX6_back_41 : decode cX6_back 41 = .ok (.putfield 96, 3) := by decide +kernel
theorem dX6_back_44 : decode cX6_back 44 = .ok (.aload_n 0, 1) := by decide +kernel
theorem dX6_back_45 : decode cX6_back 45 = .ok (.getfield 31, 3) := by decide +kernel
theorem dX6_back_48 : decode cX6_back 48 = .ok (.getfield 135, 3) := by decide +kernel
theorem dX6_back_51 : decode cX6_back 51 = .ok (.ireturn, 1) := by decide +kernel
theorem dX6_count_0 : decode cX6_count 0 = .ok (.iload_n 1, 1) := by decide +kernel
theorem dX6_count_1 : decode cX6_count 1 = .ok (.tableswitch 51 0 2 #[27, 35, 43], 27) := by decide +kernel
theorem dX6_count_28 : decode cX6_count 28 = .ok (.aload_n 0, 1) := by decide +kernel
theorem dX6_count_29 : decode cX6_count 29 = .ok (.getfield 23, 3) := by decide +kernel
theorem dX6_count_32 : decode cX6_count 32 = .ok (.getfield 100, 3) := by decide +kernel
theorem dX6_count_35 : decode cX6_count 35 = .ok (.ireturn, 1) := by decide +kernel
theorem dX6_count_36 : decode cX6_count 36 = .ok (.aload_n 0, 1) := by decide +kernel
theorem dX6_count_37 : decode cX6_count 37 = .ok (.getfield 63, 3) := by decide +kernel
theorem dX6_count_40 : decode cX6_count 40 = .ok (.getfield 183, 3) := by decide +kernel
theorem dX6_count_43 : decode cX6_count 43 = .ok (.ireturn, 1) := by decide +kernel
theorem dX6_count_44 : decode cX6_count 44 = .ok (.aload_n 0, 1) := by decide +kernel
theorem dX6_count_45 : decode cX6_count 45 = .ok (.getfield 10, 3) := by decide +kernel
theorem dX6_count_48 : decode cX6_count 48 = .ok (.getfield 79, 3) := by decide +kernel
theorem dX6_count_51 : decode cX6_count 51 = .ok (.ireturn, 1) := by decide +kernel
theorem dX6_count_52 : decode cX6_count 52 = .ok (.iconst (-1), 1) := by decide +kernel
theorem dX6_count_53 : decode cX6_count 53 = .ok (.ireturn, 1) := by decide +kernel
theorem dX6_trace_0 : decode cX6_trace 0 = .ok (.aload_n 0, 1) := by decide +kernel
theorem dX6_trace_1 : decode cX6_trace 1 = .ok (.getfield 223, 3) := by decide +kernel
theorem dX6_trace_4 : decode cX6_trace 4 = .ok (.lreturn, 1) := by decide +kernel
theorem dX6_within_0 : decode cX6_within 0 = .ok (.iload_n 0, 1) := by decide +kernel
theorem dX6_within_1 : decode cX6_within 1 = .ok (.iload_n 1, 1) := by decide +kernel
theorem dX6_within_2 : decode cX6_within 2 = .ok (.if_icmp .lt 12, 3) := by decide +kernel
theorem dX6_within_5 : decode cX6_within 5 = .ok (.iload_n 0, 1) := by decide +kernel
theorem dX6_within_6 : decode cX6_within 6 = .ok (.iload_n 2, 1) := by decide +kernel
theorem dX6_within_7 : decode cX6_within 7 = .ok (.if_icmp .gt 7, 3) := by decide +kernel
theorem dX6_within_10 : decode cX6_within 10 = .ok (.iconst 1, 1) := by decide +kernel
theorem dX6_within_11 : decode cX6_within 11 = .ok (.goto 4, 3) := by decide +kernel
theorem dX6_within_14 : decode cX6_within 14 = .ok (.iconst 0, 1) := by decide +kernel
theorem dX6_within_15 : decode cX6_within 15 = .ok (.ireturn, 1) := by decide +kernel
theorem dX6_daysTillAsked_0 : decode cX6_daysTillAsked 0 = .ok (.aload_n 0, 1) := by decide +kernel
theorem dX6_daysTillAsked_1 : decode cX6_daysTillAsked 1 = .ok (.getfield 31, 3) := by decide +kernel
theorem dX6_daysTillAsked_4 : decode cX6_daysTillAsked 4 = .ok (.getfield 138, 3) := by decide +kernel
theorem dX6_daysTillAsked_7 : decode cX6_daysTillAsked 7 = .ok (.istore_n 2, 1) := by decide +kernel
theorem dX6_daysTillAsked_8 : decode cX6_daysTillAsked 8 = .ok (.iconst 0, 1) := by decide +kernel
theorem dX6_daysTillAsked_9 : decode cX6_daysTillAsked 9 = .ok (.istore_n 3, 1) := by decide +kernel
theorem dX6_daysTillAsked_10 : decode cX6_daysTillAsked 10 = .ok (.iload_n 3, 1) := by decide +kernel
theorem dX6_daysTillAsked_11 : decode cX6_daysTillAsked 11 = .ok (.bipush 60, 2) := by decide +kernel
theorem dX6_daysTillAsked_13 : decode cX6_daysTillAsked 13 = .ok (.if_icmp .gt 38, 3) := by decide +kernel
theorem dX6_daysTillAsked_16 : decode cX6_daysTillAsked 16 = .ok (.iload_n 2, 1) := by decide +kernel
theorem dX6_daysTillAsked_17 : decode cX6_daysTillAsked 17 = .ok (.iload_n 1, 1) := by decide +kernel
theorem dX6_daysTillAsked_18 : decode cX6_daysTillAsked 18 = .ok (.ishr, 1) := by decide +kernel
theorem dX6_daysTillAsked_19 : decode cX6_daysTillAsked 19 = .ok (.iconst 1, 1) := by decide +kernel
theorem dX6_daysTillAsked_20 : decode cX6_daysTillAsked 20 = .ok (.iand, 1) := by decide +kernel
theorem dX6_daysTillAsked_21 : decode cX6_daysTillAsked 21 = .ok (.iconst 1, 1) := by decide +kernel
theorem dX6_daysTillAsked_22 : decode cX6_daysTillAsked 22 = .ok (.if_icmp .ne 5, 3) := by decide +kernel
theorem dX6_daysTillAsked_25 : decode cX6_daysTillAsked 25 = .ok (.iload_n 3, 1) := by decide +kernel
theorem dX6_daysTillAsked_26 : decode cX6_daysTillAsked 26 = .ok (.ireturn, 1) := by decide +kernel
theorem dX6_daysTillAsked_27 : decode cX6_daysTillAsked 27 = .ok (.aload_n 0, 1) := by decide +kernel
theorem dX6_daysTillAsked_28 : decode cX6_daysTillAsked 28 = .ok (.getfield 23, 3) := by decide +kernel
theorem dX6_daysTillAsked_31 : decode cX6_daysTillAsked 31 = .ok (.iload_n 2, 1) := by decide +kernel
theorem dX6_daysTillAsked_32 : decode cX6_daysTillAsked 32 = .ok (.aload_n 0, 1) := by decide +kernel
theorem dX6_daysTillAsked_33 : decode cX6_daysTillAsked 33 = .ok (.getfield 31, 3) := by decide +kernel
theorem dX6_daysTillAsked_36 : decode cX6_daysTillAsked 36 = .ok (.getfield 135, 3) := by decide +kernel
theorem dX6_daysTillAsked_39 : decode cX6_daysTillAsked 39 = .ok (.iload_n 3, 1) := by decide +kernel
theorem dX6_daysTillAsked_40 : decode cX6_daysTillAsked 40 = .ok (.iadd, 1) := by decide +kernel
theorem dX6_daysTillAsked_41 : decode cX6_daysTillAsked 41 = .ok (.invokevirtual 227, 3) := by decide +kernel
theorem dX6_daysTillAsked_44 : decode cX6_daysTillAsked 44 = .ok (.istore_n 2, 1) := by decide +kernel
theorem dX6_daysTillAsked_45 : decode cX6_daysTillAsked 45 = .ok (.iinc 3 1, 3) := by decide +kernel
theorem dX6_daysTillAsked_48 : decode cX6_daysTillAsked 48 = .ok (.goto (-38), 3) := by decide +kernel
theorem dX6_daysTillAsked_51 : decode cX6_daysTillAsked 51 = .ok (.bipush (-9), 2) := by decide +kernel
theorem dX6_daysTillAsked_53 : decode cX6_daysTillAsked 53 = .ok (.ireturn, 1) := by decide +kernel
theorem dX6_daysTillMown_0 : decode cX6_daysTillMown 0 = .ok (.aload_n 0, 1) := by decide +kernel
theorem dX6_daysTillMown_1 : decode cX6_daysTillMown 1 = .ok (.getfield 35, 3) := by decide +kernel
theorem dX6_daysTillMown_4 : decode cX6_daysTillMown 4 = .ok (.aload_n 0, 1) := by decide +kernel
theorem dX6_daysTillMown_5 : decode cX6_daysTillMown 5 = .ok (.getfield 31, 3) := by decide +kernel
theorem dX6_daysTillMown_8 : decode cX6_daysTillMown 8 = .ok (.invokevirtual 221, 3) := by decide +kernel
theorem dX6_daysTillMown_11 : decode cX6_daysTillMown 11 = .ok (.iconst 0, 1) := by decide +kernel
theorem dX6_daysTillMown_12 : decode cX6_daysTillMown 12 = .ok (.istore_n 2, 1) := by decide +kernel
theorem dX6_daysTillMown_13 : decode cX6_daysTillMown 13 = .ok (.iload_n 2, 1) := by decide +kernel
theorem dX6_daysTillMown_14 : decode cX6_daysTillMown 14 = .ok (.bipush 60, 2) := by decide +kernel
theorem dX6_daysTillMown_16 : decode cX6_daysTillMown 16 = .ok (.if_icmp .gt 31, 3) := by decide +kernel
theorem dX6_daysTillMown_19 : decode cX6_daysTillMown 19 = .ok (.aload_n 0, 1) := by decide +kernel
theorem dX6_daysTillMown_20 : decode cX6_daysTillMown 20 = .ok (.getfield 35, 3) := by decide +kernel
theorem dX6_daysTillMown_23 : decode cX6_daysTillMown 23 = .ok (.iload_n 1, 1) := by decide +kernel
theorem dX6_daysTillMown_24 : decode cX6_daysTillMown 24 = .ok (.invokevirtual 230, 3) := by decide +kernel
theorem dX6_daysTillMown_27 : decode cX6_daysTillMown 27 = .ok (.ifCond .eq 5, 3) := by decide +kernel
theorem dX6_daysTillMown_30 : decode cX6_daysTillMown 30 = .ok (.iload_n 2, 1) := by decide +kernel
theorem dX6_daysTillMown_31 : decode cX6_daysTillMown 31 = .ok (.ireturn, 1) := by decide +kernel
theorem dX6_daysTillMown_32 : decode cX6_daysTillMown 32 = .ok (.aload_n 0, 1) := by decide +kernel
theorem dX6_daysTillMown_33 : decode cX6_daysTillMown 33 = .ok (.getfield 35, 3) := by decide +kernel
theorem dX6_daysTillMown_36 : decode cX6_daysTillMown 36 = .ok (.iconst 1, 1) := by decide +kernel
theorem dX6_daysTillMown_37 : decode cX6_daysTillMown 37 = .ok (.invokevirtual 152, 3) := by decide +kernel
theorem dX6_daysTillMown_40 : decode cX6_daysTillMown 40 = .ok (.pop, 1) := by decide +kernel
theorem dX6_daysTillMown_41 : decode cX6_daysTillMown 41 = .ok (.iinc 2 1, 3) := by decide +kernel
theorem dX6_daysTillMown_44 : decode cX6_daysTillMown 44 = .ok (.goto (-31), 3) := by decide +kernel
theorem dX6_daysTillMown_47 : decode cX6_daysTillMown 47 = .ok (.bipush (-9), 2) := by decide +kernel
theorem dX6_daysTillMown_49 : decode cX6_daysTillMown 49 = .ok (.ireturn, 1) := by decide +kernel
theorem dX6_allAskBehind_0 : decode cX6_allAskBehind 0 = .ok (.aload_n 0, 1) := by decide +kernel
theorem dX6_allAskBehind_1 : decode cX6_allAskBehind 1 = .ok (.getfield 31, 3) := by decide +kernel
theorem dX6_allAskBehind_4 : decode cX6_allAskBehind 4 = .ok (.getfield 138, 3) := by decide +kernel
theorem dX6_allAskBehind_7 : decode cX6_allAskBehind 7 = .ok (.iload_n 2, 1) := by decide +kernel
theorem dX6_allAskBehind_8 : decode cX6_allAskBehind 8 = .ok (.ior, 1) := by decide +kernel
theorem dX6_allAskBehind_9 : decode cX6_allAskBehind 9 = .ok (.istore_n 3, 1) := by decide +kernel
theorem dX6_allAskBehind_10 : decode cX6_allAskBehind 10 = .ok (.iconst 0, 1) := by decide +kernel
theorem dX6_allAskBehind_11 : decode cX6_allAskBehind 11 = .ok (.istore 4, 2) := by decide +kernel
theorem dX6_allAskBehind_13 : decode cX6_allAskBehind 13 = .ok (.iload 4, 2) := by decide +kernel
theorem dX6_allAskBehind_15 : decode cX6_allAskBehind 15 = .ok (.iload_n 1, 1) := by decide +kernel
theorem dX6_allAskBehind_16 : decode cX6_allAskBehind 16 = .ok (.if_icmp .ge 28, 3) := by decide +kernel
theorem dX6_allAskBehind_19 : decode cX6_allAskBehind 19 = .ok (.aload_n 0, 1) := by decide +kernel
theorem dX6_allAskBehind_20 : decode cX6_allAskBehind 20 = .ok (.getfield 23, 3) := by decide +kernel
theorem dX6_allAskBehind_23 : decode cX6_allAskBehind 23 = .ok (.iload_n 3, 1) := by decide +kernel
theorem dX6_allAskBehind_24 : decode cX6_allAskBehind 24 = .ok (.aload_n 0, 1) := by decide +kernel
theorem dX6_allAskBehind_25 : decode cX6_allAskBehind 25 = .ok (.getfield 31, 3) := by decide +kernel
theorem dX6_allAskBehind_28 : decode cX6_allAskBehind 28 = .ok (.getfield 135, 3) := by decide +kernel
theorem dX6_allAskBehind_31 : decode cX6_allAskBehind 31 = .ok (.iload 4, 2) := by decide +kernel
theorem dX6_allAskBehind_33 : decode cX6_allAskBehind 33 = .ok (.iadd, 1) := by decide +kernel
theorem dX6_allAskBehind_34 : decode cX6_allAskBehind 34 = .ok (.invokevirtual 227, 3) := by decide +kernel
theorem dX6_allAskBehind_37 : decode cX6_allAskBehind 37 = .ok (.istore_n 3, 1) := by decide +kernel
theorem dX6_allAskBehind_38 : decode cX6_allAskBehind 38 = .ok (.iinc 4 1, 3) := by decide +kernel
theorem dX6_allAskBehind_41 : decode cX6_allAskBehind 41 = .ok (.goto (-28), 3) := by decide +kernel
theorem dX6_allAskBehind_44 : decode cX6_allAskBehind 44 = .ok (.iload_n 3, 1) := by decide +kernel
theorem dX6_allAskBehind_45 : decode cX6_allAskBehind 45 = .ok (.aload_n 0, 1) := by decide +kernel
theorem dX6_allAskBehind_46 : decode cX6_allAskBehind 46 = .ok (.getfield 23, 3) := by decide +kernel
theorem dX6_allAskBehind_49 : decode cX6_allAskBehind 49 = .ok (.invokevirtual 145, 3) := by decide +kernel
theorem dX6_allAskBehind_52 : decode cX6_allAskBehind 52 = .ok (.if_icmp .ne 7, 3) := by decide +kernel
theorem dX6_allAskBehind_55 : decode cX6_allAskBehind 55 = .ok (.iconst 1, 1) := by decide +kernel
theorem dX6_allAskBehind_56 : decode cX6_allAskBehind 56 = .ok (.goto 4, 3) := by decide +kernel
theorem dX6_allAskBehind_59 : decode cX6_allAskBehind 59 = .ok (.iconst 0, 1) := by decide +kernel
theorem dX6_allAskBehind_60 : decode cX6_allAskBehind 60 = .ok (.ireturn, 1) := by decide +kernel
theorem dX6_weigh_0 : decode cX6_weigh 0 = .ok (.aload_n 0, 1) := by decide +kernel
theorem dX6_weigh_1 : decode cX6_weigh 1 = .ok (.getfield 67, 3) := by decide +kernel
theorem dX6_weigh_4 : decode cX6_weigh 4 = .ok (.iconst 0, 1) := by decide +kernel
theorem dX6_weigh_5 : decode cX6_weigh 5 = .ok (.iconst 1, 1) := by decide +kernel
theorem dX6_weigh_6 : decode cX6_weigh 6 = .ok (.iastore, 1) := by decide +kernel
theorem dX6_weigh_7 : decode cX6_weigh 7 = .ok (.iconst 1, 1) := by decide +kernel
theorem dX6_weigh_8 : decode cX6_weigh 8 = .ok (.istore_n 3, 1) := by decide +kernel
theorem dX6_weigh_9 : decode cX6_weigh 9 = .ok (.iload_n 3, 1) := by decide +kernel
theorem dX6_weigh_10 : decode cX6_weigh 10 = .ok (.bipush 8, 2) := by decide +kernel
theorem dX6_weigh_12 : decode cX6_weigh 12 = .ok (.if_icmp .gt 16, 3) := by decide +kernel
theorem dX6_weigh_15 : decode cX6_weigh 15 = .ok (.aload_n 0, 1) := by decide +kernel
theorem dX6_weigh_16 : decode cX6_weigh 16 = .ok (.getfield 67, 3) := by decide +kernel
theorem dX6_weigh_19 : decode cX6_weigh 19 = .ok (.iload_n 3, 1) := by decide +kernel
theorem dX6_weigh_20 : decode cX6_weigh 20 = .ok (.iconst 0, 1) := by decide +kernel
theorem dX6_weigh_21 : decode cX6_weigh 21 = .ok (.iastore, 1) := by decide +kernel
theorem dX6_weigh_22 : decode cX6_weigh 22 = .ok (.iinc 3 1, 3) := by decide +kernel
theorem dX6_weigh_25 : decode cX6_weigh 25 = .ok (.goto (-16), 3) := by decide +kernel
theorem dX6_weigh_28 : decode cX6_weigh 28 = .ok (.iconst 0, 1) := by decide +kernel
theorem dX6_weigh_29 : decode cX6_weigh 29 = .ok (.istore_n 3, 1) := by decide +kernel
theorem dX6_weigh_30 : decode cX6_weigh 30 = .ok (.iload_n 3, 1) := by decide +kernel
theorem dX6_weigh_31 : decode cX6_weigh 31 = .ok (.iload_n 2, 1) := by decide +kernel
theorem dX6_weigh_32 : decode cX6_weigh 32 = .ok (.if_icmp .ge 71, 3) := by decide +kernel
theorem dX6_weigh_35 : decode cX6_weigh 35 = .ok (.bipush 8, 2) := by decide +kernel
theorem dX6_weigh_37 : decode cX6_weigh 37 = .ok (.istore 4, 2) := by decide +kernel
theorem dX6_weigh_39 : decode cX6_weigh 39 = .ok (.iload 4, 2) := by decide +kernel
theorem dX6_weigh_41 : decode cX6_weigh 41 = .ok (.iconst 1, 1) := by decide +kernel
theorem dX6_weigh_42 : decode cX6_weigh 42 = .ok (.if_icmp .lt 40, 3) := by decide +kernel
theorem dX6_weigh_45 : decode cX6_weigh 45 = .ok (.aload_n 0, 1) := by decide +kernel
theorem dX6_weigh_46 : decode cX6_weigh 46 = .ok (.getfield 67, 3) := by decide +kernel
theorem dX6_weigh_49 : decode cX6_weigh 49 = .ok (.iload 4, 2) := by decide +kernel
theorem dX6_weigh_51 : decode cX6_weigh 51 = .ok (.iload_n 1, 1) := by decide +kernel
theorem dX6_weigh_52 : decode cX6_weigh 52 = .ok (.aload_n 0, 1) := by decide +kernel
theorem dX6_weigh_53 : decode cX6_weigh 53 = .ok (.getfield 67, 3) := by decide +kernel
theorem dX6_weigh_56 : decode cX6_weigh 56 = .ok (.iload 4, 2) := by decide +kernel
theorem dX6_weigh_58 : decode cX6_weigh 58 = .ok (.iconst 1, 1) := by decide +kernel
theorem dX6_weigh_59 : decode cX6_weigh 59 = .ok (.isub, 1) := by decide +kernel
theorem dX6_weigh_60 : decode cX6_weigh 60 = .ok (.iaload, 1) := by decide +kernel
theorem dX6_weigh_61 : decode cX6_weigh 61 = .ok (.imul, 1) := by decide +kernel
theorem dX6_weigh_62 : decode cX6_weigh 62 = .ok (.bipush 10, 2) := by decide +kernel
theorem dX6_weigh_64 : decode cX6_weigh 64 = .ok (.iload_n 1, 1) := by decide +kernel
theorem dX6_weigh_65 : decode cX6_weigh 65 = .ok (.isub, 1) := by decide +kernel
theorem dX6_weigh_66 : decode cX6_weigh 66 = .ok (.aload_n 0, 1) := by decide +kernel
theorem dX6_weigh_67 : decode cX6_weigh 67 = .ok (.getfield 67, 3) := by decide +kernel
theorem dX6_weigh_70 : decode cX6_weigh 70 = .ok (.iload 4, 2) := by decide +kernel
theorem dX6_weigh_72 : decode cX6_weigh 72 = .ok (.iaload, 1) := by decide +kernel
theorem dX6_weigh_73 : decode cX6_weigh 73 = .ok (.imul, 1) := by decide +kernel
theorem dX6_weigh_74 : decode cX6_weigh 74 = .ok (.iadd, 1) := by decide +kernel
theorem dX6_weigh_75 : decode cX6_weigh 75 = .ok (.iastore, 1) := by decide +kernel
theorem dX6_weigh_76 : decode cX6_weigh 76 = .ok (.iinc 4 (-1), 3) := by decide +kernel
theorem dX6_weigh_79 : decode cX6_weigh 79 = .ok (.goto (-40), 3) := by decide +kernel
theorem dX6_weigh_82 : decode cX6_weigh 82 = .ok (.aload_n 0, 1) := by decide +kernel
theorem dX6_weigh_83 : decode cX6_weigh 83 = .ok (.getfield 67, 3) := by decide +kernel
theorem dX6_weigh_86 : decode cX6_weigh 86 = .ok (.iconst 0, 1) := by decide +kernel
theorem dX6_weigh_87 : decode cX6_weigh 87 = .ok (.bipush 10, 2) := by decide +kernel
theorem dX6_weigh_89 : decode cX6_weigh 89 = .ok (.aload_n 0, 1) := by decide +kernel
theorem dX6_weigh_90 : decode cX6_weigh 90 = .ok (.getfield 67, 3) := by decide +kernel
theorem dX6_weigh_93 : decode cX6_weigh 93 = .ok (.iconst 0, 1) := by decide +kernel
theorem dX6_weigh_94 : decode cX6_weigh 94 = .ok (.iaload, 1) := by decide +kernel
theorem dX6_weigh_95 : decode cX6_weigh 95 = .ok (.imul, 1) := by decide +kernel
theorem dX6_weigh_96 : decode cX6_weigh 96 = .ok (.iastore, 1) := by decide +kernel
theorem dX6_weigh_97 : decode cX6_weigh 97 = .ok (.iinc 3 1, 3) := by decide +kernel
theorem dX6_weigh_100 : decode cX6_weigh 100 = .ok (.goto (-70), 3) := by decide +kernel
theorem dX6_weigh_103 : decode cX6_weigh 103 = .ok (.return_, 1) := by decide +kernel
theorem dX6_commonDivisor_0 : decode cX6_commonDivisor 0 = .ok (.iload_n 0, 1) := by decide +kernel
theorem dX6_commonDivisor_1 : decode cX6_commonDivisor 1 = .ok (.istore_n 2, 1) := by decide +kernel
theorem dX6_commonDivisor_2 : decode cX6_commonDivisor 2 = .ok (.iload_n 1, 1) := by decide +kernel
theorem dX6_commonDivisor_3 : decode cX6_commonDivisor 3 = .ok (.istore_n 3, 1) := by decide +kernel
theorem dX6_commonDivisor_4 : decode cX6_commonDivisor 4 = .ok (.iconst 0, 1) := by decide +kernel
theorem dX6_commonDivisor_5 : decode cX6_commonDivisor 5 = .ok (.istore 4, 2) := by decide +kernel
theorem dX6_commonDivisor_7 : decode cX6_commonDivisor 7 = .ok (.iload 4, 2) := by decide +kernel
theorem dX6_commonDivisor_9 : decode cX6_commonDivisor 9 = .ok (.bipush 64, 2) := by decide +kernel
theorem dX6_commonDivisor_11 : decode cX6_commonDivisor 11 = .ok (.if_icmp .ge 23, 3) := by decide +kernel
theorem dX6_commonDivisor_14 : decode cX6_commonDivisor 14 = .ok (.iload_n 3, 1) := by decide +kernel
theorem dX6_commonDivisor_15 : decode cX6_commonDivisor 15 = .ok (.ifCond .eq 19, 3) := by decide +kernel
theorem dX6_commonDivisor_18 : decode cX6_commonDivisor 18 = .ok (.iload_n 2, 1) := by decide +kernel
theorem dX6_commonDivisor_19 : decode cX6_commonDivisor 19 = .ok (.iload_n 3, 1) := by decide +kernel
theorem dX6_commonDivisor_20 : decode cX6_commonDivisor 20 = .ok (.irem, 1) := by decide +kernel
theorem dX6_commonDivisor_21 : decode cX6_commonDivisor 21 = .ok (.istore 5, 2) := by decide +kernel
theorem dX6_commonDivisor_23 : decode cX6_commonDivisor 23 = .ok (.iload_n 3, 1) := by decide +kernel
theorem dX6_commonDivisor_24 : decode cX6_commonDivisor 24 = .ok (.istore_n 2, 1) := by decide +kernel
theorem dX6_commonDivisor_25 : decode cX6_commonDivisor 25 = .ok (.iload 5, 2) := by decide +kernel
theorem dX6_commonDivisor_27 : decode cX6_commonDivisor 27 = .ok (.istore_n 3, 1) := by decide +kernel
theorem dX6_commonDivisor_28 : decode cX6_commonDivisor 28 = .ok (.iinc 4 1, 3) := by decide +kernel
theorem dX6_commonDivisor_31 : decode cX6_commonDivisor 31 = .ok (.goto (-24), 3) := by decide +kernel
theorem dX6_commonDivisor_34 : decode cX6_commonDivisor 34 = .ok (.iload_n 2, 1) := by decide +kernel
theorem dX6_commonDivisor_35 : decode cX6_commonDivisor 35 = .ok (.ifCond .ne 7, 3) := by decide +kernel
theorem dX6_commonDivisor_38 : decode cX6_commonDivisor 38 = .ok (.iconst 1, 1) := by decide +kernel
theorem dX6_commonDivisor_39 : decode cX6_commonDivisor 39 = .ok (.goto 4, 3) := by decide +kernel
theorem dX6_commonDivisor_42 : decode cX6_commonDivisor 42 = .ok (.iload_n 2, 1) := by decide +kernel
theorem dX6_commonDivisor_43 : decode cX6_commonDivisor 43 = .ok (.ireturn, 1) := by decide +kernel
theorem dX6_asFarmer_0 : decode cX6_asFarmer 0 = .ok (.aload_n 0, 1) := by decide +kernel
theorem dX6_asFarmer_1 : decode cX6_asFarmer 1 = .ok (.dup, 1) := by decide +kernel
theorem dX6_asFarmer_2 : decode cX6_asFarmer 2 = .ok (.getfield 223, 3) := by decide +kernel
theorem dX6_asFarmer_5 : decode cX6_asFarmer 5 = .ok (.lconst 1, 1) := by decide +kernel
theorem dX6_asFarmer_6 : decode cX6_asFarmer 6 = .ok (.ladd, 1) := by decide +kernel
theorem dX6_asFarmer_7 : decode cX6_asFarmer 7 = .ok (.putfield 223, 3) := by decide +kernel
theorem dX6_asFarmer_10 : decode cX6_asFarmer 10 = .ok (.aload_n 0, 1) := by decide +kernel
theorem dX6_asFarmer_11 : decode cX6_asFarmer 11 = .ok (.getfield 31, 3) := by decide +kernel
theorem dX6_asFarmer_14 : decode cX6_asFarmer 14 = .ok (.getfield 107, 3) := by decide +kernel
theorem dX6_asFarmer_17 : decode cX6_asFarmer 17 = .ok (.iload_n 1, 1) := by decide +kernel
theorem dX6_asFarmer_18 : decode cX6_asFarmer 18 = .ok (.iaload, 1) := by decide +kernel
theorem dX6_asFarmer_19 : decode cX6_asFarmer 19 = .ok (.ireturn, 1) := by decide +kernel
theorem dX6_asMower_0 : decode cX6_asMower 0 = .ok (.aload_n 0, 1) := by decide +kernel
theorem dX6_asMower_1 : decode cX6_asMower 1 = .ok (.dup, 1) := by decide +kernel
theorem dX6_asMower_2 : decode cX6_asMower 2 = .ok (.getfield 223, 3) := by decide +kernel
theorem dX6_asMower_5 : decode cX6_asMower 5 = .ok (.ldc2_w 233, 3) := by decide +kernel
theorem dX6_asMower_8 : decode cX6_asMower 8 = .ok (.ladd, 1) := by decide +kernel
theorem dX6_asMower_9 : decode cX6_asMower 9 = .ok (.putfield 223, 3) := by decide +kernel
theorem dX6_asMower_12 : decode cX6_asMower 12 = .ok (.aload_n 0, 1) := by decide +kernel
theorem dX6_asMower_13 : decode cX6_asMower 13 = .ok (.iload_n 1, 1) := by decide +kernel
theorem dX6_asMower_14 : decode cX6_asMower 14 = .ok (.invokevirtual 203, 3) := by decide +kernel
theorem dX6_asMower_17 : decode cX6_asMower 17 = .ok (.aload_n 0, 1) := by decide +kernel
theorem dX6_asMower_18 : decode cX6_asMower 18 = .ok (.getfield 31, 3) := by decide +kernel
theorem dX6_asMower_21 : decode cX6_asMower 21 = .ok (.iload_n 1, 1) := by decide +kernel
theorem dX6_asMower_22 : decode cX6_asMower 22 = .ok (.invokevirtual 122, 3) := by decide +kernel
theorem dX6_asMower_25 : decode cX6_asMower 25 = .ok (.invokestatic 156, 3) := by decide +kernel
theorem dX6_asMower_28 : decode cX6_asMower 28 = .ok (.iadd, 1) := by decide +kernel
theorem dX6_asMower_29 : decode cX6_asMower 29 = .ok (.ireturn, 1) := by decide +kernel
theorem dX6_asLate_0 : decode cX6_asLate 0 = .ok (.aload_n 0, 1) := by decide +kernel
theorem dX6_asLate_1 : decode cX6_asLate 1 = .ok (.dup, 1) := by decide +kernel
theorem dX6_asLate_2 : decode cX6_asLate 2 = .ok (.getfield 223, 3) := by decide +kernel
theorem dX6_asLate_5 : decode cX6_asLate 5 = .ok (.ldc2_w 235, 3) := by decide +kernel
theorem dX6_asLate_8 : decode cX6_asLate 8 = .ok (.ladd, 1) := by decide +kernel
theorem dX6_asLate_9 : decode cX6_asLate 9 = .ok (.putfield 223, 3) := by decide +kernel
theorem dX6_asLate_12 : decode cX6_asLate 12 = .ok (.aload_n 0, 1) := by decide +kernel
theorem dX6_asLate_13 : decode cX6_asLate 13 = .ok (.iload_n 1, 1) := by decide +kernel
theorem dX6_asLate_14 : decode cX6_asLate 14 = .ok (.invokevirtual 203, 3) := by decide +kernel
theorem dX6_asLate_17 : decode cX6_asLate 17 = .ok (.aload_n 0, 1) := by decide +kernel
theorem dX6_asLate_18 : decode cX6_asLate 18 = .ok (.getfield 23, 3) := by decide +kernel
theorem dX6_asLate_21 : decode cX6_asLate 21 = .ok (.getfield 110, 3) := by decide +kernel
theorem dX6_asLate_24 : decode cX6_asLate 24 = .ok (.iload_n 1, 1) := by decide +kernel
theorem dX6_asLate_25 : decode cX6_asLate 25 = .ok (.iaload, 1) := by decide +kernel
theorem dX6_asLate_26 : decode cX6_asLate 26 = .ok (.isub, 1) := by decide +kernel
theorem dX6_asLate_27 : decode cX6_asLate 27 = .ok (.ireturn, 1) := by decide +kernel
theorem dX6_asSon_0 : decode cX6_asSon 0 = .ok (.aload_n 0, 1) := by decide +kernel
theorem dX6_asSon_1 : decode cX6_asSon 1 = .ok (.dup, 1) := by decide +kernel
theorem dX6_asSon_2 : decode cX6_asSon 2 = .ok (.getfield 223, 3) := by decide +kernel
theorem dX6_asSon_5 : decode cX6_asSon 5 = .ok (.ldc2_w 237, 3) := by decide +kernel
theorem dX6_asSon_8 : decode cX6_asSon 8 = .ok (.ladd, 1) := by decide +kernel
theorem dX6_asSon_9 : decode cX6_asSon 9 = .ok (.putfield 223, 3) := by decide +kernel
theorem dX6_asSon_12 : decode cX6_asSon 12 = .ok (.iconst 2, 1) := by decide +kernel
theorem dX6_asSon_13 : decode cX6_asSon 13 = .ok (.aload_n 0, 1) := by decide +kernel
theorem dX6_asSon_14 : decode cX6_asSon 14 = .ok (.iload_n 1, 1) := by decide +kernel
theorem dX6_asSon_15 : decode cX6_asSon 15 = .ok (.invokevirtual 206, 3) := by decide +kernel
theorem dX6_asSon_18 : decode cX6_asSon 18 = .ok (.imul, 1) := by decide +kernel
theorem dX6_asSon_19 : decode cX6_asSon 19 = .ok (.ireturn, 1) := by decide +kernel
theorem dX6_asCousin_0 : decode cX6_asCousin 0 = .ok (.aload_n 0, 1) := by decide +kernel
theorem dX6_asCousin_1 : decode cX6_asCousin 1 = .ok (.dup, 1) := by decide +kernel
theorem dX6_asCousin_2 : decode cX6_asCousin 2 = .ok (.getfield 223, 3) := by decide +kernel
theorem dX6_asCousin_5 : decode cX6_asCousin 5 = .ok (.ldc2_w 239, 3) := by decide +kernel
theorem dX6_asCousin_8 : decode cX6_asCousin 8 = .ok (.ladd, 1) := by decide +kernel
theorem dX6_asCousin_9 : decode cX6_asCousin 9 = .ok (.putfield 223, 3) := by decide +kernel
theorem dX6_asCousin_12 : decode cX6_asCousin 12 = .ok (.aload_n 0, 1) := by decide +kernel
theorem dX6_asCousin_13 : decode cX6_asCousin 13 = .ok (.iload_n 1, 1) := by decide +kernel
theorem dX6_asCousin_14 : decode cX6_asCousin 14 = .ok (.invokevirtual 209, 3) := by decide +kernel
theorem dX6_asCousin_17 : decode cX6_asCousin 17 = .ok (.iload_n 1, 1) := by decide +kernel
theorem dX6_asCousin_18 : decode cX6_asCousin 18 = .ok (.iadd, 1) := by decide +kernel
theorem dX6_asCousin_19 : decode cX6_asCousin 19 = .ok (.ireturn, 1) := by decide +kernel
theorem dX6_asSnow_0 : decode cX6_asSnow 0 = .ok (.aload_n 0, 1) := by decide +kernel
theorem dX6_asSnow_1 : decode cX6_asSnow 1 = .ok (.dup, 1) := by decide +kernel
theorem dX6_asSnow_2 : decode cX6_asSnow 2 = .ok (.getfield 223, 3) := by decide +kernel
theorem dX6_asSnow_5 : decode cX6_asSnow 5 = .ok (.ldc2_w 241, 3) := by decide +kernel
theorem dX6_asSnow_8 : decode cX6_asSnow 8 = .ok (.ladd, 1) := by decide +kernel
theorem dX6_asSnow_9 : decode cX6_asSnow 9 = .ok (.putfield 223, 3) := by decide +kernel
theorem dX6_asSnow_12 : decode cX6_asSnow 12 = .ok (.aload_n 0, 1) := by decide +kernel
theorem dX6_asSnow_13 : decode cX6_asSnow 13 = .ok (.iload_n 1, 1) := by decide +kernel
theorem dX6_asSnow_14 : decode cX6_asSnow 14 = .ok (.invokevirtual 203, 3) := by decide +kernel
theorem dX6_asSnow_17 : decode cX6_asSnow 17 = .ok (.aload_n 0, 1) := by decide +kernel
theorem dX6_asSnow_18 : decode cX6_asSnow 18 = .ok (.getfield 31, 3) := by decide +kernel
theorem dX6_asSnow_21 : decode cX6_asSnow 21 = .ok (.getfield 135, 3) := by decide +kernel
theorem dX6_asSnow_24 : decode cX6_asSnow 24 = .ok (.iadd, 1) := by decide +kernel
theorem dX6_asSnow_25 : decode cX6_asSnow 25 = .ok (.ireturn, 1) := by decide +kernel
theorem dX7_init_0 : decode cX7_init 0 = .ok (.aload_n 0, 1) := by decide +kernel
theorem dX7_init_1 : decode cX7_init 1 = .ok (.invokespecial 1, 3) := by decide +kernel
theorem dX7_init_4 : decode cX7_init 4 = .ok (.aload_n 0, 1) := by decide +kernel
theorem dX7_init_5 : decode cX7_init 5 = .ok (.bipush 6, 2) := by decide +kernel
theorem dX7_init_7 : decode cX7_init 7 = .ok (.newarray .int, 2) := by decide +kernel
theorem dX7_init_9 : decode cX7_init 9 = .ok (.putfield 7, 3) := by decide +kernel
theorem dX7_init_12 : decode cX7_init 12 = .ok (.aload_n 0, 1) := by decide +kernel
theorem dX7_init_13 : decode cX7_init 13 = .ok (.bipush 6, 2) := by decide +kernel
theorem dX7_init_15 : decode cX7_init 15 = .ok (.newarray .int, 2) := by decide +kernel
theorem dX7_init_17 : decode cX7_init 17 = .ok (.putfield 13, 3) := by decide +kernel
theorem dX7_init_20 : decode cX7_init 20 = .ok (.aload_n 0, 1) := by decide +kernel
theorem dX7_init_21 : decode cX7_init 21 = .ok (.bipush 6, 2) := by decide +kernel
theorem dX7_init_23 : decode cX7_init 23 = .ok (.newarray .int, 2) := by decide +kernel
theorem dX7_init_25 : decode cX7_init 25 = .ok (.putfield 16, 3) := by decide +kernel
theorem dX7_init_28 : decode cX7_init 28 = .ok (.aload_n 0, 1) := by decide +kernel
theorem dX7_init_29 : decode cX7_init 29 = .ok (.bipush 14, 2) := by decide +kernel
theorem dX7_init_31 : decode cX7_init 31 = .ok (.newarray .int, 2) := by decide +kernel
theorem dX7_init_33 : decode cX7_init 33 = .ok (.putfield 19, 3) := by decide +kernel
theorem dX7_init_36 : decode cX7_init 36 = .ok (.aload_n 0, 1) := by decide +kernel
theorem dX7_init_37 : decode cX7_init 37 = .ok (.sipush 140, 3) := by decide +kernel
theorem dX7_init_40 : decode cX7_init 40 = .ok (.newarray .int, 2) := by decide +kernel
theorem dX7_init_42 : decode cX7_init 42 = .ok (.putfield 22, 3) := by decide +kernel
theorem dX7_init_45 : decode cX7_init 45 = .ok (.aload_n 0, 1) := by decide +kernel
theorem dX7_init_46 : decode cX7_init 46 = .ok (.bipush 28, 2) := by decide +kernel
theorem dX7_init_48 : decode cX7_init 48 = .ok (.newarray .int, 2) := by decide +kernel
theorem dX7_init_50 : decode cX7_init 50 = .ok (.putfield 25, 3) := by decide +kernel
theorem dX7_init_53 : decode cX7_init 53 = .ok (.aload_n 0, 1) := by decide +kernel
theorem dX7_init_54 : decode cX7_init 54 = .ok (.iconst 2, 1) := by decide +kernel
theorem dX7_init_55 : decode cX7_init 55 = .ok (.newarray .boolean, 2) := by decide +kernel
theorem dX7_init_57 : decode cX7_init 57 = .ok (.putfield 28, 3) := by decide +kernel
theorem dX7_init_60 : decode cX7_init 60 = .ok (.aload_n 0, 1) := by decide +kernel
theorem dX7_init_61 : decode cX7_init 61 = .ok (.bipush 18, 2) := by decide +kernel
theorem dX7_init_63 : decode cX7_init 63 = .ok (.newarray .int, 2) := by decide +kernel
theorem dX7_init_65 : decode cX7_init 65 = .ok (.putfield 32, 3) := by decide +kernel
theorem dX7_init_68 : decode cX7_init 68 = .ok (.aload_n 0, 1) := by decide +kernel
theorem dX7_init_69 : decode cX7_init 69 = .ok (.sipush 140, 3) := by decide +kernel
theorem dX7_init_72 : decode cX7_init 72 = .ok (.newarray .int, 2) := by decide +kernel
theorem dX7_init_74 : decode cX7_init 74 = .ok (.putfield 35, 3) := by decide +kernel
theorem dX7_init_77 : decode cX7_init 77 = .ok (.aload_n 0, 1) := by decide +kernel
theorem dX7_init_78 : decode cX7_init 78 = .ok (.bipush 30, 2) := by decide +kernel
theorem dX7_init_80 : decode cX7_init 80 = .ok (.newarray .int, 2) := by decide +kernel
theorem dX7_init_82 : decode cX7_init 82 = .ok (.putfield 38, 3) := by decide +kernel
theorem dX7_init_85 : decode cX7_init 85 = .ok (.aload_n 0, 1) := by decide +kernel
theorem dX7_init_86 : decode cX7_init 86 = .ok (.bipush 14, 2) := by decide +kernel
theorem dX7_init_88 : decode cX7_init 88 = .ok (.newarray .int, 2) := by decide +kernel
theorem dX7_init_90 : decode cX7_init 90 = .ok (.putfield 41, 3) := by decide +kernel
theorem dX7_init_93 : decode cX7_init 93 = .ok (.aload_n 0, 1) := by decide +kernel
theorem dX7_init_94 : decode cX7_init 94 = .ok (.bipush 6, 2) := by decide +kernel
theorem dX7_init_96 : decode cX7_init 96 = .ok (.newarray .int, 2) := by decide +kernel
theorem dX7_init_98 : decode cX7_init 98 = .ok (.putfield 44, 3) := by decide +kernel
theorem dX7_init_101 : decode cX7_init 101 = .ok (.return_, 1) := by decide +kernel
theorem dX7_in_0 : decode cX7_in 0 = .ok (.iload_n 0, 1) := by decide +kernel
theorem dX7_in_1 : decode cX7_in 1 = .ok (.iload_n 1, 1) := by decide +kernel
theorem dX7_in_2 : decode cX7_in 2 = .ok (.if_icmp .lt 12, 3) := by decide +kernel
theorem dX7_in_5 : decode cX7_in 5 = .ok (.iload_n 0, 1) := by decide +kernel
theorem dX7_in_6 : decode cX7_in 6 = .ok (.iload_n 2, 1) := by decide +kernel
theorem dX7_in_7 : decode cX7_in 7 = .ok (.if_icmp .gt 7, 3) := by decide +kernel
theorem dX7_in_10 : decode cX7_in 10 = .ok (.iconst 1, 1) := by decide +kernel
theorem dX7_in_11 : decode cX7_in 11 = .ok (.goto 4, 3) := by decide +kernel
theorem dX7_in_14 : decode cX7_in 14 = .ok (.iconst 0, 1) := by decide +kernel
theorem dX7_in_15 : decode cX7_in 15 = .ok (.ireturn, 1) := by decide +kernel
theorem dX7_has_0 : decode cX7_has 0 = .ok (.iload_n 0, 1) := by decide +kernel
theorem dX7_has_1 : decode cX7_has 1 = .ok (.iload_n 1, 1) := by decide +kernel
theorem dX7_has_2 : decode cX7_has 2 = .ok (.ishr, 1) := by decide +kernel
theorem dX7_has_3 : decode cX7_has 3 = .ok (.iconst 1, 1) := by decide +kernel
theorem dX7_has_4 : decode cX7_has 4 = .ok (.iand, 1) := by decide +kernel
theorem dX7_has_5 : decode cX7_has 5 = .ok (.iconst 1, 1) := by decide +kernel
theorem dX7_has_6 : decode cX7_has 6 = .ok (.if_icmp .ne 7, 3) := by decide +kernel
theorem dX7_has_9 : decode cX7_has 9 = .ok (.iconst 1, 1) := by decide +kernel
theorem dX7_has_10 : decode cX7_has 10 = .ok (.goto 4, 3) := by decide +kernel
theorem dX7_has_13 : decode cX7_has 13 = .ok (.iconst 0, 1) := by decide +kernel
theorem dX7_has_14 : decode cX7_has 14 = .ok (.ireturn, 1) := by decide +kernel
theorem dX7_bits_0 : decode cX7_bits 0 = .ok (.iconst 0, 1) := by decide +kernel
theorem dX7_bits_1 : decode cX7_bits 1 = .ok (.istore_n 1, 1) := by decide +kernel
theorem dX7_bits_2 : decode cX7_bits 2 = .ok (.iconst 0, 1) := by decide +kernel
theorem dX7_bits_3 : decode cX7_bits 3 = .ok (.istore_n 2, 1) := by decide +kernel
theorem dX7_bits_4 : decode cX7_bits 4 = .ok (.iload_n 2, 1) := by decide +kernel
theorem dX7_bits_5 : decode cX7_bits 5 = .ok (.bipush 8, 2) := by decide +kernel
theorem dX7_bits_7 : decode cX7_bits 7 = .ok (.if_icmp .ge 17, 3) := by decide +kernel
theorem dX7_bits_10 : decode cX7_bits 10 = .ok (.iload_n 1, 1) := by decide +kernel
theorem dX7_bits_11 : decode cX7_bits 11 = .ok (.iload_n 0, 1) := by decide +kernel
theorem dX7_bits_12 : decode cX7_bits 12 = .ok (.iload_n 2, 1) := by decide +kernel
theorem dX7_bits_13 : decode cX7_bits 13 = .ok (.ishr, 1) := by decide +kernel
theorem dX7_bits_14 : decode cX7_bits 14 = .ok (.iconst 1, 1) := by decide +kernel
theorem dX7_bits_15 : decode cX7_bits 15 = .ok (.iand, 1) := by decide +kernel
theorem dX7_bits_16 : decode cX7_bits 16 = .ok (.iadd, 1) := by decide +kernel
theorem dX7_bits_17 : decode cX7_bits 17 = .ok (.istore_n 1, 1) := by decide +kernel
theorem dX7_bits_18 : decode cX7_bits 18 = .ok (.iinc 2 1, 3) := by decide +kernel
theorem dX7_bits_21 : decode cX7_bits 21 = .ok (.goto (-17), 3) := by decide +kernel
theorem dX7_bits_24 : decode cX7_bits 24 = .ok (.iload_n 1, 1) := by decide +kernel
theorem dX7_bits_25 : decode cX7_bits 25 = .ok (.ireturn, 1) := by decide +kernel
theorem dX7_isFarmer_0 : decode cX7_isFarmer 0 = .ok (.iload_n 1, 1) := by decide +kernel
theorem dX7_isFarmer_1 : decode cX7_isFarmer 1 = .ok (.iconst 0, 1) := by decide +kernel
theorem dX7_isFarmer_2 : decode cX7_isFarmer 2 = .ok (.aload_n 0, 1) := by decide +kernel
theorem dX7_isFarmer_3 : decode cX7_isFarmer 3 = .ok (.getfield 47, 3) := by decide +kernel
theorem dX7_isFarmer_6 : decode cX7_isFarmer 6 = .ok (.iconst 1, 1) := by decide +kernel
theorem dX7_isFarmer_7 : decode cX7_isFarmer 7 = .ok (.isub, 1) := by decide +kernel
theorem dX7_isFarmer_8 : decode cX7_isFarmer 8 = .ok (.invokestatic 51, 3) := by decide +kernel
theorem dX7_isFarmer_11 : decode cX7_isFarmer 11 = .ok (.ireturn, 1) := by decide +kernel
theorem dX7_copy_0 : decode cX7_copy 0 = .ok (.iconst 0, 1) := by decide +kernel
theorem dX7_copy_1 : decode cX7_copy 1 = .ok (.istore 4, 2) := by decide +kernel
theorem dX7_copy_3 : decode cX7_copy 3 = .ok (.iload 4, 2) := by decide +kernel
theorem dX7_copy_5 : decode cX7_copy 5 = .ok (.bipush 14, 2) := by decide +kernel
theorem dX7_copy_7 : decode cX7_copy 7 = .ok (.if_icmp .ge 21, 3) := by decide +kernel
theorem dX7_copy_10 : decode cX7_copy 10 = .ok (.aload_n 0, 1) := by decide +kernel
theorem dX7_copy_11 : decode cX7_copy 11 = .ok (.iload_n 1, 1) := by decide +kernel
theorem dX7_copy_12 : decode cX7_copy 12 = .ok (.iload 4, 2) := by decide +kernel
theorem dX7_copy_14 : decode cX7_copy 14 = .ok (.iadd, 1) := by decide +kernel
theorem dX7_copy_15 : decode cX7_copy 15 = .ok (.aload_n 2, 1) := by decide +kernel
theorem dX7_copy_16 : decode cX7_copy 16 = .ok (.iload_n 3, 1) := by decide +kernel
theorem dX7_copy_17 : decode cX7_copy 17 = .ok (.iload 4, 2) := by decide +kernel
theorem dX7_copy_19 : decode cX7_copy 19 = .ok (.iadd, 1) := by decide +kernel
theorem dX7_copy_20 : decode cX7_copy 20 = .ok (.iaload, 1) := by decide +kernel
theorem dX7_copy_21 : decode cX7_copy 21 = .ok (.iastore, 1) := by decide +kernel
theorem dX7_copy_22 : decode cX7_copy 22 = .ok (.iinc 4 1, 3) := by decide +kernel
theorem dX7_copy_25 : decode cX7_copy 25 = .ok (.goto (-22), 3) := by decide +kernel
theorem dX7_copy_28 : decode cX7_copy 28 = .ok (.return_, 1) := by decide +kernel
theorem dX7_type_0 : decode cX7_type 0 = .ok (.iload_n 1, 1) := by decide +kernel
theorem dX7_type_1 : decode cX7_type 1 = .ok (.iconst 0, 1) := by decide +kernel
theorem dX7_type_2 : decode cX7_type 2 = .ok (.sipush 255, 3) := by decide +kernel
theorem dX7_type_5 : decode cX7_type 5 = .ok (.invokestatic 51, 3) := by decide +kernel
theorem dX7_type_8 : decode cX7_type 8 = .ok (.ifCond .ne 5, 3) := by decide +kernel
theorem dX7_type_11 : decode cX7_type 11 = .ok (.iconst (-1), 1) := by decide +kernel
theorem dX7_type_12 : decode cX7_type 12 = .ok (.ireturn, 1) := by decide +kernel
theorem dX7_type_13 : decode cX7_type 13 = .ok (.aload_n 0, 1) := by decide +kernel
theorem dX7_type_14 : decode cX7_type 14 = .ok (.getfield 55, 3) := by decide +kernel
theorem dX7_type_17 : decode cX7_type 17 = .ok (.sipush 140, 3) := by decide +kernel
theorem dX7_type_20 : decode cX7_type 20 = .ok (.if_icmp .ne 6, 3) := by decide +kernel
theorem dX7_type_23 : decode cX7_type 23 = .ok (.bipush (-3), 2) := by decide +kernel
theorem dX7_type_25 : decode cX7_type 25 = .ok (.ireturn, 1) := by decide +kernel
theorem dX7_type_26 : decode cX7_type 26 = .ok (.aload_n 0, 1) := by decide +kernel
theorem dX7_type_27 : decode cX7_type 27 = .ok (.getfield 35, 3) := by decide +kernel
theorem dX7_type_30 : decode cX7_type 30 = .ok (.aload_n 0, 1) := by decide +kernel
theorem dX7_type_31 : decode cX7_type 31 = .ok (.getfield 55, 3) := by decide +kernel
theorem dX7_type_34 : decode cX7_type 34 = .ok (.iload_n 1, 1) := by decide +kernel
theorem dX7_type_35 : decode cX7_type 35 = .ok (.iastore, 1) := by decide +kernel
theorem dX7_type_36 : decode cX7_type 36 = .ok (.aload_n 0, 1) := by decide +kernel
theorem dX7_type_37 : decode cX7_type 37 = .ok (.dup, 1) := by decide +kernel
theorem dX7_type_38 : decode cX7_type 38 = .ok (.getfield 55, 3) := by decide +kernel
theorem dX7_type_41 : decode cX7_type 41 = .ok (.iconst 1, 1) := by decide +kernel
theorem dX7_type_42 : decode cX7_type 42 = .ok (.iadd, 1) := by decide +kernel
theorem dX7_type_43 : decode cX7_type 43 = .ok (.putfield 55, 3) := by decide +kernel
theorem dX7_type_46 : decode cX7_type 46 = .ok (.aload_n 0, 1) := by decide +kernel
theorem dX7_type_47 : decode cX7_type 47 = .ok (.getfield 55, 3) := by decide +kernel
theorem dX7_type_50 : decode cX7_type 50 = .ok (.ireturn, 1) := by decide +kernel
theorem dX7_clear_0 : decode cX7_clear 0 = .ok (.aload_n 0, 1) := by decide +kernel
theorem dX7_clear_1 : decode cX7_clear 1 = .ok (.getfield 55, 3) := by decide +kernel
theorem dX7_clear_4 : decode cX7_clear 4 = .ok (.istore_n 1, 1) := by decide +kernel
theorem dX7_clear_5 : decode cX7_clear 5 = .ok (.aload_n 0, 1) := by decide +kernel
theorem dX7_clear_6 : decode cX7_clear 6 = .ok (.iconst 0, 1) := by decide +kernel
theorem dX7_clear_7 : decode cX7_clear 7 = .ok (.putfield 55, 3) := by decide +kernel
theorem dX7_clear_10 : decode cX7_clear 10 = .ok (.iload_n 1, 1) := by decide +kernel
theorem dX7_clear_11 : decode cX7_clear 11 = .ok (.ireturn, 1) := by decide +kernel
theorem dX7_letterAt_0 : decode cX7_letterAt 0 = .ok (.iload_n 1, 1) := by decide +kernel
theorem dX7_letterAt_1 : decode cX7_letterAt 1 = .ok (.aload_n 0, 1) := by decide +kernel
theorem dX7_letterAt_2 : decode cX7_letterAt 2 = .ok (.getfield 55, 3) := by decide +kernel
theorem dX7_letterAt_5 : decode cX7_letterAt 5 = .ok (.if_icmp .ge 12, 3) := by decide +kernel
theorem dX7_letterAt_8 : decode cX7_letterAt 8 = .ok (.aload_n 0, 1) := by decide +kernel
theorem dX7_letterAt_9 : decode cX7_letterAt 9 = .ok (.getfield 35, 3) := by decide +kernel
theorem dX7_letterAt_12 : decode cX7_letterAt 12 = .ok (.iload_n 1, 1) := by decide +kernel
theorem dX7_letterAt_13 : decode cX7_letterAt 13 = .ok (.iaload, 1) := by decide +kernel
theorem dX7_letterAt_14 : decode cX7_letterAt 14 = .ok (.goto 4, 3) := by decide +kernel
theorem dX7_letterAt_17 : decode cX7_letterAt 17 = .ok (.iconst (-1), 1) := by decide +kernel
theorem dX7_letterAt_18 : decode cX7_letterAt 18 = .ok (.ireturn, 1) := by decide +kernel
theorem dX7_isFigure_0 : decode cX7_isFigure 0 = .ok (.iload_n 0, 1) := by decide +kernel
theorem dX7_isFigure_1 : decode cX7_isFigure 1 = .ok (.bipush 48, 2) := by decide +kernel
theorem dX7_isFigure_3 : decode cX7_isFigure 3 = .ok (.bipush 57, 2) := by decide +kernel
theorem dX7_isFigure_5 : decode cX7_isFigure 5 = .ok (.invokestatic 51, 3) := by decide +kernel
theorem dX7_isFigure_8 : decode cX7_isFigure 8 = .ok (.ireturn, 1) := by decide +kernel
theorem dX7_next_0 : decode cX7_next 0 = .ok (.aload_n 0, 1) := by decide +kernel
theorem dX7_next_1 : decode cX7_next 1 = .ok (.aload_n 0, 1) := by decide +kernel
theorem dX7_next_2 : decode cX7_next 2 = .ok (.getfield 58, 3) := by decide +kernel
theorem dX7_next_5 : decode cX7_next 5 = .ok (.invokevirtual 61, 3) := by decide +kernel
theorem dX7_next_8 : decode cX7_next 8 = .ok (.bipush 32, 2) := by decide +kernel
theorem dX7_next_10 : decode cX7_next 10 = .ok (.if_icmp .ne 16, 3) := by decide +kernel
theorem dX7_next_13 : decode cX7_next 13 = .ok (.aload_n 0, 1) := by decide +kernel
theorem dX7_next_14 : decode cX7_next 14 = .ok (.dup, 1) := by decide +kernel
theorem dX7_next_15 : decode cX7_next 15 = .ok (.getfield 58, 3) := by decide +kernel
theorem dX7_next_18 : decode cX7_next 18 = .ok (.iconst 1, 1) := by decide +kernel
theorem dX7_next_19 : decode cX7_next 19 = .ok (.iadd, 1) := by decide +kernel
theorem dX7_next_20 : decode cX7_next 20 = .ok (.putfield 58, 3) := by decide +kernel
theorem dX7_next_23 : decode cX7_next 23 = .ok (.goto (-23), 3) := by decide +kernel
theorem dX7_next_26 : decode cX7_next 26 = .ok (.aload_n 0, 1) := by decide +kernel
theorem dX7_next_27 : decode cX7_next 27 = .ok (.aload_n 0, 1) := by decide +kernel
theorem dX7_next_28 : decode cX7_next 28 = .ok (.getfield 58, 3) := by decide +kernel
theorem dX7_next_31 : decode cX7_next 31 = .ok (.putfield 65, 3) := by decide +kernel
theorem dX7_next_34 : decode cX7_next 34 = .ok (.aload_n 0, 1) := by decide +kernel
theorem dX7_next_35 : decode cX7_next 35 = .ok (.aload_n 0, 1) := by decide +kernel
theorem dX7_next_36 : decode cX7_next 36 = .ok (.getfield 58, 3) := by decide +kernel
theorem dX7_next_39 : decode cX7_next 39 = .ok (.invokevirtual 61, 3) := by decide +kernel
theorem dX7_next_42 : decode cX7_next 42 = .ok (.istore_n 1, 1) := by decide +kernel
theorem dX7_next_43 : decode cX7_next 43 = .ok (.aload_n 0, 1) := by decide +kernel
theorem dX7_next_44 : decode cX7_next 44 = .ok (.iconst 0, 1) := by decide +kernel
theorem dX7_next_45 : decode cX7_next 45 = .ok (.putfield 68, 3) := by decide +kernel
theorem dX7_next_48 : decode cX7_next 48 = .ok (.iload_n 1, 1) := by decide +kernel
theorem dX7_next_49 : decode cX7_next 49 = .ok (.ifCond .ge 11, 3) := by decide +kernel
theorem dX7_next_52 : decode cX7_next 52 = .ok (.aload_n 0, 1) := by decide +kernel
theorem dX7_next_53 : decode cX7_next 53 = .ok (.iconst 0, 1) := by decide +kernel
theorem dX7_next_54 : decode cX7_next 54 = .ok (.putfield 71, 3) := by decide +kernel
theorem dX7_next_57 : decode cX7_next 57 = .ok (.goto 156, 3) := by decide +kernel
theorem dX7_next_60 : decode cX7_next 60 = .ok (.iload_n 1, 1) := by decide +kernel
theorem dX7_next_61 : decode cX7_next 61 = .ok (.invokestatic 74, 3) := by decide +kernel
theorem dX7_next_64 : decode cX7_next 64 = .ok (.ifCond .eq 109, 3) := by decide +kernel
theorem dX7_next_67 : decode cX7_next 67 = .ok (.aload_n 0, 1) := by decide +kernel
theorem dX7_next_68 : decode cX7_next 68 = .ok (.aload_n 0, 1) := by decide +kernel
theorem dX7_next_69 : decode cX7_next 69 = .ok (.getfield 58, 3) := by decide +kernel
theorem dX7_next_72 : decode cX7_next 72 = .ok (.invokevirtual 61, 3) := by decide +kernel
theorem dX7_next_75 : decode cX7_next 75 = .ok (.invokestatic 74, 3) := by decide +kernel
theorem dX7_next_78 : decode cX7_next 78 = .ok (.ifCond .eq 55, 3) := by decide +kernel
theorem dX7_next_81 : decode cX7_next 81 = .ok (.aload_n 0, 1) := by decide +kernel
theorem dX7_next_82 : decode cX7_next 82 = .ok (.aload_n 0, 1) := by decide +kernel
theorem dX7_next_83 : decode cX7_next 83 = .ok (.getfield 68, 3) := by decide +kernel
theorem dX7_next_86 : decode cX7_next 86 = .ok (.bipush 99, 2) := by decide +kernel
theorem dX7_next_88 : decode cX7_next 88 = .ok (.if_icmp .le 10, 3) := by decide +kernel
theorem dX7_next_91 : decode cX7_next 91 = .ok (.aload_n 0, 1) := by decide +kernel
theorem dX7_next_92 : decode cX7_next 92 = .ok (.getfield 68, 3) := by decide +kernel
theorem dX7_next_95 : decode cX7_next 95 = .ok (.goto 22, 3) := by decide +kernel
theorem dX7_next_98 : decode cX7_next 98 = .ok (.bipush 10, 2) := by decide +kernel
theorem dX7_next_100 : decode cX7_next 100 = .ok (.aload_n 0, 1) := by decide +kernel
theorem dX7_next_101 : decode cX7_next 101 = .ok (.getfield 68, 3) := by decide +kernel
theorem dX7_next_104 : decode cX7_next 104 = .ok (.imul, 1) := by decide +kernel
theorem dX7_next_105 : decode cX7_next 105 = .ok (.aload_n 0, 1) := by decide +kernel
theorem dX7_next_106 : decode cX7_next 106 = .ok (.aload_n 0, 1) := by decide +kernel
theorem dX7_next_107 : decode cX7_next 107 = .ok (.getfield 58, 3) := by decide +kernel
theorem dX7_next_110 : decode cX7_next 110 = .ok (.invokevirtual 61, 3) := by decide +kernel
theorem dX7_next_113 : decode cX7_next 113 = .ok (.iadd, 1) := by decide +kernel
theorem dX7_next_114 : decode cX7_next 114 = .ok (.bipush 48, 2) := by decide +kernel
theorem dX7_next_116 : decode cX7_next 116 = .ok (.isub, 1) := by decide +kernel
theorem dX7_next_117 : decode cX7_next 117 = .ok (.putfield 68, 3) := by decide +kernel
theorem dX7_next_120 : decode cX7_next 120 = .ok (.aload_n 0, 1) := by decide +kernel
theorem dX7_next_121 : decode cX7_next 121 = .ok (.dup, 1) := by decide +kernel
theorem dX7_next_122 : decode cX7_next 122 = .ok (.getfield 58, 3) := by decide +kernel
theorem dX7_next_125 : decode cX7_next 125 = .ok (.iconst 1, 1) := by decide +kernel
theorem dX7_next_126 : decode cX7_next 126 = .ok (.iadd, 1) := by decide +kernel
theorem dX7_next_127 : decode cX7_next 127 = .ok (.putfield 58, 3) := by decide +kernel
theorem dX7_next_130 : decode cX7_next 130 = .ok (.goto (-63), 3) := by decide +kernel
theorem dX7_next_133 : decode cX7_next 133 = .ok (.aload_n 0, 1) := by decide +kernel
theorem dX7_next_134 : decode cX7_next 134 = .ok (.aload_n 0, 1) := by decide +kernel
theorem dX7_next_135 : decode cX7_next 135 = .ok (.getfield 68, 3) := by decide +kernel
theorem dX7_next_138 : decode cX7_next 138 = .ok (.bipush 99, 2) := by decide +kernel
theorem dX7_next_140 : decode cX7_next 140 = .ok (.if_icmp .gt 22, 3) := by decide +kernel
theorem dX7_next_143 : decode cX7_next 143 = .ok (.iload_n 1, 1) := by decide +kernel
theorem dX7_next_144 : decode cX7_next 144 = .ok (.bipush 48, 2) := by decide +kernel
theorem dX7_next_146 : decode cX7_next 146 = .ok (.if_icmp .ne 20, 3) := by decide +kernel
theorem dX7_next_149 : decode cX7_next 149 = .ok (.aload_n 0, 1) := by decide +kernel
theorem dX7_next_150 : decode cX7_next 150 = .ok (.getfield 58, 3) := by decide +kernel
theorem dX7_next_153 : decode cX7_next 153 = .ok (.aload_n 0, 1) := by decide +kernel
theorem dX7_next_154 : decode cX7_next 154 = .ok (.getfield 65, 3) := by decide +kernel
theorem dX7_next_157 : decode cX7_next 157 = .ok (.isub, 1) := by decide +kernel
theorem dX7_next_158 : decode cX7_next 158 = .ok (.iconst 1, 1) := by decide +kernel
theorem dX7_next_159 : decode cX7_next 159 = .ok (.if_icmp .le 7, 3) := by decide +kernel
theorem dX7_next_162 : decode cX7_next 162 = .ok (.iconst 4, 1) := by decide +kernel
theorem dX7_next_163 : decode cX7_next 163 = .ok (.goto 4, 3) := by decide +kernel
theorem dX7_next_166 : decode cX7_next 166 = .ok (.iconst 2, 1) := by decide +kernel
theorem dX7_next_167 : decode cX7_next 167 = .ok (.putfield 71, 3) := by decide +kernel
theorem dX7_next_170 : decode cX7_next 170 = .ok (.goto 43, 3) := by decide +kernel
theorem dX7_next_173 : decode cX7_next 173 = .ok (.aload_n 0, 1) := by decide +kernel
theorem dX7_next_174 : decode cX7_next 174 = .ok (.iload_n 1, 1) := by decide +kernel
theorem dX7_next_175 : decode cX7_next 175 = .ok (.bipush 102, 2) := by decide +kernel
theorem dX7_next_177 : decode cX7_next 177 = .ok (.if_icmp .ne 7, 3) := by decide +kernel
theorem dX7_next_180 : decode cX7_next 180 = .ok (.iconst 1, 1) := by decide +kernel
theorem dX7_next_181 : decode cX7_next 181 = .ok (.goto 14, 3) := by decide +kernel
theorem dX7_next_184 : decode cX7_next 184 = .ok (.iload_n 1, 1) := by decide +kernel
theorem dX7_next_185 : decode cX7_next 185 = .ok (.bipush 59, 2) := by decide +kernel
theorem dX7_next_187 : decode cX7_next 187 = .ok (.if_icmp .ne 7, 3) := by decide +kernel
theorem dX7_next_190 : decode cX7_next 190 = .ok (.iconst 3, 1) := by decide +kernel
theorem dX7_next_191 : decode cX7_next 191 = .ok (.goto 4, 3) := by decide +kernel
theorem dX7_next_194 : decode cX7_next 194 = .ok (.iconst 4, 1) := by decide +kernel
theorem dX7_next_195 : decode cX7_next 195 = .ok (.putfield 71, 3) := by decide +kernel
theorem dX7_next_198 : decode cX7_next 198 = .ok (.aload_n 0, 1) := by decide +kernel
theorem dX7_next_199 : decode cX7_next 199 = .ok (.iload_n 1, 1) := by decide +kernel
theorem dX7_next_200 : decode cX7_next 200 = .ok (.putfield 68, 3) := by decide +kernel
theorem dX7_next_203 : decode cX7_next 203 = .ok (.aload_n 0, 1) := by decide +kernel
theorem dX7_next_204 : decode cX7_next 204 = .ok (.dup, 1) := by decide +kernel
theorem dX7_next_205 : decode cX7_next 205 = .ok (.getfield 58, 3) := by decide +kernel
theorem dX7_next_208 : decode cX7_next 208 = .ok (.iconst 1, 1) := by decide +kernel
theorem dX7_next_209 : decode cX7_next 209 = .ok (.iadd, 1) := by decide +kernel
theorem dX7_next_210 : decode cX7_next 210 = .ok (.putfield 58, 3) := by decide +kernel
theorem dX7_next_213 : decode cX7_next 213 = .ok (.return_, 1) := by decide +kernel
theorem dX7_takesNumber_0 : decode cX7_takesNumber 0 = .ok (.aload_n 0, 1) := by decide +kernel
theorem dX7_takesNumber_1 : decode cX7_takesNumber 1 = .ok (.getfield 78, 3) := by decide +kernel
theorem dX7_takesNumber_4 : decode cX7_takesNumber 4 = .ok (.ifCond .ne 27, 3) := by decide +kernel
theorem dX7_takesNumber_7 : decode cX7_takesNumber 7 = .ok (.aload_n 0, 1) := by decide +kernel
theorem dX7_takesNumber_8 : decode cX7_takesNumber 8 = .ok (.getfield 71, 3) := by decide +kernel
theorem dX7_takesNumber_11 : decode cX7_takesNumber 11 = .ok (.iconst 2, 1) := by decide +kernel
theorem dX7_takesNumber_12 : decode cX7_takesNumber 12 = .ok (.if_icmp .ne 19, 3) := by decide +kernel
theorem dX7_takesNumber_15 : decode cX7_takesNumber 15 = .ok (.aload_n 0, 1) := by decide +kernel
theorem dX7_takesNumber_16 : decode cX7_takesNumber 16 = .ok (.getfield 68, 3) := by decide +kernel
theorem dX7_takesNumber_19 : decode cX7_takesNumber 19 = .ok (.iload_n 1, 1) := by decide +kernel
theorem dX7_takesNumber_20 : decode cX7_takesNumber 20 = .ok (.iload_n 2, 1) := by decide +kernel
theorem dX7_takesNumber_21 : decode cX7_takesNumber 21 = .ok (.invokestatic 51, 3) := by decide +kernel
theorem dX7_takesNumber_24 : decode cX7_takesNumber 24 = .ok (.ifCond .eq 7, 3) := by decide +kernel
theorem dX7_takesNumber_27 : decode cX7_takesNumber 27 = .ok (.iconst 1, 1) := by decide +kernel
theorem dX7_takesNumber_28 : decode cX7_takesNumber 28 = .ok (.goto 4, 3) := by decide +kernel
theorem dX7_takesNumber_31 : decode cX7_takesNumber 31 = .ok (.iconst 0, 1) := by decide +kernel
theorem dX7_takesNumber_32 : decode cX7_takesNumber 32 = .ok (.istore_n 3, 1) := by decide +kernel
theorem dX7_takesNumber_33 : decode cX7_takesNumber 33 = .ok (.aload_n 0, 1) := by decide +kernel
theorem dX7_takesNumber_34 : decode cX7_takesNumber 34 = .ok (.iload_n 3, 1) := by decide +kernel
theorem dX7_takesNumber_35 : decode cX7_takesNumber 35 = .ok (.ifCond .ne 7, 3) := by decide +kernel
theorem dX7_takesNumber_38 : decode cX7_takesNumber 38 = .ok (.iconst 1, 1) := by decide +kernel
theorem dX7_takesNumber_39 : decode cX7_takesNumber 39 = .ok (.goto 4, 3) := by decide +kernel
theorem dX7_takesNumber_42 : decode cX7_takesNumber 42 = .ok (.iconst 0, 1) := by decide +kernel
theorem dX7_takesNumber_43 : decode cX7_takesNumber 43 = .ok (.putfield 78, 3) := by decide +kernel
theorem dX7_takesNumber_46 : decode cX7_takesNumber 46 = .ok (.aload_n 0, 1) := by decide +kernel
theorem dX7_takesNumber_47 : decode cX7_takesNumber 47 = .ok (.getfield 68, 3) := by decide +kernel
theorem dX7_takesNumber_50 : decode cX7_takesNumber 50 = .ok (.istore 4, 2) := by decide +kernel
theorem dX7_takesNumber_52 : decode cX7_takesNumber 52 = .ok (.iload_n 3, 1) := by decide +kernel
theorem dX7_takesNumber_53 : decode cX7_takesNumber 53 = .ok (.ifCond .eq 7, 3) := by decide +kernel
theorem dX7_takesNumber_56 : decode cX7_takesNumber 56 = .ok (.aload_n 0, 1) := by decide +kernel
theorem dX7_takesNumber_57 : decode cX7_takesNumber 57 = .ok (.invokevirtual 82, 3) := by decide +kernel
theorem dX7_takesNumber_60 : decode cX7_takesNumber 60 = .ok (.iload_n 3, 1) := by decide +kernel
theorem dX7_takesNumber_61 : decode cX7_takesNumber 61 = .ok (.ifCond .eq 8, 3) := by decide +kernel
theorem dX7_takesNumber_64 : decode cX7_takesNumber 64 = .ok (.iload 4, 2) := by decide +kernel
theorem dX7_takesNumber_66 : decode cX7_takesNumber 66 = .ok (.goto 4, 3) := by decide +kernel
theorem dX7_takesNumber_69 : decode cX7_takesNumber 69 = .ok (.iconst 0, 1) := by decide +kernel
theorem dX7_takesNumber_70 : decode cX7_takesNumber 70 = .ok (.ireturn, 1) := by decide +kernel
theorem dX7_readFarmer_0 : decode cX7_readFarmer 0 = .ok (.iconst 5, 1) := by decide +kernel
theorem dX7_readFarmer_1 : decode cX7_readFarmer 1 = .ok (.aload_n 0, 1) := by decide +kernel
theorem dX7_readFarmer_2 : decode cX7_readFarmer 2 = .ok (.getfield 85, 3) := by decide +kernel
theorem dX7_readFarmer_5 : decode cX7_readFarmer 5 = .ok (.imul, 1) := by decide +kernel
theorem dX7_readFarmer_6 : decode cX7_readFarmer 6 = .ok (.istore_n 1, 1) := by decide +kernel
theorem dX7_readFarmer_7 : decode cX7_readFarmer 7 = .ok (.aload_n 0, 1) := by decide +kernel
theorem dX7_readFarmer_8 : decode cX7_readFarmer 8 = .ok (.getfield 38, 3) := by decide +kernel
theorem dX7_readFarmer_11 : decode cX7_readFarmer 11 = .ok (.iload_n 1, 1) := by decide +kernel
theorem dX7_readFarmer_12 : decode cX7_readFarmer 12 = .ok (.aload_n 0, 1) := by decide +kernel
theorem dX7_readFarmer_13 : decode cX7_readFarmer 13 = .ok (.iconst 0, 1) := by decide +kernel
theorem dX7_readFarmer_14 : decode cX7_readFarmer 14 = .ok (.bipush 30, 2) := by decide +kernel
theorem dX7_readFarmer_16 : decode cX7_readFarmer 16 = .ok (.invokevirtual 88, 3) := by decide +kernel
theorem dX7_readFarmer_19 : decode cX7_readFarmer 19 = .ok (.iastore, 1) := by decide +kernel
theorem dX7_readFarmer_20 : decode cX7_readFarmer 20 = .ok (.aload_n 0, 1) := by decide +kernel
theorem dX7_readFarmer_21 : decode cX7_readFarmer 21 = .ok (.getfield 38, 3) := by decide +kernel
theorem dX7_readFarmer_24 : decode cX7_readFarmer 24 = .ok (.iload_n 1, 1) := by decide +kernel
theorem dX7_readFarmer_25 : decode cX7_readFarmer 25 = .ok (.iconst 1, 1) := by decide +kernel
theorem dX7_readFarmer_26 : decode cX7_readFarmer 26 = .ok (.iadd, 1) := by decide +kernel
theorem dX7_readFarmer_27 : decode cX7_readFarmer 27 = .ok (.aload_n 0, 1) := by decide +kernel
theorem dX7_readFarmer_28 : decode cX7_readFarmer 28 = .ok (.iconst 1, 1) := by decide +kernel
theorem dX7_readFarmer_29 : decode cX7_readFarmer 29 = .ok (.bipush 9, 2) := by decide +kernel
theorem dX7_readFarmer_31 : decode cX7_readFarmer 31 = .ok (.invokevirtual 88, 3) := by decide +kernel
theorem dX7_readFarmer_34 : decode cX7_readFarmer 34 = .ok (.iastore, 1) := by decide +kernel
theorem dX7_readFarmer_35 : decode cX7_readFarmer 35 = .ok (.aload_n 0, 1) := by decide +kernel
theorem dX7_readFarmer_36 : decode cX7_readFarmer 36 = .ok (.getfield 38, 3) := by decide +kernel
theorem dX7_readFarmer_39 : decode cX7_readFarmer 39 = .ok (.iload_n 1, 1) := by decide +kernel
theorem dX7_readFarmer_40 : decode cX7_readFarmer 40 = .ok (.iconst 2, 1) := by decide +kernel
theorem dX7_readFarmer_41 : decode cX7_readFarmer 41 = .ok (.iadd, 1) := by decide +kernel
theorem dX7_readFarmer_42 : decode cX7_readFarmer 42 = .ok (.aload_n 0, 1) := by decide +kernel
theorem dX7_readFarmer_43 : decode cX7_readFarmer 43 = .ok (.iconst 0, 1) := by decide +kernel
theorem dX7_readFarmer_44 : decode cX7_readFarmer 44 = .ok (.bipush 20, 2) := by decide +kernel
theorem dX7_readFarmer_46 : decode cX7_readFarmer 46 = .ok (.invokevirtual 88, 3) := by decide +kernel
theorem dX7_readFarmer_49 : decode cX7_readFarmer 49 = .ok (.iastore, 1) := by decide +kernel
theorem dX7_readFarmer_50 : decode cX7_readFarmer 50 = .ok (.aload_n 0, 1) := by decide +kernel
theorem dX7_readFarmer_51 : decode cX7_readFarmer 51 = .ok (.getfield 38, 3) := by decide +kernel
theorem dX7_readFarmer_54 : decode cX7_readFarmer 54 = .ok (.iload_n 1, 1) := by decide +kernel
theorem dX7_readFarmer_55 : decode cX7_readFarmer 55 = .ok (.iconst 3, 1) := by decide +kernel
theorem dX7_readFarmer_56 : decode cX7_readFarmer 56 = .ok (.iadd, 1) := by decide +kernel
theorem dX7_readFarmer_57 : decode cX7_readFarmer 57 = .ok (.aload_n 0, 1) := by decide +kernel
theorem dX7_readFarmer_58 : decode cX7_readFarmer 58 = .ok (.iconst 0, 1) := by decide +kernel
theorem dX7_readFarmer_59 : decode cX7_readFarmer 59 = .ok (.bipush 6, 2) := by decide +kernel
theorem dX7_readFarmer_61 : decode cX7_readFarmer 61 = .ok (.invokevirtual 88, 3) := by decide +kernel
theorem dX7_readFarmer_64 : decode cX7_readFarmer 64 = .ok (.iastore, 1) := by decide +kernel
theorem dX7_readFarmer_65 : decode cX7_readFarmer 65 = .ok (.aload_n 0, 1) := by decide +kernel
theorem dX7_readFarmer_66 : decode cX7_readFarmer 66 = .ok (.aload_n 0, 1) := by decide +kernel
theorem dX7_readFarmer_67 : decode cX7_readFarmer 67 = .ok (.getfield 78, 3) := by decide +kernel
theorem dX7_readFarmer_70 : decode cX7_readFarmer 70 = .ok (.ifCond .ne 22, 3) := by decide +kernel
theorem dX7_readFarmer_73 : decode cX7_readFarmer 73 = .ok (.aload_n 0, 1) := by decide +kernel
theorem dX7_readFarmer_74 : decode cX7_readFarmer 74 = .ok (.getfield 71, 3) := by decide +kernel
theorem dX7_readFarmer_77 : decode cX7_readFarmer 77 = .ok (.iconst 2, 1) := by decide +kernel
theorem dX7_readFarmer_78 : decode cX7_readFarmer 78 = .ok (.if_icmp .ne 18, 3) := by decide +kernel
theorem dX7_readFarmer_81 : decode cX7_readFarmer 81 = .ok (.aload_n 0, 1) := by decide +kernel
theorem dX7_readFarmer_82 : decode cX7_readFarmer 82 = .ok (.getfield 68, 3) := by decide +kernel
theorem dX7_readFarmer_85 : decode cX7_readFarmer 85 = .ok (.aload_n 0, 1) := by decide +kernel
theorem dX7_readFarmer_86 : decode cX7_readFarmer 86 = .ok (.getfield 85, 3) := by decide +kernel
theorem dX7_readFarmer_89 : decode cX7_readFarmer 89 = .ok (.if_icmp .ne 7, 3) := by decide +kernel
theorem dX7_readFarmer_92 : decode cX7_readFarmer 92 = .ok (.iconst 1, 1) := by decide +kernel
theorem dX7_readFarmer_93 : decode cX7_readFarmer 93 = .ok (.goto 4, 3) := by decide +kernel
theorem dX7_readFarmer_96 : decode cX7_readFarmer 96 = .ok (.iconst 0, 1) := by decide +kernel
theorem dX7_readFarmer_97 : decode cX7_readFarmer 97 = .ok (.putfield 78, 3) := by decide +kernel
theorem dX7_readFarmer_100 : decode cX7_readFarmer 100 = .ok (.aload_n 0, 1) := by decide +kernel
theorem dX7_readFarmer_101 : decode cX7_readFarmer 101 = .ok (.getfield 38, 3) := by decide +kernel
theorem dX7_readFarmer_104 : decode cX7_readFarmer 104 = .ok (.iload_n 1, 1) := by decide +kernel
theorem dX7_readFarmer_105 : decode cX7_readFarmer 105 = .ok (.iconst 4, 1) := by decide +kernel
theorem dX7_readFarmer_106 : decode cX7_readFarmer 106 = .ok (.iadd, 1) := by decide +kernel
theorem dX7_readFarmer_107 : decode cX7_readFarmer 107 = .ok (.aload_n 0, 1) := by decide +kernel
theorem dX7_readFarmer_108 : decode cX7_readFarmer 108 = .ok (.iconst 0, 1) := by decide +kernel
theorem dX7_readFarmer_109 : decode cX7_readFarmer 109 = .ok (.iconst 5, 1) := by decide +kernel
theorem dX7_readFarmer_110 : decode cX7_readFarmer 110 = .ok (.invokevirtual 88, 3) := by decide +kernel
theorem dX7_readFarmer_113 : decode cX7_readFarmer 113 = .ok (.iastore, 1) := by decide +kernel
theorem dX7_readFarmer_114 : decode cX7_readFarmer 114 = .ok (.aload_n 0, 1) := by decide +kernel
theorem dX7_readFarmer_115 : decode cX7_readFarmer 115 = .ok (.dup, 1) := by decide +kernel
theorem dX7_readFarmer_116 : decode cX7_readFarmer 116 = .ok (.getfield 85, 3) := by decide +kernel
theorem dX7_readFarmer_119 : decode cX7_readFarmer 119 = .ok (.iconst 1, 1) := by decide +kernel
theorem dX7_readFarmer_120 : decode cX7_readFarmer 120 = .ok (.iadd, 1) := by decide +kernel
theorem dX7_readFarmer_121 : decode cX7_readFarmer 121 = .ok (.putfield 85, 3) := by decide +kernel
theorem dX7_readFarmer_124 : decode cX7_readFarmer 124 = .ok (.return_, 1) := by decide +kernel
theorem dX7_readItem_0 : decode cX7_readItem 0 = .ok (.aload_n 0, 1) := by decide +kernel
theorem dX7_readItem_1 : decode cX7_readItem 1 = .ok (.getfield 71, 3) := by decide +kernel
theorem dX7_readItem_4 : decode cX7_readItem 4 = .ok (.iconst 1, 1) := by decide +kernel
theorem dX7_readItem_5 : decode cX7_readItem 5 = .ok (.if_icmp .ne 12, 3) := by decide +kernel
theorem dX7_readItem_8 : decode cX7_readItem 8 = .ok (.aload_n 0, 1) := by decide +kernel
theorem dX7_readItem_9 : decode cX7_readItem 9 = .ok (.getfield 85, 3) := by decide +kernel
theorem dX7_readItem_12 : decode cX7_readItem 12 = .ok (.bipush 6, 2) := by decide +kernel
theorem dX7_readItem_14 : decode cX7_readItem 14 = .ok (.if_icmp .ne 9, 3) := by decide +kernel
theorem dX7_readItem_17 : decode cX7_readItem 17 = .ok (.aload_n 0, 1) := by decide +kernel
theorem dX7_readItem_18 : decode cX7_readItem 18 = .ok (.iconst 1, 1) := by decide +kernel
theorem dX7_readItem_19 : decode cX7_readItem 19 = .ok (.putfield 78, 3) := by decide +kernel
theorem dX7_readItem_22 : decode cX7_readItem 22 = .ok (.return_, 1) := by decide +kernel
theorem dX7_readItem_23 : decode cX7_readItem 23 = .ok (.aload_n 0, 1) := by decide +kernel
theorem dX7_readItem_24 : decode cX7_readItem 24 = .ok (.invokevirtual 82, 3) := by decide +kernel
theorem dX7_readItem_27 : decode cX7_readItem 27 = .ok (.aload_n 0, 1) := by decide +kernel
theorem dX7_readItem_28 : decode cX7_readItem 28 = .ok (.invokevirtual 92, 3) := by decide +kernel
theorem dX7_readItem_31 : decode cX7_readItem 31 = .ok (.aload_n 0, 1) := by decide +kernel
theorem dX7_readItem_32 : decode cX7_readItem 32 = .ok (.aload_n 0, 1) := by decide +kernel
theorem dX7_readItem_33 : decode cX7_readItem 33 = .ok (.getfield 78, 3) := by decide +kernel
theorem dX7_readItem_36 : decode cX7_readItem 36 = .ok (.ifCond .ne 11, 3) := by decide +kernel
theorem dX7_readItem_39 : decode cX7_readItem 39 = .ok (.aload_n 0, 1) := by decide +kernel
theorem dX7_readItem_40 : decode cX7_readItem 40 = .ok (.getfield 71, 3) := by decide +kernel
theorem dX7_readItem_43 : decode cX7_readItem 43 = .ok (.iconst 3, 1) := by decide +kernel
theorem dX7_readItem_44 : decode cX7_readItem 44 = .ok (.if_icmp .eq 7, 3) := by decide +kernel
theorem dX7_readItem_47 : decode cX7_readItem 47 = .ok (.iconst 1, 1) := by decide +kernel
theorem dX7_readItem_48 : decode cX7_readItem 48 = .ok (.goto 4, 3) := by decide +kernel
theorem dX7_readItem_51 : decode cX7_readItem 51 = .ok (.iconst 0, 1) := by decide +kernel
theorem dX7_readItem_52 : decode cX7_readItem 52 = .ok (.putfield 78, 3) := by decide +kernel
theorem dX7_readItem_55 : decode cX7_readItem 55 = .ok (.aload_n 0, 1) := by decide +kernel
theorem dX7_readItem_56 : decode cX7_readItem 56 = .ok (.getfield 78, 3) := by decide +kernel
theorem dX7_readItem_59 : decode cX7_readItem 59 = .ok (.ifCond .ne 7, 3) := by decide +kernel
theorem dX7_readItem_62 : decode cX7_readItem 62 = .ok (.aload_n 0, 1) := by decide +kernel
theorem dX7_readItem_63 : decode cX7_readItem 63 = .ok (.invokevirtual 82, 3) := by decide +kernel
theorem dX7_readItem_66 : decode cX7_readItem 66 = .ok (.return_, 1) := by decide +kernel
theorem dX7_valley_0 : decode cX7_valley 0 = .ok (.aload_n 0, 1) := by decide +kernel
theorem dX7_valley_1 : decode cX7_valley 1 = .ok (.iconst 0, 1) := by decide +kernel
theorem dX7_valley_2 : decode cX7_valley 2 = .ok (.putfield 58, 3) := by decide +kernel
theorem dX7_valley_5 : decode cX7_valley 5 = .ok (.aload_n 0, 1) := by decide +kernel
theorem dX7_valley_6 : decode cX7_valley 6 = .ok (.iconst 0, 1) := by decide +kernel
theorem dX7_valley_7 : decode cX7_valley 7 = .ok (.putfield 78, 3) := by decide +kernel
theorem dX7_valley_10 : decode cX7_valley 10 = .ok (.aload_n 0, 1) := by decide +kernel
theorem dX7_valley_11 : decode cX7_valley 11 = .ok (.iconst 0, 1) := by decide +kernel
theorem dX7_valley_12 : decode cX7_valley 12 = .ok (.putfield 95, 3) := by decide +kernel
theorem dX7_valley_15 : decode cX7_valley 15 = .ok (.aload_n 0, 1) := by decide +kernel
theorem dX7_valley_16 : decode cX7_valley 16 = .ok (.iconst 0, 1) := by decide +kernel
theorem dX7_valley_17 : decode cX7_valley 17 = .ok (.putfield 85, 3) := by decide +kernel
theorem dX7_valley_20 : decode cX7_valley 20 = .ok (.aload_n 0, 1) := by decide +kernel
theorem dX7_valley_21 : decode cX7_valley 21 = .ok (.invokevirtual 82, 3) := by decide +kernel
theorem dX7_valley_24 : decode cX7_valley 24 = .ok (.aload_n 0, 1) := by decide +kernel
theorem dX7_valley_25 : decode cX7_valley 25 = .ok (.getfield 71, 3) := by decide +kernel
theorem dX7_valley_28 : decode cX7_valley 28 = .ok (.ifCond .eq 27, 3) := by decide +kernel
theorem dX7_valley_31 : decode cX7_valley 31 = .ok (.aload_n 0, 1) := by decide +kernel
theorem dX7_valley_32 : decode cX7_valley 32 = .ok (.getfield 78, 3) := by decide +kernel
theorem dX7_valley_35 : decode cX7_valley 35 = .ok (.ifCond .ne 20, 3) := by decide +kernel
theorem dX7_valley_38 : decode cX7_valley 38 = .ok (.aload_n 0, 1) := by decide +kernel
theorem dX7_valley_39 : decode cX7_valley 39 = .ok (.invokevirtual 98, 3) := by decide +kernel
theorem dX7_valley_42 : decode cX7_valley 42 = .ok (.aload_n 0, 1) := by decide +kernel
theorem dX7_valley_43 : decode cX7_valley 43 = .ok (.dup, 1) := by decide +kernel
theorem dX7_valley_44 : decode cX7_valley 44 = .ok (.getfield 95, 3) := by decide +kernel
theorem dX7_valley_47 : decode cX7_valley 47 = .ok (.iconst 1, 1) := by decide +kernel
theorem dX7_valley_48 : decode cX7_valley 48 = .ok (.iadd, 1) := by decide +kernel
theorem dX7_valley_49 : decode cX7_valley 49 = .ok (.putfield 95, 3) := by decide +kernel
theorem dX7_valley_52 : decode cX7_valley 52 = .ok (.goto (-28), 3) := by decide +kernel
theorem dX7_valley_55 : decode cX7_valley 55 = .ok (.iconst 0, 1) := by decide +kernel
theorem dX7_valley_56 : decode cX7_valley 56 = .ok (.istore_n 1, 1) := by decide +kernel
theorem dX7_valley_57 : decode cX7_valley 57 = .ok (.iload_n 1, 1) := by decide +kernel
theorem dX7_valley_58 : decode cX7_valley 58 = .ok (.aload_n 0, 1) := by decide +kernel
theorem dX7_valley_59 : decode cX7_valley 59 = .ok (.getfield 85, 3) := by decide +kernel
theorem dX7_valley_62 : decode cX7_valley 62 = .ok (.if_icmp .ge 42, 3) := by decide +kernel
theorem dX7_valley_65 : decode cX7_valley 65 = .ok (.aload_n 0, 1) := by decide +kernel
theorem dX7_valley_66 : decode cX7_valley 66 = .ok (.getfield 78, 3) := by decide +kernel
theorem dX7_valley_69 : decode cX7_valley 69 = .ok (.ifCond .ne 35, 3) := by decide +kernel
theorem dX7_valley_72 : decode cX7_valley 72 = .ok (.aload_n 0, 1) := by decide +kernel
theorem dX7_valley_73 : decode cX7_valley 73 = .ok (.aload_n 0, 1) := by decide +kernel
theorem dX7_valley_74 : decode cX7_valley 74 = .ok (.getfield 38, 3) := by decide +kernel
theorem dX7_valley_77 : decode cX7_valley 77 = .ok (.iconst 5, 1) := by decide +kernel
theorem dX7_valley_78 : decode cX7_valley 78 = .ok (.iload_n 1, 1) := by decide +kernel
theorem dX7_valley_79 : decode cX7_valley 79 = .ok (.imul, 1) := by decide +kernel
theorem dX7_valley_80 : decode cX7_valley 80 = .ok (.iconst 4, 1) := by decide +kernel
theorem dX7_valley_81 : decode cX7_valley 81 = .ok (.iadd, 1) := by decide +kernel
theorem dX7_valley_82 : decode cX7_valley 82 = .ok (.iaload, 1) := by decide +kernel
theorem dX7_valley_83 : decode cX7_valley 83 = .ok (.aload_n 0, 1) := by decide +kernel
theorem dX7_valley_84 : decode cX7_valley 84 = .ok (.getfield 85, 3) := by decide +kernel
theorem dX7_valley_87 : decode cX7_valley 87 = .ok (.if_icmp .lt 7, 3) := by decide +kernel
theorem dX7_valley_90 : decode cX7_valley 90 = .ok (.iconst 1, 1) := by decide +kernel
theorem dX7_valley_91 : decode cX7_valley 91 = .ok (.goto 4, 3) := by decide +kernel
theorem dX7_valley_94 : decode cX7_valley 94 = .ok (.iconst 0, 1) := by decide +kernel
theorem dX7_valley_95 : decode cX7_valley 95 = .ok (.putfield 78, 3) := by decide +kernel
theorem dX7_valley_98 : decode cX7_valley 98 = .ok (.iinc 1 1, 3) := by decide +kernel
theorem dX7_valley_101 : decode cX7_valley 101 = .ok (.goto (-44), 3) := by decide +kernel
theorem dX7_valley_104 : decode cX7_valley 104 = .ok (.aload_n 0, 1) := by decide +kernel
theorem dX7_valley_105 : decode cX7_valley 105 = .ok (.getfield 78, 3) := by decide +kernel
theorem dX7_valley_108 : decode cX7_valley 108 = .ok (.ifCond .eq 11, 3) := by decide +kernel
theorem dX7_valley_111 : decode cX7_valley 111 = .ok (.bipush (-10), 2) := by decide +kernel
theorem dX7_valley_113 : decode cX7_valley 113 = .ok (.aload_n 0, 1) := by decide +kernel
theorem dX7_valley_114 : decode cX7_valley 114 = .ok (.getfield 65, 3) := by decide +kernel
theorem dX7_valley_117 : decode cX7_valley 117 = .ok (.isub, 1) := by decide +kernel
theorem dX7_valley_118 : decode cX7_valley 118 = .ok (.ireturn, 1) := by decide +kernel
theorem dX7_valley_119 : decode cX7_valley 119 = .ok (.aload_n 0, 1) := by decide +kernel
theorem dX7_valley_120 : decode cX7_valley 120 = .ok (.invokevirtual 101, 3) := by decide +kernel
theorem dX7_valley_123 : decode cX7_valley 123 = .ok (.aload_n 0, 1) := by decide +kernel
theorem dX7_valley_124 : decode cX7_valley 124 = .ok (.getfield 95, 3) := by decide +kernel
theorem dX7_valley_127 : decode cX7_valley 127 = .ok (.ireturn, 1) := by decide +kernel
theorem dX7_settles_0 : decode cX7_settles 0 = .ok (.aload_n 0, 1) := by decide +kernel
theorem dX7_settles_1 : decode cX7_settles 1 = .ok (.aload_n 0, 1) := by decide +kernel
theorem dX7_settles_2 : decode cX7_settles 2 = .ok (.getfield 85, 3) := by decide +kernel
theorem dX7_settles_5 : decode cX7_settles 5 = .ok (.putfield 47, 3) := by decide +kernel
theorem dX7_settles_8 : decode cX7_settles 8 = .ok (.iconst 0, 1) := by decide +kernel
theorem dX7_settles_9 : decode cX7_settles 9 = .ok (.istore_n 1, 1) := by decide +kernel
theorem dX7_settles_10 : decode cX7_settles 10 = .ok (.iload_n 1, 1) := by decide +kernel
theorem dX7_settles_11 : decode cX7_settles 11 = .ok (.bipush 14, 2) := by decide +kernel
theorem dX7_settles_13 : decode cX7_settles 13 = .ok (.if_icmp .ge 16, 3) := by decide +kernel
theorem dX7_settles_16 : decode cX7_settles 16 = .ok (.aload_n 0, 1) := by decide +kernel
theorem dX7_settles_17 : decode cX7_settles 17 = .ok (.getfield 19, 3) := by decide +kernel
theorem dX7_settles_20 : decode cX7_settles 20 = .ok (.iload_n 1, 1) := by decide +kernel
theorem dX7_settles_21 : decode cX7_settles 21 = .ok (.iconst 0, 1) := by decide +kernel
theorem dX7_settles_22 : decode cX7_settles 22 = .ok (.iastore, 1) := by decide +kernel
theorem dX7_settles_23 : decode cX7_settles 23 = .ok (.iinc 1 1, 3) := by decide +kernel
theorem dX7_settles_26 : decode cX7_settles 26 = .ok (.goto (-16), 3) := by decide +kernel
theorem dX7_settles_29 : decode cX7_settles 29 = .ok (.iconst 0, 1) := by decide +kernel
theorem dX7_settles_30 : decode cX7_settles 30 = .ok (.istore_n 1, 1) := by decide +kernel
theorem dX7_settles_31 : decode cX7_settles 31 = .ok (.iload_n 1, 1) := by decide +kernel
theorem dX7_settles_32 : decode cX7_settles 32 = .ok (.aload_n 0, 1) := by decide +kernel
theorem dX7_settles_33 : decode cX7_settles 33 = .ok (.getfield 47, 3) := by decide +kernel
theorem dX7_settles_36 : decode cX7_settles 36 = .ok (.if_icmp .ge 92, 3) := by decide +kernel
theorem dX7_settles_39 : decode cX7_settles 39 = .ok (.aload_n 0, 1) := by decide +kernel
theorem dX7_settles_40 : decode cX7_settles 40 = .ok (.getfield 7, 3) := by decide +kernel
theorem dX7_settles_43 : decode cX7_settles 43 = .ok (.iload_n 1, 1) := by decide +kernel
theorem dX7_settles_44 : decode cX7_settles 44 = .ok (.aload_n 0, 1) := by decide +kernel
theorem dX7_settles_45 : decode cX7_settles 45 = .ok (.getfield 38, 3) := by decide +kernel
theorem dX7_settles_48 : decode cX7_settles 48 = .ok (.iconst 5, 1) := by decide +kernel
theorem dX7_settles_49 : decode cX7_settles 49 = .ok (.iload_n 1, 1) := by decide +kernel
theorem dX7_settles_50 : decode cX7_settles 50 = .ok (.imul, 1) := by decide +kernel
theorem dX7_settles_51 : decode cX7_settles 51 = .ok (.iaload, 1) := by decide +kernel
theorem dX7_settles_52 : decode cX7_settles 52 = .ok (.iastore, 1) := by decide +kernel
theorem dX7_settles_53 : decode cX7_settles 53 = .ok (.aload_n 0, 1) := by decide +kernel
theorem dX7_settles_54 : decode cX7_settles 54 = .ok (.getfield 13, 3) := by decide +kernel
theorem dX7_settles_57 : decode cX7_settles 57 = .ok (.iload_n 1, 1) := by decide +kernel
theorem dX7_settles_58 : decode cX7_settles 58 = .ok (.aload_n 0, 1) := by decide +kernel
theorem dX7_settles_59 : decode cX7_settles 59 = .ok (.getfield 38, 3) := by decide +kernel
theorem dX7_settles_62 : decode cX7_settles 62 = .ok (.iconst 5, 1) := by decide +kernel
theorem dX7_settles_63 : decode cX7_settles 63 = .ok (.iload_n 1, 1) := by decide +kernel
theorem dX7_settles_64 : decode cX7_settles 64 = .ok (.imul, 1) := by decide +kernel
theorem dX7_settles_65 : decode cX7_settles 65 = .ok (.iconst 2, 1) := by decide +kernel
theorem dX7_settles_66 : decode cX7_settles 66 = .ok (.iadd, 1) := by decide +kernel
theorem dX7_settles_67 : decode cX7_settles 67 = .ok (.iaload, 1) := by decide +kernel
theorem dX7_settles_68 : decode cX7_settles 68 = .ok (.iastore, 1) := by decide +kernel
theorem dX7_settles_69 : decode cX7_settles 69 = .ok (.aload_n 0, 1) := by decide +kernel
theorem dX7_settles_70 : decode cX7_settles 70 = .ok (.getfield 16, 3) := by decide +kernel
theorem dX7_settles_73 : decode cX7_settles 73 = .ok (.iload_n 1, 1) := by decide +kernel
theorem dX7_settles_74 : decode cX7_settles 74 = .ok (.aload_n 0, 1) := by decide +kernel
theorem dX7_settles_75 : decode cX7_settles 75 = .ok (.getfield 38, 3) := by decide +kernel
theorem dX7_settles_78 : decode cX7_settles 78 = .ok (.iconst 5, 1) := by decide +kernel
theorem dX7_settles_79 : decode cX7_settles 79 = .ok (.iload_n 1, 1) := by decide +kernel
theorem dX7_settles_80 : decode cX7_settles 80 = .ok (.imul, 1) := by decide +kernel
theorem dX7_settles_81 : decode cX7_settles 81 = .ok (.iconst 3, 1) := by decide +kernel
theorem dX7_settles_82 : decode cX7_settles 82 = .ok (.iadd, 1) := by decide +kernel
theorem dX7_settles_83 : decode cX7_settles 83 = .ok (.iaload, 1) := by decide +kernel
theorem dX7_settles_84 : decode cX7_settles 84 = .ok (.iastore, 1) := by decide +kernel
theorem dX7_settles_85 : decode cX7_settles 85 = .ok (.aload_n 0, 1) := by decide +kernel
theorem dX7_settles_86 : decode cX7_settles 86 = .ok (.getfield 19, 3) := by decide +kernel
theorem dX7_settles_89 : decode cX7_settles 89 = .ok (.iconst 2, 1) := by decide +kernel
theorem dX7_settles_90 : decode cX7_settles 90 = .ok (.iload_n 1, 1) := by decide +kernel
theorem dX7_settles_91 : decode cX7_settles 91 = .ok (.iadd, 1) := by decide +kernel
theorem dX7_settles_92 : decode cX7_settles 92 = .ok (.aload_n 0, 1) := by decide +kernel
theorem dX7_settles_93 : decode cX7_settles 93 = .ok (.getfield 38, 3) := by decide +kernel
theorem dX7_settles_96 : decode cX7_settles 96 = .ok (.iconst 5, 1) := by decide +kernel
theorem dX7_settles_97 : decode cX7_settles 97 = .ok (.iload_n 1, 1) := by decide +kernel
theorem dX7_settles_98 : decode cX7_settles 98 = .ok (.imul, 1) := by decide +kernel
theorem dX7_settles_99 : decode cX7_settles 99 = .ok (.iconst 1, 1) := by decide +kernel
theorem dX7_settles_100 : decode cX7_settles 100 = .ok (.iadd, 1) := by decide +kernel
theorem dX7_settles_101 : decode cX7_settles 101 = .ok (.iaload, 1) := by decide +kernel
theorem dX7_settles_102 : decode cX7_settles 102 = .ok (.iastore, 1) := by decide +kernel
theorem dX7_settles_103 : decode cX7_settles 103 = .ok (.aload_n 0, 1) := by decide +kernel
theorem dX7_settles_104 : decode cX7_settles 104 = .ok (.getfield 19, 3) := by decide +kernel
theorem dX7_settles_107 : decode cX7_settles 107 = .ok (.bipush 8, 2) := by decide +kernel
theorem dX7_settles_109 : decode cX7_settles 109 = .ok (.iload_n 1, 1) := by decide +kernel
theorem dX7_settles_110 : decode cX7_settles 110 = .ok (.iadd, 1) := by decide +kernel
theorem dX7_settles_111 : decode cX7_settles 111 = .ok (.aload_n 0, 1) := by decide +kernel
theorem dX7_settles_112 : decode cX7_settles 112 = .ok (.getfield 38, 3) := by decide +kernel
theorem dX7_settles_115 : decode cX7_settles 115 = .ok (.iconst 5, 1) := by decide +kernel
theorem dX7_settles_116 : decode cX7_settles 116 = .ok (.iload_n 1, 1) := by decide +kernel
theorem dX7_settles_117 : decode cX7_settles 117 = .ok (.imul, 1) := by decide +kernel
theorem dX7_settles_118 : decode cX7_settles 118 = .ok (.iconst 4, 1) := by decide +kernel
theorem dX7_settles_119 : decode cX7_settles 119 = .ok (.iadd, 1) := by decide +kernel
theorem dX7_settles_120 : decode cX7_settles 120 = .ok (.iaload, 1) := by decide +kernel
theorem dX7_settles_121 : decode cX7_settles 121 = .ok (.iastore, 1) := by decide +kernel
theorem dX7_settles_122 : decode cX7_settles 122 = .ok (.iinc 1 1, 3) := by decide +kernel
theorem dX7_settles_125 : decode cX7_settles 125 = .ok (.goto (-94), 3) := by decide +kernel
theorem dX7_settles_128 : decode cX7_settles 128 = .ok (.aload_n 0, 1) := by decide +kernel
theorem dX7_settles_129 : decode cX7_settles 129 = .ok (.iconst 0, 1) := by decide +kernel
theorem dX7_settles_130 : decode cX7_settles 130 = .ok (.putfield 104, 3) := by decide +kernel
theorem dX7_settles_133 : decode cX7_settles 133 = .ok (.aload_n 0, 1) := by decide +kernel
theorem dX7_settles_134 : decode cX7_settles 134 = .ok (.iconst 0, 1) := by decide +kernel
theorem dX7_settles_135 : decode cX7_settles 135 = .ok (.putfield 107, 3) := by decide +kernel
theorem dX7_settles_138 : decode cX7_settles 138 = .ok (.aload_n 0, 1) := by decide +kernel
theorem dX7_settles_139 : decode cX7_settles 139 = .ok (.getfield 28, 3) := by decide +kernel
theorem dX7_settles_142 : decode cX7_settles 142 = .ok (.iconst 0, 1) := by decide +kernel
theorem dX7_settles_143 : decode cX7_settles 143 = .ok (.iconst 0, 1) := by decide +kernel
theorem dX7_settles_144 : decode cX7_settles 144 = .ok (.bastore, 1) := by decide +kernel
theorem dX7_settles_145 : decode cX7_settles 145 = .ok (.aload_n 0, 1) := by decide +kernel
theorem dX7_settles_146 : decode cX7_settles 146 = .ok (.getfield 28, 3) := by decide +kernel
theorem dX7_settles_149 : decode cX7_settles 149 = .ok (.iconst 1, 1) := by decide +kernel
theorem dX7_settles_150 : decode cX7_settles 150 = .ok (.iconst 0, 1) := by decide +kernel
theorem dX7_settles_151 : decode cX7_settles 151 = .ok (.bastore, 1) := by decide +kernel
theorem dX7_settles_152 : decode cX7_settles 152 = .ok (.aload_n 0, 1) := by decide +kernel
theorem dX7_settles_153 : decode cX7_settles 153 = .ok (.iconst 0, 1) := by decide +kernel
theorem dX7_settles_154 : decode cX7_settles 154 = .ok (.putfield 55, 3) := by decide +kernel
theorem dX7_settles_157 : decode cX7_settles 157 = .ok (.return_, 1) := by decide +kernel
theorem dX7_asItIs_0 : decode cX7_asItIs 0 = .ok (.aload_n 0, 1) := by decide +kernel
theorem dX7_asItIs_1 : decode cX7_asItIs 1 = .ok (.getfield 41, 3) := by decide +kernel
theorem dX7_asItIs_4 : decode cX7_asItIs 4 = .ok (.iconst 0, 1) := by decide +kernel
theorem dX7_asItIs_5 : decode cX7_asItIs 5 = .ok (.aload_n 0, 1) := by decide +kernel
theorem dX7_asItIs_6 : decode cX7_asItIs 6 = .ok (.getfield 19, 3) := by decide +kernel
theorem dX7_asItIs_9 : decode cX7_asItIs 9 = .ok (.iconst 0, 1) := by decide +kernel
theorem dX7_asItIs_10 : decode cX7_asItIs 10 = .ok (.invokestatic 110, 3) := by decide +kernel
theorem dX7_asItIs_13 : decode cX7_asItIs 13 = .ok (.return_, 1) := by decide +kernel
theorem dX7_asks_0 : decode cX7_asks 0 = .ok (.aload_n 0, 1) := by decide +kernel
theorem dX7_asks_1 : decode cX7_asks 1 = .ok (.getfield 41, 3) := by decide +kernel
theorem dX7_asks_4 : decode cX7_asks 4 = .ok (.iconst 1, 1) := by decide +kernel
theorem dX7_asks_5 : decode cX7_asks 5 = .ok (.iaload, 1) := by decide +kernel
theorem dX7_asks_6 : decode cX7_asks 6 = .ok (.istore_n 1, 1) := by decide +kernel
theorem dX7_asks_7 : decode cX7_asks 7 = .ok (.iconst 0, 1) := by decide +kernel
theorem dX7_asks_8 : decode cX7_asks 8 = .ok (.istore_n 2, 1) := by decide +kernel
theorem dX7_asks_9 : decode cX7_asks 9 = .ok (.iload_n 2, 1) := by decide +kernel
theorem dX7_asks_10 : decode cX7_asks 10 = .ok (.aload_n 0, 1) := by decide +kernel
theorem dX7_asks_11 : decode cX7_asks 11 = .ok (.getfield 47, 3) := by decide +kernel
theorem dX7_asks_14 : decode cX7_asks 14 = .ok (.if_icmp .ge 63, 3) := by decide +kernel
theorem dX7_asks_17 : decode cX7_asks 17 = .ok (.aload_n 0, 1) := by decide +kernel
theorem dX7_asks_18 : decode cX7_asks 18 = .ok (.getfield 13, 3) := by decide +kernel
theorem dX7_asks_21 : decode cX7_asks 21 = .ok (.iload_n 2, 1) := by decide +kernel
theorem dX7_asks_22 : decode cX7_asks 22 = .ok (.iaload, 1) := by decide +kernel
theorem dX7_asks_23 : decode cX7_asks 23 = .ok (.aload_n 0, 1) := by decide +kernel
theorem dX7_asks_24 : decode cX7_asks 24 = .ok (.getfield 41, 3) := by decide +kernel
theorem dX7_asks_27 : decode cX7_asks 27 = .ok (.iconst 0, 1) := by decide +kernel
theorem dX7_asks_28 : decode cX7_asks 28 = .ok (.iaload, 1) := by decide +kernel
theorem dX7_asks_29 : decode cX7_asks 29 = .ok (.if_icmp .le 16, 3) := by decide +kernel
theorem dX7_asks_32 : decode cX7_asks 32 = .ok (.iload_n 1, 1) := by decide +kernel
theorem dX7_asks_33 : decode cX7_asks 33 = .ok (.invokestatic 114, 3) := by decide +kernel
theorem dX7_asks_36 : decode cX7_asks 36 = .ok (.aload_n 0, 1) := by decide +kernel
theorem dX7_asks_37 : decode cX7_asks 37 = .ok (.getfield 16, 3) := by decide +kernel
theorem dX7_asks_40 : decode cX7_asks 40 = .ok (.iload_n 2, 1) := by decide +kernel
theorem dX7_asks_41 : decode cX7_asks 41 = .ok (.iaload, 1) := by decide +kernel
theorem dX7_asks_42 : decode cX7_asks 42 = .ok (.if_icmp .lt 7, 3) := by decide +kernel
theorem dX7_asks_45 : decode cX7_asks 45 = .ok (.iconst 1, 1) := by decide +kernel
theorem dX7_asks_46 : decode cX7_asks 46 = .ok (.goto 4, 3) := by decide +kernel
theorem dX7_asks_49 : decode cX7_asks 49 = .ok (.iconst 0, 1) := by decide +kernel
theorem dX7_asks_50 : decode cX7_asks 50 = .ok (.istore_n 3, 1) := by decide +kernel
theorem dX7_asks_51 : decode cX7_asks 51 = .ok (.aload_n 0, 1) := by decide +kernel
theorem dX7_asks_52 : decode cX7_asks 52 = .ok (.getfield 41, 3) := by decide +kernel
theorem dX7_asks_55 : decode cX7_asks 55 = .ok (.iconst 1, 1) := by decide +kernel
theorem dX7_asks_56 : decode cX7_asks 56 = .ok (.dup2, 1) := by decide +kernel
theorem dX7_asks_57 : decode cX7_asks 57 = .ok (.iaload, 1) := by decide +kernel
theorem dX7_asks_58 : decode cX7_asks 58 = .ok (.iload_n 3, 1) := by decide +kernel
theorem dX7_asks_59 : decode cX7_asks 59 = .ok (.ifCond .eq 9, 3) := by decide +kernel
theorem dX7_asks_62 : decode cX7_asks 62 = .ok (.iconst 1, 1) := by decide +kernel
theorem dX7_asks_63 : decode cX7_asks 63 = .ok (.iload_n 2, 1) := by decide +kernel
theorem dX7_asks_64 : decode cX7_asks 64 = .ok (.ishl, 1) := by decide +kernel
theorem dX7_asks_65 : decode cX7_asks 65 = .ok (.goto 4, 3) := by decide +kernel
theorem dX7_asks_68 : decode cX7_asks 68 = .ok (.iconst 0, 1) := by decide +kernel
theorem dX7_asks_69 : decode cX7_asks 69 = .ok (.ior, 1) := by decide +kernel
theorem dX7_asks_70 : decode cX7_asks 70 = .ok (.iastore, 1) := by decide +kernel
theorem dX7_asks_71 : decode cX7_asks 71 = .ok (.iinc 2 1, 3) := by decide +kernel
theorem dX7_asks_74 : decode cX7_asks 74 = .ok (.goto (-65), 3) := by decide +kernel
theorem dX7_asks_77 : decode cX7_asks 77 = .ok (.return_, 1) := by decide +kernel
theorem dX7_mowsOwn_0 : decode cX7_mowsOwn 0 = .ok (.aload_n 0, 1) := by decide +kernel
theorem dX7_mowsOwn_1 : decode cX7_mowsOwn 1 = .ok (.getfield 41, 3) := by decide +kernel
theorem dX7_mowsOwn_4 : decode cX7_mowsOwn 4 = .ok (.iconst 1, 1) := by decide +kernel
theorem dX7_mowsOwn_5 : decode cX7_mowsOwn 5 = .ok (.iaload, 1) := by decide +kernel
theorem dX7_mowsOwn_6 : decode cX7_mowsOwn 6 = .ok (.iload_n 1, 1) := by decide +kernel
theorem dX7_mowsOwn_7 : decode cX7_mowsOwn 7 = .ok (.invokestatic 117, 3) := by decide +kernel
theorem dX7_mowsOwn_10 : decode cX7_mowsOwn 10 = .ok (.ifCond .eq 14, 3) := by decide +kernel
theorem dX7_mowsOwn_13 : decode cX7_mowsOwn 13 = .ok (.aload_n 0, 1) := by decide +kernel
theorem dX7_mowsOwn_14 : decode cX7_mowsOwn 14 = .ok (.getfield 41, 3) := by decide +kernel
theorem dX7_mowsOwn_17 : decode cX7_mowsOwn 17 = .ok (.iconst 2, 1) := by decide +kernel
theorem dX7_mowsOwn_18 : decode cX7_mowsOwn 18 = .ok (.iload_n 1, 1) := by decide +kernel
theorem dX7_mowsOwn_19 : decode cX7_mowsOwn 19 = .ok (.iadd, 1) := by decide +kernel
theorem dX7_mowsOwn_20 : decode cX7_mowsOwn 20 = .ok (.iaload, 1) := by decide +kernel
theorem dX7_mowsOwn_21 : decode cX7_mowsOwn 21 = .ok (.ifCond .ne 5, 3) := by decide +kernel
theorem dX7_mowsOwn_24 : decode cX7_mowsOwn 24 = .ok (.iconst 0, 1) := by decide +kernel
theorem dX7_mowsOwn_25 : decode cX7_mowsOwn 25 = .ok (.ireturn, 1) := by decide +kernel
theorem dX7_mowsOwn_26 : decode cX7_mowsOwn 26 = .ok (.aload_n 0, 1) := by decide +kernel
theorem dX7_mowsOwn_27 : decode cX7_mowsOwn 27 = .ok (.getfield 41, 3) := by decide +kernel
theorem dX7_mowsOwn_30 : decode cX7_mowsOwn 30 = .ok (.iconst 2, 1) := by decide +kernel
theorem dX7_mowsOwn_31 : decode cX7_mowsOwn 31 = .ok (.iload_n 1, 1) := by decide +kernel
theorem dX7_mowsOwn_32 : decode cX7_mowsOwn 32 = .ok (.iadd, 1) := by decide +kernel
theorem dX7_mowsOwn_33 : decode cX7_mowsOwn 33 = .ok (.dup2, 1) := by decide +kernel
theorem dX7_mowsOwn_34 : decode cX7_mowsOwn 34 = .ok (.iaload, 1) := by decide +kernel
theorem dX7_mowsOwn_35 : decode cX7_mowsOwn 35 = .ok (.iconst 1, 1) := by decide +kernel
theorem dX7_mowsOwn_36 : decode cX7_mowsOwn 36 = .ok (.isub, 1) := by decide +kernel
theorem dX7_mowsOwn_37 : decode cX7_mowsOwn 37 = .ok (.iastore, 1) := by decide +kernel
theorem dX7_mowsOwn_38 : decode cX7_mowsOwn 38 = .ok (.iconst 1, 1) := by decide +kernel
theorem dX7_mowsOwn_39 : decode cX7_mowsOwn 39 = .ok (.ireturn, 1) := by decide +kernel
theorem dX7_mowsOther_0 : decode cX7_mowsOther 0 = .ok (.aload_n 0, 1) := by decide +kernel
theorem dX7_mowsOther_1 : decode cX7_mowsOther 1 = .ok (.getfield 41, 3) := by decide +kernel
theorem dX7_mowsOther_4 : decode cX7_mowsOther 4 = .ok (.iconst 1, 1) := by decide +kernel
theorem dX7_mowsOther_5 : decode cX7_mowsOther 5 = .ok (.iaload, 1) := by decide +kernel
theorem dX7_mowsOther_6 : decode cX7_mowsOther 6 = .ok (.iload_n 1, 1) := by decide +kernel
theorem dX7_mowsOther_7 : decode cX7_mowsOther 7 = .ok (.invokestatic 117, 3) := by decide +kernel
theorem dX7_mowsOther_10 : decode cX7_mowsOther 10 = .ok (.ifCond .eq 14, 3) := by decide +kernel
theorem dX7_mowsOther_13 : decode cX7_mowsOther 13 = .ok (.aload_n 0, 1) := by decide +kernel
theorem dX7_mowsOther_14 : decode cX7_mowsOther 14 = .ok (.getfield 121, 3) := by decide +kernel
theorem dX7_mowsOther_17 : decode cX7_mowsOther 17 = .ok (.iload_n 1, 1) := by decide +kernel
theorem dX7_mowsOther_18 : decode cX7_mowsOther 18 = .ok (.invokestatic 117, 3) := by decide +kernel
theorem dX7_mowsOther_21 : decode cX7_mowsOther 21 = .ok (.ifCond .ne 5, 3) := by decide +kernel
theorem dX7_mowsOther_24 : decode cX7_mowsOther 24 = .ok (.iconst 0, 1) := by decide +kernel
theorem dX7_mowsOther_25 : decode cX7_mowsOther 25 = .ok (.ireturn, 1) := by decide +kernel
theorem dX7_mowsOther_26 : decode cX7_mowsOther 26 = .ok (.iconst 0, 1) := by decide +kernel
theorem dX7_mowsOther_27 : decode cX7_mowsOther 27 = .ok (.istore_n 2, 1) := by decide +kernel
theorem dX7_mowsOther_28 : decode cX7_mowsOther 28 = .ok (.iload_n 2, 1) := by decide +kernel
theorem dX7_mowsOther_29 : decode cX7_mowsOther 29 = .ok (.aload_n 0, 1) := by decide +kernel
theorem dX7_mowsOther_30 : decode cX7_mowsOther 30 = .ok (.getfield 47, 3) := by decide +kernel
theorem dX7_mowsOther_33 : decode cX7_mowsOther 33 = .ok (.if_icmp .ge 60, 3) := by decide +kernel
theorem dX7_mowsOther_36 : decode cX7_mowsOther 36 = .ok (.aload_n 0, 1) := by decide +kernel
theorem dX7_mowsOther_37 : decode cX7_mowsOther 37 = .ok (.getfield 41, 3) := by decide +kernel
theorem dX7_mowsOther_40 : decode cX7_mowsOther 40 = .ok (.bipush 8, 2) := by decide +kernel
theorem dX7_mowsOther_42 : decode cX7_mowsOther 42 = .ok (.iload_n 2, 1) := by decide +kernel
theorem dX7_mowsOther_43 : decode cX7_mowsOther 43 = .ok (.iadd, 1) := by decide +kernel
theorem dX7_mowsOther_44 : decode cX7_mowsOther 44 = .ok (.iaload, 1) := by decide +kernel
theorem dX7_mowsOther_45 : decode cX7_mowsOther 45 = .ok (.iload_n 1, 1) := by decide +kernel
theorem dX7_mowsOther_46 : decode cX7_mowsOther 46 = .ok (.if_icmp .ne 41, 3) := by decide +kernel
theorem dX7_mowsOther_49 : decode cX7_mowsOther 49 = .ok (.aload_n 0, 1) := by decide +kernel
theorem dX7_mowsOther_50 : decode cX7_mowsOther 50 = .ok (.getfield 41, 3) := by decide +kernel
theorem dX7_mowsOther_53 : decode cX7_mowsOther 53 = .ok (.iconst 1, 1) := by decide +kernel
theorem dX7_mowsOther_54 : decode cX7_mowsOther 54 = .ok (.iaload, 1) := by decide +kernel
theorem dX7_mowsOther_55 : decode cX7_mowsOther 55 = .ok (.iload_n 2, 1) := by decide +kernel
theorem dX7_mowsOther_56 : decode cX7_mowsOther 56 = .ok (.invokestatic 117, 3) := by decide +kernel
theorem dX7_mowsOther_59 : decode cX7_mowsOther 59 = .ok (.ifCond .eq 28, 3) := by decide +kernel
theorem dX7_mowsOther_62 : decode cX7_mowsOther 62 = .ok (.aload_n 0, 1) := by decide +kernel
theorem dX7_mowsOther_63 : decode cX7_mowsOther 63 = .ok (.getfield 41, 3) := by decide +kernel
theorem dX7_mowsOther_66 : decode cX7_mowsOther 66 = .ok (.iconst 2, 1) := by decide +kernel
theorem dX7_mowsOther_67 : decode cX7_mowsOther 67 = .ok (.iload_n 2, 1) := by decide +kernel
theorem dX7_mowsOther_68 : decode cX7_mowsOther 68 = .ok (.iadd, 1) := by decide +kernel
theorem dX7_mowsOther_69 : decode cX7_mowsOther 69 = .ok (.iaload, 1) := by decide +kernel
theorem dX7_mowsOther_70 : decode cX7_mowsOther 70 = .ok (.ifCond .le 17, 3) := by decide +kernel
theorem dX7_mowsOther_73 : decode cX7_mowsOther 73 = .ok (.aload_n 0, 1) := by decide +kernel
theorem dX7_mowsOther_74 : decode cX7_mowsOther 74 = .ok (.getfield 41, 3) := by decide +kernel
theorem dX7_mowsOther_77 : decode cX7_mowsOther 77 = .ok (.iconst 2, 1) := by decide +kernel
theorem dX7_mowsOther_78 : decode cX7_mowsOther 78 = .ok (.iload_n 2, 1) := by decide +kernel
theorem dX7_mowsOther_79 : decode cX7_mowsOther 79 = .ok (.iadd, 1) := by decide +kernel
theorem dX7_mowsOther_80 : decode cX7_mowsOther 80 = .ok (.dup2, 1) := by decide +kernel
theorem dX7_mowsOther_81 : decode cX7_mowsOther 81 = .ok (.iaload, 1) := by decide +kernel
theorem dX7_mowsOther_82 : decode cX7_mowsOther 82 = .ok (.iconst 1, 1) := by decide +kernel
theorem dX7_mowsOther_83 : decode cX7_mowsOther 83 = .ok (.isub, 1) := by decide +kernel
theorem dX7_mowsOther_84 : decode cX7_mowsOther 84 = .ok (.iastore, 1) := by decide +kernel
theorem dX7_mowsOther_85 : decode cX7_mowsOther 85 = .ok (.iconst 1, 1) := by decide +kernel
theorem dX7_mowsOther_86 : decode cX7_mowsOther 86 = .ok (.ireturn, 1) := by decide +kernel
theorem dX7_mowsOther_87 : decode cX7_mowsOther 87 = .ok (.iinc 2 1, 3) := by decide +kernel
theorem dX7_mowsOther_90 : decode cX7_mowsOther 90 = .ok (.goto (-62), 3) := by decide +kernel
theorem dX7_mowsOther_93 : decode cX7_mowsOther 93 = .ok (.iconst 0, 1) := by decide +kernel
theorem dX7_mowsOther_94 : decode cX7_mowsOther 94 = .ok (.ireturn, 1) := by decide +kernel
theorem dX7_goesBy_0 : decode cX7_goesBy 0 = .ok (.iconst 0, 1) := by decide +kernel
theorem dX7_goesBy_1 : decode cX7_goesBy 1 = .ok (.istore_n 2, 1) := by decide +kernel
theorem dX7_goesBy_2 : decode cX7_goesBy 2 = .ok (.aload_n 0, 1) := by decide +kernel
theorem dX7_goesBy_3 : decode cX7_goesBy 3 = .ok (.invokevirtual 124, 3) := by decide +kernel
theorem dX7_goesBy_6 : decode cX7_goesBy 6 = .ok (.iload_n 1, 1) := by decide +kernel
theorem dX7_goesBy_7 : decode cX7_goesBy 7 = .ok (.iconst 1, 1) := by decide +kernel
theorem dX7_goesBy_8 : decode cX7_goesBy 8 = .ok (.if_icmp .ne 99, 3) := by decide +kernel
theorem dX7_goesBy_11 : decode cX7_goesBy 11 = .ok (.aload_n 0, 1) := by decide +kernel
theorem dX7_goesBy_12 : decode cX7_goesBy 12 = .ok (.iconst 0, 1) := by decide +kernel
theorem dX7_goesBy_13 : decode cX7_goesBy 13 = .ok (.putfield 121, 3) := by decide +kernel
theorem dX7_goesBy_16 : decode cX7_goesBy 16 = .ok (.iconst 0, 1) := by decide +kernel
theorem dX7_goesBy_17 : decode cX7_goesBy 17 = .ok (.istore_n 3, 1) := by decide +kernel
theorem dX7_goesBy_18 : decode cX7_goesBy 18 = .ok (.iload_n 3, 1) := by decide +kernel
theorem dX7_goesBy_19 : decode cX7_goesBy 19 = .ok (.aload_n 0, 1) := by decide +kernel
theorem dX7_goesBy_20 : decode cX7_goesBy 20 = .ok (.getfield 47, 3) := by decide +kernel
theorem dX7_goesBy_23 : decode cX7_goesBy 23 = .ok (.if_icmp .ge 36, 3) := by decide +kernel
theorem dX7_goesBy_26 : decode cX7_goesBy 26 = .ok (.aload_n 0, 1) := by decide +kernel
theorem dX7_goesBy_27 : decode cX7_goesBy 27 = .ok (.dup, 1) := by decide +kernel
theorem dX7_goesBy_28 : decode cX7_goesBy 28 = .ok (.getfield 121, 3) := by decide +kernel
theorem dX7_goesBy_31 : decode cX7_goesBy 31 = .ok (.aload_n 0, 1) := by decide +kernel
theorem dX7_goesBy_32 : decode cX7_goesBy 32 = .ok (.getfield 41, 3) := by decide +kernel
theorem dX7_goesBy_35 : decode cX7_goesBy 35 = .ok (.iconst 2, 1) := by decide +kernel
theorem dX7_goesBy_36 : decode cX7_goesBy 36 = .ok (.iload_n 3, 1) := by decide +kernel
theorem dX7_goesBy_37 : decode cX7_goesBy 37 = .ok (.iadd, 1) := by decide +kernel
theorem dX7_goesBy_38 : decode cX7_goesBy 38 = .ok (.iaload, 1) := by decide +kernel
theorem dX7_goesBy_39 : decode cX7_goesBy 39 = .ok (.ifCond .ne 9, 3) := by decide +kernel
theorem dX7_goesBy_42 : decode cX7_goesBy 42 = .ok (.iconst 1, 1) := by decide +kernel
theorem dX7_goesBy_43 : decode cX7_goesBy 43 = .ok (.iload_n 3, 1) := by decide +kernel
theorem dX7_goesBy_44 : decode cX7_goesBy 44 = .ok (.ishl, 1) := by decide +kernel
theorem dX7_goesBy_45 : decode cX7_goesBy 45 = .ok (.goto 4, 3) := by decide +kernel
theorem dX7_goesBy_48 : decode cX7_goesBy 48 = .ok (.iconst 0, 1) := by decide +kernel
theorem dX7_goesBy_49 : decode cX7_goesBy 49 = .ok (.ior, 1) := by decide +kernel
theorem dX7_goesBy_50 : decode cX7_goesBy 50 = .ok (.putfield 121, 3) := by decide +kernel
theorem dX7_goesBy_53 : decode cX7_goesBy 53 = .ok (.iinc 3 1, 3) := by decide +kernel
theorem dX7_goesBy_56 : decode cX7_goesBy 56 = .ok (.goto (-38), 3) := by decide +kernel
theorem dX7_goesBy_59 : decode cX7_goesBy 59 = .ok (.iconst 0, 1) := by decide +kernel
theorem dX7_goesBy_60 : decode cX7_goesBy 60 = .ok (.istore_n 3, 1) := by decide +kernel
theorem dX7_goesBy_61 : decode cX7_goesBy 61 = .ok (.iload_n 3, 1) := by decide +kernel
theorem dX7_goesBy_62 : decode cX7_goesBy 62 = .ok (.aload_n 0, 1) := by decide +kernel
theorem dX7_goesBy_63 : decode cX7_goesBy 63 = .ok (.getfield 47, 3) := by decide +kernel
theorem dX7_goesBy_66 : decode cX7_goesBy 66 = .ok (.if_icmp .ge 17, 3) := by decide +kernel
theorem dX7_goesBy_69 : decode cX7_goesBy 69 = .ok (.iload_n 2, 1) := by decide +kernel
theorem dX7_goesBy_70 : decode cX7_goesBy 70 = .ok (.aload_n 0, 1) := by decide +kernel
theorem dX7_goesBy_71 : decode cX7_goesBy 71 = .ok (.iload_n 3, 1) := by decide +kernel
theorem dX7_goesBy_72 : decode cX7_goesBy 72 = .ok (.invokevirtual 127, 3) := by decide +kernel
theorem dX7_goesBy_75 : decode cX7_goesBy 75 = .ok (.iadd, 1) := by decide +kernel
theorem dX7_goesBy_76 : decode cX7_goesBy 76 = .ok (.istore_n 2, 1) := by decide +kernel
theorem dX7_goesBy_77 : decode cX7_goesBy 77 = .ok (.iinc 3 1, 3) := by decide +kernel
theorem dX7_goesBy_80 : decode cX7_goesBy 80 = .ok (.goto (-19), 3) := by decide +kernel
theorem dX7_goesBy_83 : decode cX7_goesBy 83 = .ok (.iconst 0, 1) := by decide +kernel
theorem dX7_goesBy_84 : decode cX7_goesBy 84 = .ok (.istore_n 3, 1) := by decide +kernel
theorem dX7_goesBy_85 : decode cX7_goesBy 85 = .ok (.iload_n 3, 1) := by decide +kernel
theorem dX7_goesBy_86 : decode cX7_goesBy 86 = .ok (.aload_n 0, 1) := by decide +kernel
theorem dX7_goesBy_87 : decode cX7_goesBy 87 = .ok (.getfield 47, 3) := by decide +kernel
theorem dX7_goesBy_90 : decode cX7_goesBy 90 = .ok (.if_icmp .ge 17, 3) := by decide +kernel
theorem dX7_goesBy_93 : decode cX7_goesBy 93 = .ok (.iload_n 2, 1) := by decide +kernel
theorem dX7_goesBy_94 : decode cX7_goesBy 94 = .ok (.aload_n 0, 1) := by decide +kernel
theorem dX7_goesBy_95 : decode cX7_goesBy 95 = .ok (.iload_n 3, 1) := by decide +kernel
theorem dX7_goesBy_96 : decode cX7_goesBy 96 = .ok (.invokevirtual 130, 3) := by decide +kernel
theorem dX7_goesBy_99 : decode cX7_goesBy 99 = .ok (.iadd, 1) := by decide +kernel
theorem dX7_goesBy_100 : decode cX7_goesBy 100 = .ok (.istore_n 2, 1) := by decide +kernel
theorem dX7_goesBy_101 : decode cX7_goesBy 101 = .ok (.iinc 3 1, 3) := by decide +kernel
theorem dX7_goesBy_104 : decode cX7_goesBy 104 = .ok (.goto (-19), 3) := by decide +kernel
theorem dX7_goesBy_107 : decode cX7_goesBy 107 = .ok (.aload_n 0, 1) := by decide +kernel
theorem dX7_goesBy_108 : decode cX7_goesBy 108 = .ok (.getfield 41, 3) := by decide +kernel
theorem dX7_goesBy_111 : decode cX7_goesBy 111 = .ok (.iconst 0, 1) := by decide +kernel
theorem dX7_goesBy_112 : decode cX7_goesBy 112 = .ok (.dup2, 1) := by decide +kernel
theorem dX7_goesBy_113 : decode cX7_goesBy 113 = .ok (.iaload, 1) := by decide +kernel
theorem dX7_goesBy_114 : decode cX7_goesBy 114 = .ok (.iconst 1, 1) := by decide +kernel
theorem dX7_goesBy_115 : decode cX7_goesBy 115 = .ok (.iadd, 1) := by decide +kernel
theorem dX7_goesBy_116 : decode cX7_goesBy 116 = .ok (.iastore, 1) := by decide +kernel
theorem dX7_goesBy_117 : decode cX7_goesBy 117 = .ok (.iload_n 2, 1) := by decide +kernel
theorem dX7_goesBy_118 : decode cX7_goesBy 118 = .ok (.ireturn, 1) := by decide +kernel
theorem dX7_leftAll_0 : decode cX7_leftAll 0 = .ok (.iconst 0, 1) := by decide +kernel
theorem dX7_leftAll_1 : decode cX7_leftAll 1 = .ok (.istore_n 1, 1) := by decide +kernel
theorem dX7_leftAll_2 : decode cX7_leftAll 2 = .ok (.iconst 0, 1) := by decide +kernel
theorem dX7_leftAll_3 : decode cX7_leftAll 3 = .ok (.istore_n 2, 1) := by decide +kernel
theorem dX7_leftAll_4 : decode cX7_leftAll 4 = .ok (.iload_n 2, 1) := by decide +kernel
theorem dX7_leftAll_5 : decode cX7_leftAll 5 = .ok (.aload_n 0, 1) := by decide +kernel
theorem dX7_leftAll_6 : decode cX7_leftAll 6 = .ok (.getfield 47, 3) := by decide +kernel
theorem dX7_leftAll_9 : decode cX7_leftAll 9 = .ok (.if_icmp .ge 20, 3) := by decide +kernel
theorem dX7_leftAll_12 : decode cX7_leftAll 12 = .ok (.iload_n 1, 1) := by decide +kernel
theorem dX7_leftAll_13 : decode cX7_leftAll 13 = .ok (.aload_n 0, 1) := by decide +kernel
theorem dX7_leftAll_14 : decode cX7_leftAll 14 = .ok (.getfield 41, 3) := by decide +kernel
theorem dX7_leftAll_17 : decode cX7_leftAll 17 = .ok (.iconst 2, 1) := by decide +kernel
theorem dX7_leftAll_18 : decode cX7_leftAll 18 = .ok (.iload_n 2, 1) := by decide +kernel
theorem dX7_leftAll_19 : decode cX7_leftAll 19 = .ok (.iadd, 1) := by decide +kernel
theorem dX7_leftAll_20 : decode cX7_leftAll 20 = .ok (.iaload, 1) := by decide +kernel
theorem dX7_leftAll_21 : decode cX7_leftAll 21 = .ok (.iadd, 1) := by decide +kernel
theorem dX7_leftAll_22 : decode cX7_leftAll 22 = .ok (.istore_n 1, 1) := by decide +kernel
theorem dX7_leftAll_23 : decode cX7_leftAll 23 = .ok (.iinc 2 1, 3) := by decide +kernel
theorem dX7_leftAll_26 : decode cX7_leftAll 26 = .ok (.goto (-22), 3) := by decide +kernel
theorem dX7_leftAll_29 : decode cX7_leftAll 29 = .ok (.iload_n 1, 1) := by decide +kernel
theorem dX7_leftAll_30 : decode cX7_leftAll 30 = .ok (.ireturn, 1) := by decide +kernel
theorem dX7_daysTillAsked_0 : decode cX7_daysTillAsked 0 = .ok (.aload_n 0, 1) := by decide +kernel
theorem dX7_daysTillAsked_1 : decode cX7_daysTillAsked 1 = .ok (.invokevirtual 133, 3) := by decide +kernel
theorem dX7_daysTillAsked_4 : decode cX7_daysTillAsked 4 = .ok (.iconst 0, 1) := by decide +kernel
theorem dX7_daysTillAsked_5 : decode cX7_daysTillAsked 5 = .ok (.istore_n 2, 1) := by decide +kernel
theorem dX7_daysTillAsked_6 : decode cX7_daysTillAsked 6 = .ok (.iload_n 2, 1) := by decide +kernel
theorem dX7_daysTillAsked_7 : decode cX7_daysTillAsked 7 = .ok (.bipush 60, 2) := by decide +kernel
theorem dX7_daysTillAsked_9 : decode cX7_daysTillAsked 9 = .ok (.if_icmp .gt 30, 3) := by decide +kernel
theorem dX7_daysTillAsked_12 : decode cX7_daysTillAsked 12 = .ok (.aload_n 0, 1) := by decide +kernel
theorem dX7_daysTillAsked_13 : decode cX7_daysTillAsked 13 = .ok (.getfield 41, 3) := by decide +kernel
theorem dX7_daysTillAsked_16 : decode cX7_daysTillAsked 16 = .ok (.iconst 1, 1) := by decide +kernel
theorem dX7_daysTillAsked_17 : decode cX7_daysTillAsked 17 = .ok (.iaload, 1) := by decide +kernel
theorem dX7_daysTillAsked_18 : decode cX7_daysTillAsked 18 = .ok (.iload_n 1, 1) := by decide +kernel
theorem dX7_daysTillAsked_19 : decode cX7_daysTillAsked 19 = .ok (.invokestatic 117, 3) := by decide +kernel
theorem dX7_daysTillAsked_22 : decode cX7_daysTillAsked 22 = .ok (.ifCond .eq 5, 3) := by decide +kernel
theorem dX7_daysTillAsked_25 : decode cX7_daysTillAsked 25 = .ok (.iload_n 2, 1) := by decide +kernel
theorem dX7_daysTillAsked_26 : decode cX7_daysTillAsked 26 = .ok (.ireturn, 1) := by decide +kernel
theorem dX7_daysTillAsked_27 : decode cX7_daysTillAsked 27 = .ok (.aload_n 0, 1) := by decide +kernel
theorem dX7_daysTillAsked_28 : decode cX7_daysTillAsked 28 = .ok (.iconst 1, 1) := by decide +kernel
theorem dX7_daysTillAsked_29 : decode cX7_daysTillAsked 29 = .ok (.invokevirtual 136, 3) := by decide +kernel
theorem dX7_daysTillAsked_32 : decode cX7_daysTillAsked 32 = .ok (.pop, 1) := by decide +kernel
theorem dX7_daysTillAsked_33 : decode cX7_daysTillAsked 33 = .ok (.iinc 2 1, 3) := by decide +kernel
theorem dX7_daysTillAsked_36 : decode cX7_daysTillAsked 36 = .ok (.goto (-30), 3) := by decide +kernel
theorem dX7_daysTillAsked_39 : decode cX7_daysTillAsked 39 = .ok (.bipush (-9), 2) := by decide +kernel
theorem dX7_daysTillAsked_41 : decode cX7_daysTillAsked 41 = .ok (.ireturn, 1) := by decide +kernel
theorem dX7_daysTillDone_0 : decode cX7_daysTillDone 0 = .ok (.aload_n 0, 1) := by decide +kernel
theorem dX7_daysTillDone_1 : decode cX7_daysTillDone 1 = .ok (.invokevirtual 133, 3) := by decide +kernel
theorem dX7_daysTillDone_4 : decode cX7_daysTillDone 4 = .ok (.iconst 0, 1) := by decide +kernel
theorem dX7_daysTillDone_5 : decode cX7_daysTillDone 5 = .ok (.istore_n 2, 1) := by decide +kernel
theorem dX7_daysTillDone_6 : decode cX7_daysTillDone 6 = .ok (.iload_n 2, 1) := by decide +kernel
theorem dX7_daysTillDone_7 : decode cX7_daysTillDone 7 = .ok (.bipush 60, 2) := by decide +kernel
theorem dX7_daysTillDone_9 : decode cX7_daysTillDone 9 = .ok (.if_icmp .gt 39, 3) := by decide +kernel
theorem dX7_daysTillDone_12 : decode cX7_daysTillDone 12 = .ok (.iload_n 1, 1) := by decide +kernel
theorem dX7_daysTillDone_13 : decode cX7_daysTillDone 13 = .ok (.ifCond .ge 10, 3) := by decide +kernel
theorem dX7_daysTillDone_16 : decode cX7_daysTillDone 16 = .ok (.aload_n 0, 1) := by decide +kernel
theorem dX7_daysTillDone_17 : decode cX7_daysTillDone 17 = .ok (.invokevirtual 139, 3) := by decide +kernel
theorem dX7_daysTillDone_20 : decode cX7_daysTillDone 20 = .ok (.goto 11, 3) := by decide +kernel
theorem dX7_daysTillDone_23 : decode cX7_daysTillDone 23 = .ok (.aload_n 0, 1) := by decide +kernel
theorem dX7_daysTillDone_24 : decode cX7_daysTillDone 24 = .ok (.getfield 41, 3) := by decide +kernel
theorem dX7_daysTillDone_27 : decode cX7_daysTillDone 27 = .ok (.iconst 2, 1) := by decide +kernel
theorem dX7_daysTillDone_28 : decode cX7_daysTillDone 28 = .ok (.iload_n 1, 1) := by decide +kernel
theorem dX7_daysTillDone_29 : decode cX7_daysTillDone 29 = .ok (.iadd, 1) := by decide +kernel
theorem dX7_daysTillDone_30 : decode cX7_daysTillDone 30 = .ok (.iaload, 1) := by decide +kernel
theorem dX7_daysTillDone_31 : decode cX7_daysTillDone 31 = .ok (.ifCond .ne 5, 3) := by decide +kernel
theorem dX7_daysTillDone_34 : decode cX7_daysTillDone 34 = .ok (.iload_n 2, 1) := by decide +kernel
theorem dX7_daysTillDone_35 : decode cX7_daysTillDone 35 = .ok (.ireturn, 1) := by decide +kernel
theorem dX7_daysTillDone_36 : decode cX7_daysTillDone 36 = .ok (.aload_n 0, 1) := by decide +kernel
theorem dX7_daysTillDone_37 : decode cX7_daysTillDone 37 = .ok (.iconst 1, 1) := by decide +kernel
theorem dX7_daysTillDone_38 : decode cX7_daysTillDone 38 = .ok (.invokevirtual 136, 3) := by decide +kernel
theorem dX7_daysTillDone_41 : decode cX7_daysTillDone 41 = .ok (.pop, 1) := by decide +kernel
theorem dX7_daysTillDone_42 : decode cX7_daysTillDone 42 = .ok (.iinc 2 1, 3) := by decide +kernel
theorem dX7_daysTillDone_45 : decode cX7_daysTillDone 45 = .ok (.goto (-39), 3) := by decide +kernel
theorem dX7_daysTillDone_48 : decode cX7_daysTillDone 48 = .ok (.bipush (-9), 2) := by decide +kernel
theorem dX7_daysTillDone_50 : decode cX7_daysTillDone 50 = .ok (.ireturn, 1) := by decide +kernel
theorem dX7_hangWith_0 : decode cX7_hangWith 0 = .ok (.iconst 0, 1) := by decide +kernel
theorem dX7_hangWith_1 : decode cX7_hangWith 1 = .ok (.istore_n 2, 1) := by decide +kernel
theorem dX7_hangWith_2 : decode cX7_hangWith 2 = .ok (.iconst 0, 1) := by decide +kernel
theorem dX7_hangWith_3 : decode cX7_hangWith 3 = .ok (.istore_n 3, 1) := by decide +kernel
theorem dX7_hangWith_4 : decode cX7_hangWith 4 = .ok (.iload_n 3, 1) := by decide +kernel
theorem dX7_hangWith_5 : decode cX7_hangWith 5 = .ok (.aload_n 0, 1) := by decide +kernel
theorem dX7_hangWith_6 : decode cX7_hangWith 6 = .ok (.getfield 47, 3) := by decide +kernel
theorem dX7_hangWith_9 : decode cX7_hangWith 9 = .ok (.if_icmp .ge 32, 3) := by decide +kernel
theorem dX7_hangWith_12 : decode cX7_hangWith 12 = .ok (.iload_n 2, 1) := by decide +kernel
theorem dX7_hangWith_13 : decode cX7_hangWith 13 = .ok (.aload_n 0, 1) := by decide +kernel
theorem dX7_hangWith_14 : decode cX7_hangWith 14 = .ok (.getfield 19, 3) := by decide +kernel
theorem dX7_hangWith_17 : decode cX7_hangWith 17 = .ok (.bipush 8, 2) := by decide +kernel
theorem dX7_hangWith_19 : decode cX7_hangWith 19 = .ok (.iload_n 3, 1) := by decide +kernel
theorem dX7_hangWith_20 : decode cX7_hangWith 20 = .ok (.iadd, 1) := by decide +kernel
theorem dX7_hangWith_21 : decode cX7_hangWith 21 = .ok (.iaload, 1) := by decide +kernel
theorem dX7_hangWith_22 : decode cX7_hangWith 22 = .ok (.iload_n 1, 1) := by decide +kernel
theorem dX7_hangWith_23 : decode cX7_hangWith 23 = .ok (.if_icmp .ne 9, 3) := by decide +kernel
theorem dX7_hangWith_26 : decode cX7_hangWith 26 = .ok (.iconst 1, 1) := by decide +kernel
theorem dX7_hangWith_27 : decode cX7_hangWith 27 = .ok (.iload_n 3, 1) := by decide +kernel
theorem dX7_hangWith_28 : decode cX7_hangWith 28 = .ok (.ishl, 1) := by decide +kernel
theorem dX7_hangWith_29 : decode cX7_hangWith 29 = .ok (.goto 4, 3) := by decide +kernel
theorem dX7_hangWith_32 : decode cX7_hangWith 32 = .ok (.iconst 0, 1) := by decide +kernel
theorem dX7_hangWith_33 : decode cX7_hangWith 33 = .ok (.ior, 1) := by decide +kernel
theorem dX7_hangWith_34 : decode cX7_hangWith 34 = .ok (.istore_n 2, 1) := by decide +kernel
theorem dX7_hangWith_35 : decode cX7_hangWith 35 = .ok (.iinc 3 1, 3) := by decide +kernel
theorem dX7_hangWith_38 : decode cX7_hangWith 38 = .ok (.goto (-34), 3) := by decide +kernel
theorem dX7_hangWith_41 : decode cX7_hangWith 41 = .ok (.iload_n 2, 1) := by decide +kernel
theorem dX7_hangWith_42 : decode cX7_hangWith 42 = .ok (.ireturn, 1) := by decide +kernel
theorem dX7_ring_0 : decode cX7_ring 0 = .ok (.iload_n 1, 1) := by decide +kernel
theorem dX7_ring_1 : decode cX7_ring 1 = .ok (.istore_n 2, 1) := by decide +kernel
theorem dX7_ring_2 : decode cX7_ring 2 = .ok (.iconst 1, 1) := by decide +kernel
theorem dX7_ring_3 : decode cX7_ring 3 = .ok (.istore_n 3, 1) := by decide +kernel
theorem dX7_ring_4 : decode cX7_ring 4 = .ok (.iload_n 3, 1) := by decide +kernel
theorem dX7_ring_5 : decode cX7_ring 5 = .ok (.aload_n 0, 1) := by decide +kernel
theorem dX7_ring_6 : decode cX7_ring 6 = .ok (.getfield 47, 3) := by decide +kernel
theorem dX7_ring_9 : decode cX7_ring 9 = .ok (.if_icmp .gt 26, 3) := by decide +kernel
theorem dX7_ring_12 : decode cX7_ring 12 = .ok (.aload_n 0, 1) := by decide +kernel
theorem dX7_ring_13 : decode cX7_ring 13 = .ok (.getfield 19, 3) := by decide +kernel
theorem dX7_ring_16 : decode cX7_ring 16 = .ok (.bipush 8, 2) := by decide +kernel
theorem dX7_ring_18 : decode cX7_ring 18 = .ok (.iload_n 2, 1) := by decide +kernel
theorem dX7_ring_19 : decode cX7_ring 19 = .ok (.iadd, 1) := by decide +kernel
theorem dX7_ring_20 : decode cX7_ring 20 = .ok (.iaload, 1) := by decide +kernel
theorem dX7_ring_21 : decode cX7_ring 21 = .ok (.istore_n 2, 1) := by decide +kernel
theorem dX7_ring_22 : decode cX7_ring 22 = .ok (.iload_n 2, 1) := by decide +kernel
theorem dX7_ring_23 : decode cX7_ring 23 = .ok (.iload_n 1, 1) := by decide +kernel
theorem dX7_ring_24 : decode cX7_ring 24 = .ok (.if_icmp .ne 5, 3) := by decide +kernel
theorem dX7_ring_27 : decode cX7_ring 27 = .ok (.iload_n 3, 1) := by decide +kernel
theorem dX7_ring_28 : decode cX7_ring 28 = .ok (.ireturn, 1) := by decide +kernel
theorem dX7_ring_29 : decode cX7_ring 29 = .ok (.iinc 3 1, 3) := by decide +kernel
theorem dX7_ring_32 : decode cX7_ring 32 = .ok (.goto (-28), 3) := by decide +kernel
theorem dX7_ring_35 : decode cX7_ring 35 = .ok (.iconst 0, 1) := by decide +kernel
theorem dX7_ring_36 : decode cX7_ring 36 = .ok (.ireturn, 1) := by decide +kernel
theorem dX7_farmer_0 : decode cX7_farmer 0 = .ok (.aload_n 0, 1) := by decide +kernel
theorem dX7_farmer_1 : decode cX7_farmer 1 = .ok (.iload_n 1, 1) := by decide +kernel
theorem dX7_farmer_2 : decode cX7_farmer 2 = .ok (.invokevirtual 143, 3) := by decide +kernel
theorem dX7_farmer_5 : decode cX7_farmer 5 = .ok (.ifCond .ne 5, 3) := by decide +kernel
theorem dX7_farmer_8 : decode cX7_farmer 8 = .ok (.iconst (-1), 1) := by decide +kernel
theorem dX7_farmer_9 : decode cX7_farmer 9 = .ok (.ireturn, 1) := by decide +kernel
theorem dX7_farmer_10 : decode cX7_farmer 10 = .ok (.iload_n 2, 1) := by decide +kernel
theorem dX7_farmer_11 : decode cX7_farmer 11 = .ok (.tableswitch 128 0 9 #[53, 60, 69, 76, 83, 93, 104, 110, 116, 122], 53) := by decide +kernel
theorem dX7_farmer_64 : decode cX7_farmer 64 = .ok (.aload_n 0, 1) := by decide +kernel
theorem dX7_farmer_65 : decode cX7_farmer 65 = .ok (.getfield 7, 3) := by decide +kernel
theorem dX7_farmer_68 : decode cX7_farmer 68 = .ok (.iload_n 1, 1) := by decide +kernel
theorem dX7_farmer_69 : decode cX7_farmer 69 = .ok (.iaload, 1) := by decide +kernel
theorem dX7_farmer_70 : decode cX7_farmer 70 = .ok (.ireturn, 1) := by decide +kernel
theorem dX7_farmer_71 : decode cX7_farmer 71 = .ok (.aload_n 0, 1) := by decide +kernel
theorem dX7_farmer_72 : decode cX7_farmer 72 = .ok (.getfield 19, 3) := by decide +kernel
theorem dX7_farmer_75 : decode cX7_farmer 75 = .ok (.iconst 2, 1) := by decide +kernel
theorem dX7_farmer_76 : decode cX7_farmer 76 = .ok (.iload_n 1, 1) := by decide +kernel
theorem dX7_farmer_77 : decode cX7_farmer 77 = .ok (.iadd, 1) := by decide +kernel
theorem dX7_farmer_78 : decode cX7_farmer 78 = .ok (.iaload, 1) := by decide +kernel
theorem dX7_farmer_79 : decode cX7_farmer 79 = .ok (.ireturn, 1) := by decide +kernel
theorem dX7_farmer_80 : decode cX7_farmer 80 = .ok (.aload_n 0, 1) := by decide +kernel
theorem dX7_farmer_81 : decode cX7_farmer 81 = .ok (.getfield 13, 3) := by decide +kernel
theorem dX7_farmer_84 : decode cX7_farmer 84 = .ok (.iload_n 1, 1) := by decide +kernel
theorem dX7_farmer_85 : decode cX7_farmer 85 = .ok (.iaload, 1) := by decide +kernel
theorem dX7_farmer_86 : decode cX7_farmer 86 = .ok (.ireturn, 1) := by decide +kernel
theorem dX7_farmer_87 : decode cX7_farmer 87 = .ok (.aload_n 0, 1) := by decide +kernel
theorem dX7_farmer_88 : decode cX7_farmer 88 = .ok (.getfield 16, 3) := by decide +kernel
theorem dX7_farmer_91 : decode cX7_farmer 91 = .ok (.iload_n 1, 1) := by decide +kernel
theorem dX7_farmer_92 : decode cX7_farmer 92 = .ok (.iaload, 1) := by decide +kernel
theorem dX7_farmer_93 : decode cX7_farmer 93 = .ok (.ireturn, 1) := by decide +kernel
theorem dX7_farmer_94 : decode cX7_farmer 94 = .ok (.aload_n 0, 1) := by decide +kernel
theorem dX7_farmer_95 : decode cX7_farmer 95 = .ok (.getfield 19, 3) := by decide +kernel
theorem dX7_farmer_98 : decode cX7_farmer 98 = .ok (.bipush 8, 2) := by decide +kernel
theorem dX7_farmer_100 : decode cX7_farmer 100 = .ok (.iload_n 1, 1) := by decide +kernel
theorem dX7_farmer_101 : decode cX7_farmer 101 = .ok (.iadd, 1) := by decide +kernel
theorem dX7_farmer_102 : decode cX7_farmer 102 = .ok (.iaload, 1) := by decide +kernel
theorem dX7_farmer_103 : decode cX7_farmer 103 = .ok (.ireturn, 1) := by decide +kernel
theorem dX7_farmer_104 : decode cX7_farmer 104 = .ok (.aload_n 0, 1) := by decide +kernel
theorem dX7_farmer_105 : decode cX7_farmer 105 = .ok (.getfield 19, 3) := by decide +kernel
theorem dX7_farmer_108 : decode cX7_farmer 108 = .ok (.iconst 1, 1) := by decide +kernel
theorem dX7_farmer_109 : decode cX7_farmer 109 = .ok (.iaload, 1) := by decide +kernel
theorem dX7_farmer_110 : decode cX7_farmer 110 = .ok (.iload_n 1, 1) := by decide +kernel
theorem dX7_farmer_111 : decode cX7_farmer 111 = .ok (.ishr, 1) := by decide +kernel
theorem dX7_farmer_112 : decode cX7_farmer 112 = .ok (.iconst 1, 1) := by decide +kernel
theorem dX7_farmer_113 : decode cX7_farmer 113 = .ok (.iand, 1) := by decide +kernel
theorem dX7_farmer_114 : decode cX7_farmer 114 = .ok (.ireturn, 1) := by decide +kernel
theorem dX7_farmer_115 : decode cX7_farmer 115 = .ok (.aload_n 0, 1) := by decide +kernel
theorem dX7_farmer_116 : decode cX7_farmer 116 = .ok (.iload_n 1, 1) := by decide +kernel
theorem dX7_farmer_117 : decode cX7_farmer 117 = .ok (.invokevirtual 146, 3) := by decide +kernel
theorem dX7_farmer_120 : decode cX7_farmer 120 = .ok (.ireturn, 1) := by decide +kernel
theorem dX7_farmer_121 : decode cX7_farmer 121 = .ok (.aload_n 0, 1) := by decide +kernel
theorem dX7_farmer_122 : decode cX7_farmer 122 = .ok (.iload_n 1, 1) := by decide +kernel
theorem dX7_farmer_123 : decode cX7_farmer 123 = .ok (.invokevirtual 149, 3) := by decide +kernel
theorem dX7_farmer_126 : decode cX7_farmer 126 = .ok (.ireturn, 1) := by decide +kernel
theorem dX7_farmer_127 : decode cX7_farmer 127 = .ok (.aload_n 0, 1) := by decide +kernel
theorem dX7_farmer_128 : decode cX7_farmer 128 = .ok (.iload_n 1, 1) := by decide +kernel
theorem dX7_farmer_129 : decode cX7_farmer 129 = .ok (.invokevirtual 152, 3) := by decide +kernel
theorem dX7_farmer_132 : decode cX7_farmer 132 = .ok (.ireturn, 1) := by decide +kernel
theorem dX7_farmer_133 : decode cX7_farmer 133 = .ok (.aload_n 0, 1) := by decide +kernel
theorem dX7_farmer_134 : decode cX7_farmer 134 = .ok (.iload_n 1, 1) := by decide +kernel
theorem dX7_farmer_135 : decode cX7_farmer 135 = .ok (.invokevirtual 155, 3) := by decide +kernel
theorem dX7_farmer_138 : decode cX7_farmer 138 = .ok (.ireturn, 1) := by decide +kernel
theorem dX7_farmer_139 : decode cX7_farmer 139 = .ok (.iconst (-1), 1) := by decide +kernel
theorem dX7_farmer_140 : decode cX7_farmer 140 = .ok (.ireturn, 1) := by decide +kernel
theorem dX7_now_0 : decode cX7_now 0 = .ok (.aload_n 0, 1) := by decide +kernel
theorem dX7_now_1 : decode cX7_now 1 = .ok (.invokevirtual 133, 3) := by decide +kernel
theorem dX7_now_4 : decode cX7_now 4 = .ok (.iload_n 1, 1) := by decide +kernel
theorem dX7_now_5 : decode cX7_now 5 = .ok (.tableswitch 65 0 4 #[35, 42, 49, 54, 60], 35) := by decide +kernel
theorem dX7_now_40 : decode cX7_now 40 = .ok (.aload_n 0, 1) := by decide +kernel
theorem dX7_now_41 : decode cX7_now 41 = .ok (.getfield 19, 3) := by decide +kernel
theorem dX7_now_44 : decode cX7_now 44 = .ok (.iconst 0, 1) := by decide +kernel
theorem dX7_now_45 : decode cX7_now 45 = .ok (.iaload, 1) := by decide +kernel
theorem dX7_now_46 : decode cX7_now 46 = .ok (.ireturn, 1) := by decide +kernel
theorem dX7_now_47 : decode cX7_now 47 = .ok (.aload_n 0, 1) := by decide +kernel
theorem dX7_now_48 : decode cX7_now 48 = .ok (.getfield 19, 3) := by decide +kernel
theorem dX7_now_51 : decode cX7_now 51 = .ok (.iconst 1, 1) := by decide +kernel
theorem dX7_now_52 : decode cX7_now 52 = .ok (.iaload, 1) := by decide +kernel
theorem dX7_now_53 : decode cX7_now 53 = .ok (.ireturn, 1) := by decide +kernel
theorem dX7_now_54 : decode cX7_now 54 = .ok (.aload_n 0, 1) := by decide +kernel
theorem dX7_now_55 : decode cX7_now 55 = .ok (.invokevirtual 139, 3) := by decide +kernel
theorem dX7_now_58 : decode cX7_now 58 = .ok (.ireturn, 1) := by decide +kernel
theorem dX7_now_59 : decode cX7_now 59 = .ok (.aload_n 0, 1) := by decide +kernel
theorem dX7_now_60 : decode cX7_now 60 = .ok (.iconst (-1), 1) := by decide +kernel
theorem dX7_now_61 : decode cX7_now 61 = .ok (.invokevirtual 155, 3) := by decide +kernel
theorem dX7_now_64 : decode cX7_now 64 = .ok (.ireturn, 1) := by decide +kernel
theorem dX7_now_65 : decode cX7_now 65 = .ok (.aload_n 0, 1) := by decide +kernel
theorem dX7_now_66 : decode cX7_now 66 = .ok (.getfield 104, 3) := by decide +kernel
theorem dX7_now_69 : decode cX7_now 69 = .ok (.ireturn, 1) := by decide +kernel
theorem dX7_now_70 : decode cX7_now 70 = .ok (.iconst (-1), 1) := by decide +kernel
theorem dX7_now_71 : decode cX7_now 71 = .ok (.ireturn, 1) := by decide +kernel
theorem dX7_remembers_0 : decode cX7_remembers 0 = .ok (.aload_n 0, 1) := by decide +kernel
theorem dX7_remembers_1 : decode cX7_remembers 1 = .ok (.getfield 104, 3) := by decide +kernel
theorem dX7_remembers_4 : decode cX7_remembers 4 = .ok (.bipush 10, 2) := by decide +kernel
theorem dX7_remembers_6 : decode cX7_remembers 6 = .ok (.if_icmp .ne 42, 3) := by decide +kernel
theorem dX7_remembers_9 : decode cX7_remembers 9 = .ok (.iconst 0, 1) := by decide +kernel
theorem dX7_remembers_10 : decode cX7_remembers 10 = .ok (.istore_n 1, 1) := by decide +kernel
theorem dX7_remembers_11 : decode cX7_remembers 11 = .ok (.iload_n 1, 1) := by decide +kernel
theorem dX7_remembers_12 : decode cX7_remembers 12 = .ok (.bipush 126, 2) := by decide +kernel
theorem dX7_remembers_14 : decode cX7_remembers 14 = .ok (.if_icmp .ge 24, 3) := by decide +kernel
theorem dX7_remembers_17 : decode cX7_remembers 17 = .ok (.aload_n 0, 1) := by decide +kernel
theorem dX7_remembers_18 : decode cX7_remembers 18 = .ok (.getfield 22, 3) := by decide +kernel
theorem dX7_remembers_21 : decode cX7_remembers 21 = .ok (.iload_n 1, 1) := by decide +kernel
theorem dX7_remembers_22 : decode cX7_remembers 22 = .ok (.aload_n 0, 1) := by decide +kernel
theorem dX7_remembers_23 : decode cX7_remembers 23 = .ok (.getfield 22, 3) := by decide +kernel
theorem dX7_remembers_26 : decode cX7_remembers 26 = .ok (.iload_n 1, 1) := by decide +kernel
theorem dX7_remembers_27 : decode cX7_remembers 27 = .ok (.bipush 14, 2) := by decide +kernel
theorem dX7_remembers_29 : decode cX7_remembers 29 = .ok (.iadd, 1) := by decide +kernel
theorem dX7_remembers_30 : decode cX7_remembers 30 = .ok (.iaload, 1) := by decide +kernel
theorem dX7_remembers_31 : decode cX7_remembers 31 = .ok (.iastore, 1) := by decide +kernel
theorem dX7_remembers_32 : decode cX7_remembers 32 = .ok (.iinc 1 1, 3) := by decide +kernel
theorem dX7_remembers_35 : decode cX7_remembers 35 = .ok (.goto (-24), 3) := by decide +kernel
theorem dX7_remembers_38 : decode cX7_remembers 38 = .ok (.aload_n 0, 1) := by decide +kernel
theorem dX7_remembers_39 : decode cX7_remembers 39 = .ok (.dup, 1) := by decide +kernel
theorem dX7_remembers_40 : decode cX7_remembers 40 = .ok (.getfield 104, 3) := by decide +kernel
theorem dX7_remembers_43 : decode cX7_remembers 43 = .ok (.iconst 1, 1) := by decide +kernel
theorem dX7_remembers_44 : decode cX7_remembers 44 = .ok (.isub, 1) := by decide +kernel
theorem dX7_remembers_45 : decode cX7_remembers 45 = .ok (.putfield 104, 3) := by decide +kernel
theorem dX7_remembers_48 : decode cX7_remembers 48 = .ok (.aload_n 0, 1) := by decide +kernel
theorem dX7_remembers_49 : decode cX7_remembers 49 = .ok (.getfield 22, 3) := by decide +kernel
theorem dX7_remembers_52 : decode cX7_remembers 52 = .ok (.bipush 14, 2) := by decide +kernel
theorem dX7_remembers_54 : decode cX7_remembers 54 = .ok (.aload_n 0, 1) := by decide +kernel
theorem dX7_remembers_55 : decode cX7_remembers 55 = .ok (.getfield 104, 3) := by decide +kernel
theorem dX7_remembers_58 : decode cX7_remembers 58 = .ok (.imul, 1) := by decide +kernel
theorem dX7_remembers_59 : decode cX7_remembers 59 = .ok (.aload_n 0, 1) := by decide +kernel
theorem dX7_remembers_60 : decode cX7_remembers 60 = .ok (.getfield 19, 3) := by decide +kernel
theorem dX7_remembers_63 : decode cX7_remembers 63 = .ok (.iconst 0, 1) := by decide +kernel
theorem dX7_remembers_64 : decode cX7_remembers 64 = .ok (.invokestatic 110, 3) := by decide +kernel
theorem dX7_remembers_67 : decode cX7_remembers 67 = .ok (.aload_n 0, 1) := by decide +kernel
theorem dX7_remembers_68 : decode cX7_remembers 68 = .ok (.dup, 1) := by decide +kernel
theorem dX7_remembers_69 : decode cX7_remembers 69 = .ok (.getfield 104, 3) := by decide +kernel
theorem dX7_remembers_72 : decode cX7_remembers 72 = .ok (.iconst 1, 1) := by decide +kernel
theorem dX7_remembers_73 : decode cX7_remembers 73 = .ok (.iadd, 1) := by decide +kernel
theorem dX7_remembers_74 : decode cX7_remembers 74 = .ok (.putfield 104, 3) := by decide +kernel
theorem dX7_remembers_77 : decode cX7_remembers 77 = .ok (.return_, 1) := by decide +kernel
theorem dX7_day_0 : decode cX7_day 0 = .ok (.iload_n 1, 1) := by decide +kernel
theorem dX7_day_1 : decode cX7_day 1 = .ok (.iconst 0, 1) := by decide +kernel
theorem dX7_day_2 : decode cX7_day 2 = .ok (.iconst 1, 1) := by decide +kernel
theorem dX7_day_3 : decode cX7_day 3 = .ok (.invokestatic 51, 3) := by decide +kernel
theorem dX7_day_6 : decode cX7_day 6 = .ok (.ifCond .ne 5, 3) := by decide +kernel
theorem dX7_day_9 : decode cX7_day 9 = .ok (.iconst (-1), 1) := by decide +kernel
theorem dX7_day_10 : decode cX7_day 10 = .ok (.ireturn, 1) := by decide +kernel
theorem dX7_day_11 : decode cX7_day 11 = .ok (.aload_n 0, 1) := by decide +kernel
theorem dX7_day_12 : decode cX7_day 12 = .ok (.getfield 19, 3) := by decide +kernel
theorem dX7_day_15 : decode cX7_day 15 = .ok (.iconst 0, 1) := by decide +kernel
theorem dX7_day_16 : decode cX7_day 16 = .ok (.iaload, 1) := by decide +kernel
theorem dX7_day_17 : decode cX7_day 17 = .ok (.sipush 999, 3) := by decide +kernel
theorem dX7_day_20 : decode cX7_day 20 = .ok (.if_icmp .ne 6, 3) := by decide +kernel
theorem dX7_day_23 : decode cX7_day 23 = .ok (.bipush (-2), 2) := by decide +kernel
theorem dX7_day_25 : decode cX7_day 25 = .ok (.ireturn, 1) := by decide +kernel
theorem dX7_day_26 : decode cX7_day 26 = .ok (.aload_n 0, 1) := by decide +kernel
theorem dX7_day_27 : decode cX7_day 27 = .ok (.invokevirtual 158, 3) := by decide +kernel
theorem dX7_day_30 : decode cX7_day 30 = .ok (.aload_n 0, 1) := by decide +kernel
theorem dX7_day_31 : decode cX7_day 31 = .ok (.invokevirtual 133, 3) := by decide +kernel
theorem dX7_day_34 : decode cX7_day 34 = .ok (.aload_n 0, 1) := by decide +kernel
theorem dX7_day_35 : decode cX7_day 35 = .ok (.iload_n 1, 1) := by decide +kernel
theorem dX7_day_36 : decode cX7_day 36 = .ok (.invokevirtual 136, 3) := by decide +kernel
theorem dX7_day_39 : decode cX7_day 39 = .ok (.istore_n 2, 1) := by decide +kernel
theorem dX7_day_40 : decode cX7_day 40 = .ok (.aload_n 0, 1) := by decide +kernel
theorem dX7_day_41 : decode cX7_day 41 = .ok (.getfield 19, 3) := by decide +kernel
theorem dX7_day_44 : decode cX7_day 44 = .ok (.iconst 0, 1) := by decide +kernel
theorem dX7_day_45 : decode cX7_day 45 = .ok (.aload_n 0, 1) := by decide +kernel
theorem dX7_day_46 : decode cX7_day 46 = .ok (.getfield 41, 3) := by decide +kernel
theorem dX7_day_49 : decode cX7_day 49 = .ok (.iconst 0, 1) := by decide +kernel
theorem dX7_day_50 : decode cX7_day 50 = .ok (.invokestatic 110, 3) := by decide +kernel
theorem dX7_day_53 : decode cX7_day 53 = .ok (.iload_n 2, 1) := by decide +kernel
theorem dX7_day_54 : decode cX7_day 54 = .ok (.ireturn, 1) := by decide +kernel
theorem dX7_brings_0 : decode cX7_brings 0 = .ok (.aload_n 0, 1) := by decide +kernel
theorem dX7_brings_1 : decode cX7_brings 1 = .ok (.iload_n 1, 1) := by decide +kernel
theorem dX7_brings_2 : decode cX7_brings 2 = .ok (.invokevirtual 143, 3) := by decide +kernel
theorem dX7_brings_5 : decode cX7_brings 5 = .ok (.ifCond .ne 5, 3) := by decide +kernel
theorem dX7_brings_8 : decode cX7_brings 8 = .ok (.iconst (-1), 1) := by decide +kernel
theorem dX7_brings_9 : decode cX7_brings 9 = .ok (.ireturn, 1) := by decide +kernel
theorem dX7_brings_10 : decode cX7_brings 10 = .ok (.aload_n 0, 1) := by decide +kernel
theorem dX7_brings_11 : decode cX7_brings 11 = .ok (.getfield 19, 3) := by decide +kernel
theorem dX7_brings_14 : decode cX7_brings 14 = .ok (.iconst 1, 1) := by decide +kernel
theorem dX7_brings_15 : decode cX7_brings 15 = .ok (.iaload, 1) := by decide +kernel
theorem dX7_brings_16 : decode cX7_brings 16 = .ok (.iload_n 1, 1) := by decide +kernel
theorem dX7_brings_17 : decode cX7_brings 17 = .ok (.invokestatic 117, 3) := by decide +kernel
theorem dX7_brings_20 : decode cX7_brings 20 = .ok (.ifCond .eq 6, 3) := by decide +kernel
theorem dX7_brings_23 : decode cX7_brings 23 = .ok (.bipush (-2), 2) := by decide +kernel
theorem dX7_brings_25 : decode cX7_brings 25 = .ok (.ireturn, 1) := by decide +kernel
theorem dX7_brings_26 : decode cX7_brings 26 = .ok (.aload_n 0, 1) := by decide +kernel
theorem dX7_brings_27 : decode cX7_brings 27 = .ok (.invokevirtual 158, 3) := by decide +kernel
theorem dX7_brings_30 : decode cX7_brings 30 = .ok (.aload_n 0, 1) := by decide +kernel
theorem dX7_brings_31 : decode cX7_brings 31 = .ok (.getfield 19, 3) := by decide +kernel
theorem dX7_brings_34 : decode cX7_brings 34 = .ok (.iconst 1, 1) := by decide +kernel
theorem dX7_brings_35 : decode cX7_brings 35 = .ok (.dup2, 1) := by decide +kernel
theorem dX7_brings_36 : decode cX7_brings 36 = .ok (.iaload, 1) := by decide +kernel
theorem dX7_brings_37 : decode cX7_brings 37 = .ok (.iconst 1, 1) := by decide +kernel
theorem dX7_brings_38 : decode cX7_brings 38 = .ok (.iload_n 1, 1) := by decide +kernel
theorem dX7_brings_39 : decode cX7_brings 39 = .ok (.ishl, 1) := by decide +kernel
theorem dX7_brings_40 : decode cX7_brings 40 = .ok (.ior, 1) := by decide +kernel
theorem dX7_brings_41 : decode cX7_brings 41 = .ok (.iastore, 1) := by decide +kernel
theorem dX7_brings_42 : decode cX7_brings 42 = .ok (.aload_n 0, 1) := by decide +kernel
theorem dX7_brings_43 : decode cX7_brings 43 = .ok (.getfield 19, 3) := by decide +kernel
theorem dX7_brings_46 : decode cX7_brings 46 = .ok (.iconst 1, 1) := by decide +kernel
theorem dX7_brings_47 : decode cX7_brings 47 = .ok (.iaload, 1) := by decide +kernel
theorem dX7_brings_48 : decode cX7_brings 48 = .ok (.invokestatic 114, 3) := by decide +kernel
theorem dX7_brings_51 : decode cX7_brings 51 = .ok (.ireturn, 1) := by decide +kernel
theorem dX7_hangs_0 : decode cX7_hangs 0 = .ok (.aload_n 0, 1) := by decide +kernel
theorem dX7_hangs_1 : decode cX7_hangs 1 = .ok (.iload_n 1, 1) := by decide +kernel
theorem dX7_hangs_2 : decode cX7_hangs 2 = .ok (.invokevirtual 143, 3) := by decide +kernel
theorem dX7_hangs_5 : decode cX7_hangs 5 = .ok (.ifCond .eq 16, 3) := by decide +kernel
theorem dX7_hangs_8 : decode cX7_hangs 8 = .ok (.aload_n 0, 1) := by decide +kernel
theorem dX7_hangs_9 : decode cX7_hangs 9 = .ok (.iload_n 2, 1) := by decide +kernel
theorem dX7_hangs_10 : decode cX7_hangs 10 = .ok (.invokevirtual 143, 3) := by decide +kernel
theorem dX7_hangs_13 : decode cX7_hangs 13 = .ok (.ifCond .eq 8, 3) := by decide +kernel
theorem dX7_hangs_16 : decode cX7_hangs 16 = .ok (.iload_n 1, 1) := by decide +kernel
theorem dX7_hangs_17 : decode cX7_hangs 17 = .ok (.iload_n 2, 1) := by decide +kernel
theorem dX7_hangs_18 : decode cX7_hangs 18 = .ok (.if_icmp .ne 5, 3) := by decide +kernel
theorem dX7_hangs_21 : decode cX7_hangs 21 = .ok (.iconst (-1), 1) := by decide +kernel
theorem dX7_hangs_22 : decode cX7_hangs 22 = .ok (.ireturn, 1) := by decide +kernel
theorem dX7_hangs_23 : decode cX7_hangs 23 = .ok (.aload_n 0, 1) := by decide +kernel
theorem dX7_hangs_24 : decode cX7_hangs 24 = .ok (.getfield 19, 3) := by decide +kernel
theorem dX7_hangs_27 : decode cX7_hangs 27 = .ok (.bipush 8, 2) := by decide +kernel
theorem dX7_hangs_29 : decode cX7_hangs 29 = .ok (.iload_n 1, 1) := by decide +kernel
theorem dX7_hangs_30 : decode cX7_hangs 30 = .ok (.iadd, 1) := by decide +kernel
theorem dX7_hangs_31 : decode cX7_hangs 31 = .ok (.iaload, 1) := by decide +kernel
theorem dX7_hangs_32 : decode cX7_hangs 32 = .ok (.istore_n 3, 1) := by decide +kernel
theorem dX7_hangs_33 : decode cX7_hangs 33 = .ok (.aload_n 0, 1) := by decide +kernel
theorem dX7_hangs_34 : decode cX7_hangs 34 = .ok (.getfield 19, 3) := by decide +kernel
theorem dX7_hangs_37 : decode cX7_hangs 37 = .ok (.iconst 1, 1) := by decide +kernel
theorem dX7_hangs_38 : decode cX7_hangs 38 = .ok (.iaload, 1) := by decide +kernel
theorem dX7_hangs_39 : decode cX7_hangs 39 = .ok (.iload_n 1, 1) := by decide +kernel
theorem dX7_hangs_40 : decode cX7_hangs 40 = .ok (.invokestatic 117, 3) := by decide +kernel
theorem dX7_hangs_43 : decode cX7_hangs 43 = .ok (.ifCond .ne 8, 3) := by decide +kernel
theorem dX7_hangs_46 : decode cX7_hangs 46 = .ok (.iload_n 3, 1) := by decide +kernel
theorem dX7_hangs_47 : decode cX7_hangs 47 = .ok (.iload_n 2, 1) := by decide +kernel
theorem dX7_hangs_48 : decode cX7_hangs 48 = .ok (.if_icmp .ne 6, 3) := by decide +kernel
theorem dX7_hangs_51 : decode cX7_hangs 51 = .ok (.bipush (-2), 2) := by decide +kernel
theorem dX7_hangs_53 : decode cX7_hangs 53 = .ok (.ireturn, 1) := by decide +kernel
theorem dX7_hangs_54 : decode cX7_hangs 54 = .ok (.aload_n 0, 1) := by decide +kernel
theorem dX7_hangs_55 : decode cX7_hangs 55 = .ok (.invokevirtual 158, 3) := by decide +kernel
theorem dX7_hangs_58 : decode cX7_hangs 58 = .ok (.aload_n 0, 1) := by decide +kernel
theorem dX7_hangs_59 : decode cX7_hangs 59 = .ok (.getfield 19, 3) := by decide +kernel
theorem dX7_hangs_62 : decode cX7_hangs 62 = .ok (.bipush 8, 2) := by decide +kernel
theorem dX7_hangs_64 : decode cX7_hangs 64 = .ok (.iload_n 1, 1) := by decide +kernel
theorem dX7_hangs_65 : decode cX7_hangs 65 = .ok (.iadd, 1) := by decide +kernel
theorem dX7_hangs_66 : decode cX7_hangs 66 = .ok (.iload_n 2, 1) := by decide +kernel
theorem dX7_hangs_67 : decode cX7_hangs 67 = .ok (.iastore, 1) := by decide +kernel
theorem dX7_hangs_68 : decode cX7_hangs 68 = .ok (.iload_n 3, 1) := by decide +kernel
theorem dX7_hangs_69 : decode cX7_hangs 69 = .ok (.ireturn, 1) := by decide +kernel
theorem dX7_undo_0 : decode cX7_undo 0 = .ok (.aload_n 0, 1) := by decide +kernel
theorem dX7_undo_1 : decode cX7_undo 1 = .ok (.getfield 104, 3) := by decide +kernel
theorem dX7_undo_4 : decode cX7_undo 4 = .ok (.ifCond .ne 6, 3) := by decide +kernel
theorem dX7_undo_7 : decode cX7_undo 7 = .ok (.bipush (-2), 2) := by decide +kernel
theorem dX7_undo_9 : decode cX7_undo 9 = .ok (.ireturn, 1) := by decide +kernel
theorem dX7_undo_10 : decode cX7_undo 10 = .ok (.aload_n 0, 1) := by decide +kernel
theorem dX7_undo_11 : decode cX7_undo 11 = .ok (.dup, 1) := by decide +kernel
theorem dX7_undo_12 : decode cX7_undo 12 = .ok (.getfield 104, 3) := by decide +kernel
theorem dX7_undo_15 : decode cX7_undo 15 = .ok (.iconst 1, 1) := by decide +kernel
theorem dX7_undo_16 : decode cX7_undo 16 = .ok (.isub, 1) := by decide +kernel
theorem dX7_undo_17 : decode cX7_undo 17 = .ok (.putfield 104, 3) := by decide +kernel
theorem dX7_undo_20 : decode cX7_undo 20 = .ok (.aload_n 0, 1) := by decide +kernel
theorem dX7_undo_21 : decode cX7_undo 21 = .ok (.getfield 19, 3) := by decide +kernel
theorem dX7_undo_24 : decode cX7_undo 24 = .ok (.iconst 0, 1) := by decide +kernel
theorem dX7_undo_25 : decode cX7_undo 25 = .ok (.aload_n 0, 1) := by decide +kernel
theorem dX7_undo_26 : decode cX7_undo 26 = .ok (.getfield 22, 3) := by decide +kernel
theorem dX7_undo_29 : decode cX7_undo 29 = .ok (.bipush 14, 2) := by decide +kernel
theorem dX7_undo_31 : decode cX7_undo 31 = .ok (.aload_n 0, 1) := by decide +kernel
theorem dX7_undo_32 : decode cX7_undo 32 = .ok (.getfield 104, 3) := by decide +kernel
theorem dX7_undo_35 : decode cX7_undo 35 = .ok (.imul, 1) := by decide +kernel
theorem dX7_undo_36 : decode cX7_undo 36 = .ok (.invokestatic 110, 3) := by decide +kernel
theorem dX7_undo_39 : decode cX7_undo 39 = .ok (.aload_n 0, 1) := by decide +kernel
theorem dX7_undo_40 : decode cX7_undo 40 = .ok (.getfield 104, 3) := by decide +kernel
theorem dX7_undo_43 : decode cX7_undo 43 = .ok (.ireturn, 1) := by decide +kernel
theorem dX7_allAskedBy_0 : decode cX7_allAskedBy 0 = .ok (.aload_n 0, 1) := by decide +kernel
theorem dX7_allAskedBy_1 : decode cX7_allAskedBy 1 = .ok (.invokevirtual 133, 3) := by decide +kernel
theorem dX7_allAskedBy_4 : decode cX7_allAskedBy 4 = .ok (.aload_n 0, 1) := by decide +kernel
theorem dX7_allAskedBy_5 : decode cX7_allAskedBy 5 = .ok (.getfield 41, 3) := by decide +kernel
theorem dX7_allAskedBy_8 : decode cX7_allAskedBy 8 = .ok (.iconst 1, 1) := by decide +kernel
theorem dX7_allAskedBy_9 : decode cX7_allAskedBy 9 = .ok (.dup2, 1) := by decide +kernel
theorem dX7_allAskedBy_10 : decode cX7_allAskedBy 10 = .ok (.iaload, 1) := by decide +kernel
theorem dX7_allAskedBy_11 : decode cX7_allAskedBy 11 = .ok (.iload_n 1, 1) := by decide +kernel
theorem dX7_allAskedBy_12 : decode cX7_allAskedBy 12 = .ok (.ior, 1) := by decide +kernel
theorem dX7_allAskedBy_13 : decode cX7_allAskedBy 13 = .ok (.iastore, 1) := by decide +kernel
theorem dX7_allAskedBy_14 : decode cX7_allAskedBy 14 = .ok (.iconst 0, 1) := by decide +kernel
theorem dX7_allAskedBy_15 : decode cX7_allAskedBy 15 = .ok (.istore_n 3, 1) := by decide +kernel
theorem dX7_allAskedBy_16 : decode cX7_allAskedBy 16 = .ok (.iload_n 3, 1) := by decide +kernel
theorem dX7_allAskedBy_17 : decode cX7_allAskedBy 17 = .ok (.iload_n 2, 1) := by decide +kernel
theorem dX7_allAskedBy_18 : decode cX7_allAskedBy 18 = .ok (.if_icmp .ge 15, 3) := by decide +kernel
theorem dX7_allAskedBy_21 : decode cX7_allAskedBy 21 = .ok (.aload_n 0, 1) := by decide +kernel
theorem dX7_allAskedBy_22 : decode cX7_allAskedBy 22 = .ok (.iconst 1, 1) := by decide +kernel
theorem dX7_allAskedBy_23 : decode cX7_allAskedBy 23 = .ok (.invokevirtual 136, 3) := by decide +kernel
theorem dX7_allAskedBy_26 : decode cX7_allAskedBy 26 = .ok (.pop, 1) := by decide +kernel
theorem dX7_allAskedBy_27 : decode cX7_allAskedBy 27 = .ok (.iinc 3 1, 3) := by decide +kernel
theorem dX7_allAskedBy_30 : decode cX7_allAskedBy 30 = .ok (.goto (-14), 3) := by decide +kernel
theorem dX7_allAskedBy_33 : decode cX7_allAskedBy 33 = .ok (.aload_n 0, 1) := by decide +kernel
theorem dX7_allAskedBy_34 : decode cX7_allAskedBy 34 = .ok (.getfield 41, 3) := by decide +kernel
theorem dX7_allAskedBy_37 : decode cX7_allAskedBy 37 = .ok (.iconst 1, 1) := by decide +kernel
theorem dX7_allAskedBy_38 : decode cX7_allAskedBy 38 = .ok (.iaload, 1) := by decide +kernel
theorem dX7_allAskedBy_39 : decode cX7_allAskedBy 39 = .ok (.iconst 1, 1) := by decide +kernel
theorem dX7_allAskedBy_40 : decode cX7_allAskedBy 40 = .ok (.aload_n 0, 1) := by decide +kernel
theorem dX7_allAskedBy_41 : decode cX7_allAskedBy 41 = .ok (.getfield 47, 3) := by decide +kernel
theorem dX7_allAskedBy_44 : decode cX7_allAskedBy 44 = .ok (.ishl, 1) := by decide +kernel
theorem dX7_allAskedBy_45 : decode cX7_allAskedBy 45 = .ok (.iconst 1, 1) := by decide +kernel
theorem dX7_allAskedBy_46 : decode cX7_allAskedBy 46 = .ok (.isub, 1) := by decide +kernel
theorem dX7_allAskedBy_47 : decode cX7_allAskedBy 47 = .ok (.if_icmp .ne 7, 3) := by decide +kernel
theorem dX7_allAskedBy_50 : decode cX7_allAskedBy 50 = .ok (.iconst 1, 1) := by decide +kernel
theorem dX7_allAskedBy_51 : decode cX7_allAskedBy 51 = .ok (.goto 4, 3) := by decide +kernel
theorem dX7_allAskedBy_54 : decode cX7_allAskedBy 54 = .ok (.iconst 0, 1) := by decide +kernel
theorem dX7_allAskedBy_55 : decode cX7_allAskedBy 55 = .ok (.ireturn, 1) := by decide +kernel
theorem dX7_start_0 : decode cX7_start 0 = .ok (.iload_n 1, 1) := by decide +kernel
theorem dX7_start_1 : decode cX7_start 1 = .ok (.iconst 0, 1) := by decide +kernel
theorem dX7_start_2 : decode cX7_start 2 = .ok (.bipush 20, 2) := by decide +kernel
theorem dX7_start_4 : decode cX7_start 4 = .ok (.invokestatic 51, 3) := by decide +kernel
theorem dX7_start_7 : decode cX7_start 7 = .ok (.ifCond .ne 5, 3) := by decide +kernel
theorem dX7_start_10 : decode cX7_start 10 = .ok (.iconst (-1), 1) := by decide +kernel
theorem dX7_start_11 : decode cX7_start 11 = .ok (.ireturn, 1) := by decide +kernel
theorem dX7_start_12 : decode cX7_start 12 = .ok (.iconst 1, 1) := by decide +kernel
theorem dX7_start_13 : decode cX7_start 13 = .ok (.aload_n 0, 1) := by decide +kernel
theorem dX7_start_14 : decode cX7_start 14 = .ok (.getfield 47, 3) := by decide +kernel
theorem dX7_start_17 : decode cX7_start 17 = .ok (.ishl, 1) := by decide +kernel
theorem dX7_start_18 : decode cX7_start 18 = .ok (.iconst 1, 1) := by decide +kernel
theorem dX7_start_19 : decode cX7_start 19 = .ok (.isub, 1) := by decide +kernel
theorem dX7_start_20 : decode cX7_start 20 = .ok (.aload_n 0, 1) := by decide +kernel
theorem dX7_start_21 : decode cX7_start 21 = .ok (.getfield 19, 3) := by decide +kernel
theorem dX7_start_24 : decode cX7_start 24 = .ok (.iconst 1, 1) := by decide +kernel
theorem dX7_start_25 : decode cX7_start 25 = .ok (.iaload, 1) := by decide +kernel
theorem dX7_start_26 : decode cX7_start 26 = .ok (.iconst (-1), 1) := by decide +kernel
theorem dX7_start_27 : decode cX7_start 27 = .ok (.ixor, 1) := by decide +kernel
theorem dX7_start_28 : decode cX7_start 28 = .ok (.iand, 1) := by decide +kernel
theorem dX7_start_29 : decode cX7_start 29 = .ok (.istore_n 2, 1) := by decide +kernel
theorem dX7_start_30 : decode cX7_start 30 = .ok (.iconst 0, 1) := by decide +kernel
theorem dX7_start_31 : decode cX7_start 31 = .ok (.istore_n 3, 1) := by decide +kernel
theorem dX7_start_32 : decode cX7_start 32 = .ok (.iload_n 3, 1) := by decide +kernel
theorem dX7_start_33 : decode cX7_start 33 = .ok (.iconst 1, 1) := by decide +kernel
theorem dX7_start_34 : decode cX7_start 34 = .ok (.aload_n 0, 1) := by decide +kernel
theorem dX7_start_35 : decode cX7_start 35 = .ok (.getfield 47, 3) := by decide +kernel
theorem dX7_start_38 : decode cX7_start 38 = .ok (.ishl, 1) := by decide +kernel
theorem dX7_start_39 : decode cX7_start 39 = .ok (.if_icmp .ge 73, 3) := by decide +kernel
theorem dX7_start_42 : decode cX7_start 42 = .ok (.iload_n 3, 1) := by decide +kernel
theorem dX7_start_43 : decode cX7_start 43 = .ok (.invokestatic 114, 3) := by decide +kernel
theorem dX7_start_46 : decode cX7_start 46 = .ok (.iload_n 2, 1) := by decide +kernel
theorem dX7_start_47 : decode cX7_start 47 = .ok (.invokestatic 114, 3) := by decide +kernel
theorem dX7_start_50 : decode cX7_start 50 = .ok (.isub, 1) := by decide +kernel
theorem dX7_start_51 : decode cX7_start 51 = .ok (.istore 4, 2) := by decide +kernel
theorem dX7_start_53 : decode cX7_start 53 = .ok (.iload 4, 2) := by decide +kernel
theorem dX7_start_55 : decode cX7_start 55 = .ok (.ifCond .lt 13, 3) := by decide +kernel
theorem dX7_start_58 : decode cX7_start 58 = .ok (.iload 4, 2) := by decide +kernel
theorem dX7_start_60 : decode cX7_start 60 = .ok (.ifCond .ne 12, 3) := by decide +kernel
theorem dX7_start_63 : decode cX7_start 63 = .ok (.iload_n 3, 1) := by decide +kernel
theorem dX7_start_64 : decode cX7_start 64 = .ok (.iload_n 2, 1) := by decide +kernel
theorem dX7_start_65 : decode cX7_start 65 = .ok (.if_icmp .ge 7, 3) := by decide +kernel
theorem dX7_start_68 : decode cX7_start 68 = .ok (.iconst 1, 1) := by decide +kernel
theorem dX7_start_69 : decode cX7_start 69 = .ok (.goto 4, 3) := by decide +kernel
theorem dX7_start_72 : decode cX7_start 72 = .ok (.iconst 0, 1) := by decide +kernel
theorem dX7_start_73 : decode cX7_start 73 = .ok (.istore 5, 2) := by decide +kernel
theorem dX7_start_75 : decode cX7_start 75 = .ok (.iload 5, 2) := by decide +kernel
theorem dX7_start_77 : decode cX7_start 77 = .ok (.ifCond .eq 27, 3) := by decide +kernel
theorem dX7_start_80 : decode cX7_start 80 = .ok (.iload_n 3, 1) := by decide +kernel
theorem dX7_start_81 : decode cX7_start 81 = .ok (.aload_n 0, 1) := by decide +kernel
theorem dX7_start_82 : decode cX7_start 82 = .ok (.getfield 19, 3) := by decide +kernel
theorem dX7_start_85 : decode cX7_start 85 = .ok (.iconst 1, 1) := by decide +kernel
theorem dX7_start_86 : decode cX7_start 86 = .ok (.iaload, 1) := by decide +kernel
theorem dX7_start_87 : decode cX7_start 87 = .ok (.iand, 1) := by decide +kernel
theorem dX7_start_88 : decode cX7_start 88 = .ok (.ifCond .ne 16, 3) := by decide +kernel
theorem dX7_start_91 : decode cX7_start 91 = .ok (.aload_n 0, 1) := by decide +kernel
theorem dX7_start_92 : decode cX7_start 92 = .ok (.iload_n 3, 1) := by decide +kernel
theorem dX7_start_93 : decode cX7_start 93 = .ok (.iload_n 1, 1) := by decide +kernel
theorem dX7_start_94 : decode cX7_start 94 = .ok (.invokevirtual 161, 3) := by decide +kernel
theorem dX7_start_97 : decode cX7_start 97 = .ok (.ifCond .eq 7, 3) := by decide +kernel
theorem dX7_start_100 : decode cX7_start 100 = .ok (.iload_n 3, 1) := by decide +kernel
theorem dX7_start_101 : decode cX7_start 101 = .ok (.goto 4, 3) := by decide +kernel
theorem dX7_start_104 : decode cX7_start 104 = .ok (.iload_n 2, 1) := by decide +kernel
theorem dX7_start_105 : decode cX7_start 105 = .ok (.istore_n 2, 1) := by decide +kernel
theorem dX7_start_106 : decode cX7_start 106 = .ok (.iinc 3 1, 3) := by decide +kernel
theorem dX7_start_109 : decode cX7_start 109 = .ok (.goto (-77), 3) := by decide +kernel
theorem dX7_start_112 : decode cX7_start 112 = .ok (.iload_n 2, 1) := by decide +kernel
theorem dX7_start_113 : decode cX7_start 113 = .ok (.ireturn, 1) := by decide +kernel
theorem dX7_far_0 : decode cX7_far 0 = .ok (.iload_n 0, 1) := by decide +kernel
theorem dX7_far_1 : decode cX7_far 1 = .ok (.iload_n 1, 1) := by decide +kernel
theorem dX7_far_2 : decode cX7_far 2 = .ok (.if_icmp .ge 9, 3) := by decide +kernel
theorem dX7_far_5 : decode cX7_far 5 = .ok (.iload_n 1, 1) := by decide +kernel
theorem dX7_far_6 : decode cX7_far 6 = .ok (.iload_n 0, 1) := by decide +kernel
theorem dX7_far_7 : decode cX7_far 7 = .ok (.isub, 1) := by decide +kernel
theorem dX7_far_8 : decode cX7_far 8 = .ok (.goto 6, 3) := by decide +kernel
theorem dX7_far_11 : decode cX7_far 11 = .ok (.iload_n 0, 1) := by decide +kernel
theorem dX7_far_12 : decode cX7_far 12 = .ok (.iload_n 1, 1) := by decide +kernel
theorem dX7_far_13 : decode cX7_far 13 = .ok (.isub, 1) := by decide +kernel
theorem dX7_far_14 : decode cX7_far 14 = .ok (.ireturn, 1) := by decide +kernel
theorem dX7_farBy_0 : decode cX7_farBy 0 = .ok (.iload_n 1, 1) := by decide +kernel
theorem dX7_farBy_1 : decode cX7_farBy 1 = .ok (.istore_n 2, 1) := by decide +kernel
theorem dX7_farBy_2 : decode cX7_farBy 2 = .ok (.iconst 0, 1) := by decide +kernel
theorem dX7_farBy_3 : decode cX7_farBy 3 = .ok (.istore_n 3, 1) := by decide +kernel
theorem dX7_farBy_4 : decode cX7_farBy 4 = .ok (.iconst 0, 1) := by decide +kernel
theorem dX7_farBy_5 : decode cX7_farBy 5 = .ok (.istore 4, 2) := by decide +kernel
theorem dX7_farBy_7 : decode cX7_farBy 7 = .ok (.iconst 1, 1) := by decide +kernel
theorem dX7_farBy_8 : decode cX7_farBy 8 = .ok (.istore 5, 2) := by decide +kernel
theorem dX7_farBy_10 : decode cX7_farBy 10 = .ok (.aload_n 0, 1) := by decide +kernel
theorem dX7_farBy_11 : decode cX7_farBy 11 = .ok (.getfield 47, 3) := by decide +kernel
theorem dX7_farBy_14 : decode cX7_farBy 14 = .ok (.iconst 1, 1) := by decide +kernel
theorem dX7_farBy_15 : decode cX7_farBy 15 = .ok (.isub, 1) := by decide +kernel
theorem dX7_farBy_16 : decode cX7_farBy 16 = .ok (.istore 6, 2) := by decide +kernel
theorem dX7_farBy_18 : decode cX7_farBy 18 = .ok (.iload 6, 2) := by decide +kernel
theorem dX7_farBy_20 : decode cX7_farBy 20 = .ok (.ifCond .lt 104, 3) := by decide +kernel
theorem dX7_farBy_23 : decode cX7_farBy 23 = .ok (.iload_n 2, 1) := by decide +kernel
theorem dX7_farBy_24 : decode cX7_farBy 24 = .ok (.bipush 6, 2) := by decide +kernel
theorem dX7_farBy_26 : decode cX7_farBy 26 = .ok (.irem, 1) := by decide +kernel
theorem dX7_farBy_27 : decode cX7_farBy 27 = .ok (.istore 7, 2) := by decide +kernel
theorem dX7_farBy_29 : decode cX7_farBy 29 = .ok (.iload_n 2, 1) := by decide +kernel
theorem dX7_farBy_30 : decode cX7_farBy 30 = .ok (.bipush 6, 2) := by decide +kernel
theorem dX7_farBy_32 : decode cX7_farBy 32 = .ok (.idiv, 1) := by decide +kernel
theorem dX7_farBy_33 : decode cX7_farBy 33 = .ok (.istore_n 2, 1) := by decide +kernel
theorem dX7_farBy_34 : decode cX7_farBy 34 = .ok (.aload_n 0, 1) := by decide +kernel
theorem dX7_farBy_35 : decode cX7_farBy 35 = .ok (.getfield 44, 3) := by decide +kernel
theorem dX7_farBy_38 : decode cX7_farBy 38 = .ok (.iload 6, 2) := by decide +kernel
theorem dX7_farBy_40 : decode cX7_farBy 40 = .ok (.iload 7, 2) := by decide +kernel
theorem dX7_farBy_42 : decode cX7_farBy 42 = .ok (.iastore, 1) := by decide +kernel
theorem dX7_farBy_43 : decode cX7_farBy 43 = .ok (.iload 5, 2) := by decide +kernel
theorem dX7_farBy_45 : decode cX7_farBy 45 = .ok (.ifCond .eq 32, 3) := by decide +kernel
theorem dX7_farBy_48 : decode cX7_farBy 48 = .ok (.aload_n 0, 1) := by decide +kernel
theorem dX7_farBy_49 : decode cX7_farBy 49 = .ok (.iload 7, 2) := by decide +kernel
theorem dX7_farBy_51 : decode cX7_farBy 51 = .ok (.invokevirtual 143, 3) := by decide +kernel
theorem dX7_farBy_54 : decode cX7_farBy 54 = .ok (.ifCond .eq 23, 3) := by decide +kernel
theorem dX7_farBy_57 : decode cX7_farBy 57 = .ok (.iload 7, 2) := by decide +kernel
theorem dX7_farBy_59 : decode cX7_farBy 59 = .ok (.iload 6, 2) := by decide +kernel
theorem dX7_farBy_61 : decode cX7_farBy 61 = .ok (.if_icmp .eq 16, 3) := by decide +kernel
theorem dX7_farBy_64 : decode cX7_farBy 64 = .ok (.iload_n 3, 1) := by decide +kernel
theorem dX7_farBy_65 : decode cX7_farBy 65 = .ok (.iload 7, 2) := by decide +kernel
theorem dX7_farBy_67 : decode cX7_farBy 67 = .ok (.invokestatic 117, 3) := by decide +kernel
theorem dX7_farBy_70 : decode cX7_farBy 70 = .ok (.ifCond .ne 7, 3) := by decide +kernel
theorem dX7_farBy_73 : decode cX7_farBy 73 = .ok (.iconst 1, 1) := by decide +kernel
theorem dX7_farBy_74 : decode cX7_farBy 74 = .ok (.goto 4, 3) := by decide +kernel
theorem dX7_farBy_77 : decode cX7_farBy 77 = .ok (.iconst 0, 1) := by decide +kernel
theorem dX7_farBy_78 : decode cX7_farBy 78 = .ok (.istore 5, 2) := by decide +kernel
theorem dX7_farBy_80 : decode cX7_farBy 80 = .ok (.iload_n 3, 1) := by decide +kernel
theorem dX7_farBy_81 : decode cX7_farBy 81 = .ok (.iconst 1, 1) := by decide +kernel
theorem dX7_farBy_82 : decode cX7_farBy 82 = .ok (.iload 7, 2) := by decide +kernel
theorem dX7_farBy_84 : decode cX7_farBy 84 = .ok (.ishl, 1) := by decide +kernel
theorem dX7_farBy_85 : decode cX7_farBy 85 = .ok (.ior, 1) := by decide +kernel
theorem dX7_farBy_86 : decode cX7_farBy 86 = .ok (.istore_n 3, 1) := by decide +kernel
theorem dX7_farBy_87 : decode cX7_farBy 87 = .ok (.iload 4, 2) := by decide +kernel
theorem dX7_farBy_89 : decode cX7_farBy 89 = .ok (.iload 5, 2) := by decide +kernel
theorem dX7_farBy_91 : decode cX7_farBy 91 = .ok (.ifCond .eq 23, 3) := by decide +kernel
theorem dX7_farBy_94 : decode cX7_farBy 94 = .ok (.aload_n 0, 1) := by decide +kernel
theorem dX7_farBy_95 : decode cX7_farBy 95 = .ok (.getfield 7, 3) := by decide +kernel
theorem dX7_farBy_98 : decode cX7_farBy 98 = .ok (.iload 6, 2) := by decide +kernel
theorem dX7_farBy_100 : decode cX7_farBy 100 = .ok (.iaload, 1) := by decide +kernel
theorem dX7_farBy_101 : decode cX7_farBy 101 = .ok (.aload_n 0, 1) := by decide +kernel
theorem dX7_farBy_102 : decode cX7_farBy 102 = .ok (.getfield 7, 3) := by decide +kernel
theorem dX7_farBy_105 : decode cX7_farBy 105 = .ok (.iload 7, 2) := by decide +kernel
theorem dX7_farBy_107 : decode cX7_farBy 107 = .ok (.iaload, 1) := by decide +kernel
theorem dX7_farBy_108 : decode cX7_farBy 108 = .ok (.invokestatic 164, 3) := by decide +kernel
theorem dX7_farBy_111 : decode cX7_farBy 111 = .ok (.goto 4, 3) := by decide +kernel
theorem dX7_farBy_114 : decode cX7_farBy 114 = .ok (.iconst 0, 1) := by decide +kernel
theorem dX7_farBy_115 : decode cX7_farBy 115 = .ok (.iadd, 1) := by decide +kernel
theorem dX7_farBy_116 : decode cX7_farBy 116 = .ok (.istore 4, 2) := by decide +kernel
theorem dX7_farBy_118 : decode cX7_farBy 118 = .ok (.iinc 6 (-1), 3) := by decide +kernel
theorem dX7_farBy_121 : decode cX7_farBy 121 = .ok (.goto (-103), 3) := by decide +kernel
theorem dX7_farBy_124 : decode cX7_farBy 124 = .ok (.iload 5, 2) := by decide +kernel
theorem dX7_farBy_126 : decode cX7_farBy 126 = .ok (.ifCond .eq 8, 3) := by decide +kernel
theorem dX7_farBy_129 : decode cX7_farBy 129 = .ok (.iload 4, 2) := by decide +kernel
theorem dX7_farBy_131 : decode cX7_farBy 131 = .ok (.goto 4, 3) := by decide +kernel
theorem dX7_farBy_134 : decode cX7_farBy 134 = .ok (.iconst (-1), 1) := by decide +kernel
theorem dX7_farBy_135 : decode cX7_farBy 135 = .ok (.ireturn, 1) := by decide +kernel
theorem dX7_hang_0 : decode cX7_hang 0 = .ok (.iload_n 1, 1) := by decide +kernel
theorem dX7_hang_1 : decode cX7_hang 1 = .ok (.iconst (-1), 1) := by decide +kernel
theorem dX7_hang_2 : decode cX7_hang 2 = .ok (.aload_n 0, 1) := by decide +kernel
theorem dX7_hang_3 : decode cX7_hang 3 = .ok (.getfield 47, 3) := by decide +kernel
theorem dX7_hang_6 : decode cX7_hang 6 = .ok (.iconst 1, 1) := by decide +kernel
theorem dX7_hang_7 : decode cX7_hang 7 = .ok (.isub, 1) := by decide +kernel
theorem dX7_hang_8 : decode cX7_hang 8 = .ok (.invokestatic 51, 3) := by decide +kernel
theorem dX7_hang_11 : decode cX7_hang 11 = .ok (.ifCond .ne 5, 3) := by decide +kernel
theorem dX7_hang_14 : decode cX7_hang 14 = .ok (.iconst (-1), 1) := by decide +kernel
theorem dX7_hang_15 : decode cX7_hang 15 = .ok (.ireturn, 1) := by decide +kernel
theorem dX7_hang_16 : decode cX7_hang 16 = .ok (.iconst 1, 1) := by decide +kernel
theorem dX7_hang_17 : decode cX7_hang 17 = .ok (.istore_n 2, 1) := by decide +kernel
theorem dX7_hang_18 : decode cX7_hang 18 = .ok (.iconst 0, 1) := by decide +kernel
theorem dX7_hang_19 : decode cX7_hang 19 = .ok (.istore_n 3, 1) := by decide +kernel
theorem dX7_hang_20 : decode cX7_hang 20 = .ok (.iload_n 3, 1) := by decide +kernel
theorem dX7_hang_21 : decode cX7_hang 21 = .ok (.aload_n 0, 1) := by decide +kernel
theorem dX7_hang_22 : decode cX7_hang 22 = .ok (.getfield 47, 3) := by decide +kernel
theorem dX7_hang_25 : decode cX7_hang 25 = .ok (.if_icmp .ge 14, 3) := by decide +kernel
theorem dX7_hang_28 : decode cX7_hang 28 = .ok (.iload_n 2, 1) := by decide +kernel
theorem dX7_hang_29 : decode cX7_hang 29 = .ok (.bipush 6, 2) := by decide +kernel
theorem dX7_hang_31 : decode cX7_hang 31 = .ok (.imul, 1) := by decide +kernel
theorem dX7_hang_32 : decode cX7_hang 32 = .ok (.istore_n 2, 1) := by decide +kernel
theorem dX7_hang_33 : decode cX7_hang 33 = .ok (.iinc 3 1, 3) := by decide +kernel
theorem dX7_hang_36 : decode cX7_hang 36 = .ok (.goto (-16), 3) := by decide +kernel
theorem dX7_hang_39 : decode cX7_hang 39 = .ok (.bipush (-9), 2) := by decide +kernel
theorem dX7_hang_41 : decode cX7_hang 41 = .ok (.istore_n 3, 1) := by decide +kernel
theorem dX7_hang_42 : decode cX7_hang 42 = .ok (.iconst 0, 1) := by decide +kernel
theorem dX7_hang_43 : decode cX7_hang 43 = .ok (.istore 4, 2) := by decide +kernel
theorem dX7_hang_45 : decode cX7_hang 45 = .ok (.iconst 0, 1) := by decide +kernel
theorem dX7_hang_46 : decode cX7_hang 46 = .ok (.istore 5, 2) := by decide +kernel
theorem dX7_hang_48 : decode cX7_hang 48 = .ok (.iload 5, 2) := by decide +kernel
theorem dX7_hang_50 : decode cX7_hang 50 = .ok (.iload_n 2, 1) := by decide +kernel
theorem dX7_hang_51 : decode cX7_hang 51 = .ok (.if_icmp .ge 72, 3) := by decide +kernel
theorem dX7_hang_54 : decode cX7_hang 54 = .ok (.aload_n 0, 1) := by decide +kernel
theorem dX7_hang_55 : decode cX7_hang 55 = .ok (.getfield 47, 3) := by decide +kernel
theorem dX7_hang_58 : decode cX7_hang 58 = .ok (.ifCond .le 65, 3) := by decide +kernel
theorem dX7_hang_61 : decode cX7_hang 61 = .ok (.aload_n 0, 1) := by decide +kernel
theorem dX7_hang_62 : decode cX7_hang 62 = .ok (.iload 5, 2) := by decide +kernel
theorem dX7_hang_64 : decode cX7_hang 64 = .ok (.invokevirtual 167, 3) := by decide +kernel
theorem dX7_hang_67 : decode cX7_hang 67 = .ok (.istore 6, 2) := by decide +kernel
theorem dX7_hang_69 : decode cX7_hang 69 = .ok (.iload 6, 2) := by decide +kernel
theorem dX7_hang_71 : decode cX7_hang 71 = .ok (.ifCond .lt 17, 3) := by decide +kernel
theorem dX7_hang_74 : decode cX7_hang 74 = .ok (.iload_n 3, 1) := by decide +kernel
theorem dX7_hang_75 : decode cX7_hang 75 = .ok (.ifCond .lt 9, 3) := by decide +kernel
theorem dX7_hang_78 : decode cX7_hang 78 = .ok (.iload 6, 2) := by decide +kernel
theorem dX7_hang_80 : decode cX7_hang 80 = .ok (.iload_n 3, 1) := by decide +kernel
theorem dX7_hang_81 : decode cX7_hang 81 = .ok (.if_icmp .ge 7, 3) := by decide +kernel
theorem dX7_hang_84 : decode cX7_hang 84 = .ok (.iconst 1, 1) := by decide +kernel
theorem dX7_hang_85 : decode cX7_hang 85 = .ok (.goto 4, 3) := by decide +kernel
theorem dX7_hang_88 : decode cX7_hang 88 = .ok (.iconst 0, 1) := by decide +kernel
theorem dX7_hang_89 : decode cX7_hang 89 = .ok (.istore 7, 2) := by decide +kernel
theorem dX7_hang_91 : decode cX7_hang 91 = .ok (.iload 7, 2) := by decide +kernel
theorem dX7_hang_93 : decode cX7_hang 93 = .ok (.ifCond .eq 8, 3) := by decide +kernel
theorem dX7_hang_96 : decode cX7_hang 96 = .ok (.iload 5, 2) := by decide +kernel
theorem dX7_hang_98 : decode cX7_hang 98 = .ok (.goto 5, 3) := by decide +kernel
theorem dX7_hang_101 : decode cX7_hang 101 = .ok (.iload 4, 2) := by decide +kernel
theorem dX7_hang_103 : decode cX7_hang 103 = .ok (.istore 4, 2) := by decide +kernel
theorem dX7_hang_105 : decode cX7_hang 105 = .ok (.iload 7, 2) := by decide +kernel
theorem dX7_hang_107 : decode cX7_hang 107 = .ok (.ifCond .eq 8, 3) := by decide +kernel
theorem dX7_hang_110 : decode cX7_hang 110 = .ok (.iload 6, 2) := by decide +kernel
theorem dX7_hang_112 : decode cX7_hang 112 = .ok (.goto 4, 3) := by decide +kernel
theorem dX7_hang_115 : decode cX7_hang 115 = .ok (.iload_n 3, 1) := by decide +kernel
theorem dX7_hang_116 : decode cX7_hang 116 = .ok (.istore_n 3, 1) := by decide +kernel
theorem dX7_hang_117 : decode cX7_hang 117 = .ok (.iinc 5 1, 3) := by decide +kernel
theorem dX7_hang_120 : decode cX7_hang 120 = .ok (.goto (-72), 3) := by decide +kernel
theorem dX7_hang_123 : decode cX7_hang 123 = .ok (.iload_n 1, 1) := by decide +kernel
theorem dX7_hang_124 : decode cX7_hang 124 = .ok (.ifCond .ge 5, 3) := by decide +kernel
theorem dX7_hang_127 : decode cX7_hang 127 = .ok (.iload_n 3, 1) := by decide +kernel
theorem dX7_hang_128 : decode cX7_hang 128 = .ok (.ireturn, 1) := by decide +kernel
theorem dX7_hang_129 : decode cX7_hang 129 = .ok (.aload_n 0, 1) := by decide +kernel
theorem dX7_hang_130 : decode cX7_hang 130 = .ok (.iload 4, 2) := by decide +kernel
theorem dX7_hang_132 : decode cX7_hang 132 = .ok (.invokevirtual 167, 3) := by decide +kernel
theorem dX7_hang_135 : decode cX7_hang 135 = .ok (.pop, 1) := by decide +kernel
theorem dX7_hang_136 : decode cX7_hang 136 = .ok (.aload_n 0, 1) := by decide +kernel
theorem dX7_hang_137 : decode cX7_hang 137 = .ok (.getfield 44, 3) := by decide +kernel
theorem dX7_hang_140 : decode cX7_hang 140 = .ok (.iload_n 1, 1) := by decide +kernel
theorem dX7_hang_141 : decode cX7_hang 141 = .ok (.iaload, 1) := by decide +kernel
theorem dX7_hang_142 : decode cX7_hang 142 = .ok (.ireturn, 1) := by decide +kernel
theorem dX7_lowest_0 : decode cX7_lowest 0 = .ok (.iload_n 0, 1) := by decide +kernel
theorem dX7_lowest_1 : decode cX7_lowest 1 = .ok (.istore_n 3, 1) := by decide +kernel
theorem dX7_lowest_2 : decode cX7_lowest 2 = .ok (.iload_n 1, 1) := by decide +kernel
theorem dX7_lowest_3 : decode cX7_lowest 3 = .ok (.istore 4, 2) := by decide +kernel
theorem dX7_lowest_5 : decode cX7_lowest 5 = .ok (.iload 4, 2) := by decide +kernel
theorem dX7_lowest_7 : decode cX7_lowest 7 = .ok (.ifCond .le 19, 3) := by decide +kernel
theorem dX7_lowest_10 : decode cX7_lowest 10 = .ok (.iload_n 3, 1) := by decide +kernel
theorem dX7_lowest_11 : decode cX7_lowest 11 = .ok (.iload 4, 2) := by decide +kernel
theorem dX7_lowest_13 : decode cX7_lowest 13 = .ok (.irem, 1) := by decide +kernel
theorem dX7_lowest_14 : decode cX7_lowest 14 = .ok (.istore 5, 2) := by decide +kernel
theorem dX7_lowest_16 : decode cX7_lowest 16 = .ok (.iload 4, 2) := by decide +kernel
theorem dX7_lowest_18 : decode cX7_lowest 18 = .ok (.istore_n 3, 1) := by decide +kernel
theorem dX7_lowest_19 : decode cX7_lowest 19 = .ok (.iload 5, 2) := by decide +kernel
theorem dX7_lowest_21 : decode cX7_lowest 21 = .ok (.istore 4, 2) := by decide +kernel
theorem dX7_lowest_23 : decode cX7_lowest 23 = .ok (.goto (-18), 3) := by decide +kernel
theorem dX7_lowest_26 : decode cX7_lowest 26 = .ok (.iload_n 2, 1) := by decide +kernel
theorem dX7_lowest_27 : decode cX7_lowest 27 = .ok (.ifCond .ne 7, 3) := by decide +kernel
theorem dX7_lowest_30 : decode cX7_lowest 30 = .ok (.iload_n 0, 1) := by decide +kernel
theorem dX7_lowest_31 : decode cX7_lowest 31 = .ok (.goto 4, 3) := by decide +kernel
theorem dX7_lowest_34 : decode cX7_lowest 34 = .ok (.iload_n 1, 1) := by decide +kernel
theorem dX7_lowest_35 : decode cX7_lowest 35 = .ok (.iload_n 3, 1) := by decide +kernel
theorem dX7_lowest_36 : decode cX7_lowest 36 = .ok (.idiv, 1) := by decide +kernel
theorem dX7_lowest_37 : decode cX7_lowest 37 = .ok (.ireturn, 1) := by decide +kernel
theorem dX7_odds_0 : decode cX7_odds 0 = .ok (.aload_n 0, 1) := by decide +kernel
theorem dX7_odds_1 : decode cX7_odds 1 = .ok (.iload_n 1, 1) := by decide +kernel
theorem dX7_odds_2 : decode cX7_odds 2 = .ok (.invokevirtual 143, 3) := by decide +kernel
theorem dX7_odds_5 : decode cX7_odds 5 = .ok (.ifCond .eq 33, 3) := by decide +kernel
theorem dX7_odds_8 : decode cX7_odds 8 = .ok (.iload_n 2, 1) := by decide +kernel
theorem dX7_odds_9 : decode cX7_odds 9 = .ok (.iconst 0, 1) := by decide +kernel
theorem dX7_odds_10 : decode cX7_odds 10 = .ok (.bipush 10, 2) := by decide +kernel
theorem dX7_odds_12 : decode cX7_odds 12 = .ok (.invokestatic 51, 3) := by decide +kernel
theorem dX7_odds_15 : decode cX7_odds 15 = .ok (.ifCond .eq 23, 3) := by decide +kernel
theorem dX7_odds_18 : decode cX7_odds 18 = .ok (.iload_n 3, 1) := by decide +kernel
theorem dX7_odds_19 : decode cX7_odds 19 = .ok (.iconst 0, 1) := by decide +kernel
theorem dX7_odds_20 : decode cX7_odds 20 = .ok (.bipush 8, 2) := by decide +kernel
theorem dX7_odds_22 : decode cX7_odds 22 = .ok (.invokestatic 51, 3) := by decide +kernel
theorem dX7_odds_25 : decode cX7_odds 25 = .ok (.ifCond .eq 13, 3) := by decide +kernel
theorem dX7_odds_28 : decode cX7_odds 28 = .ok (.iload 4, 2) := by decide +kernel
theorem dX7_odds_30 : decode cX7_odds 30 = .ok (.iconst 0, 1) := by decide +kernel
theorem dX7_odds_31 : decode cX7_odds 31 = .ok (.iconst 1, 1) := by decide +kernel
theorem dX7_odds_32 : decode cX7_odds 32 = .ok (.invokestatic 51, 3) := by decide +kernel
theorem dX7_odds_35 : decode cX7_odds 35 = .ok (.ifCond .ne 5, 3) := by decide +kernel
theorem dX7_odds_38 : decode cX7_odds 38 = .ok (.iconst (-1), 1) := by decide +kernel
theorem dX7_odds_39 : decode cX7_odds 39 = .ok (.ireturn, 1) := by decide +kernel
theorem dX7_odds_40 : decode cX7_odds 40 = .ok (.iconst 0, 1) := by decide +kernel
theorem dX7_odds_41 : decode cX7_odds 41 = .ok (.istore 5, 2) := by decide +kernel
theorem dX7_odds_43 : decode cX7_odds 43 = .ok (.iconst 1, 1) := by decide +kernel
theorem dX7_odds_44 : decode cX7_odds 44 = .ok (.istore 6, 2) := by decide +kernel
theorem dX7_odds_46 : decode cX7_odds 46 = .ok (.iconst 0, 1) := by decide +kernel
theorem dX7_odds_47 : decode cX7_odds 47 = .ok (.istore 7, 2) := by decide +kernel
theorem dX7_odds_49 : decode cX7_odds 49 = .ok (.iload 7, 2) := by decide +kernel
theorem dX7_odds_51 : decode cX7_odds 51 = .ok (.iload_n 3, 1) := by decide +kernel
theorem dX7_odds_52 : decode cX7_odds 52 = .ok (.if_icmp .ge 16, 3) := by decide +kernel
theorem dX7_odds_55 : decode cX7_odds 55 = .ok (.iload 6, 2) := by decide +kernel
theorem dX7_odds_57 : decode cX7_odds 57 = .ok (.bipush 10, 2) := by decide +kernel
theorem dX7_odds_59 : decode cX7_odds 59 = .ok (.imul, 1) := by decide +kernel
theorem dX7_odds_60 : decode cX7_odds 60 = .ok (.istore 6, 2) := by decide +kernel
theorem dX7_odds_62 : decode cX7_odds 62 = .ok (.iinc 7 1, 3) := by decide +kernel
theorem dX7_odds_65 : decode cX7_odds 65 = .ok (.goto (-16), 3) := by decide +kernel
theorem dX7_odds_68 : decode cX7_odds 68 = .ok (.iconst 0, 1) := by decide +kernel
theorem dX7_odds_69 : decode cX7_odds 69 = .ok (.istore 7, 2) := by decide +kernel
theorem dX7_odds_71 : decode cX7_odds 71 = .ok (.iload 7, 2) := by decide +kernel
theorem dX7_odds_73 : decode cX7_odds 73 = .ok (.iconst 1, 1) := by decide +kernel
theorem dX7_odds_74 : decode cX7_odds 74 = .ok (.iload_n 3, 1) := by decide +kernel
theorem dX7_odds_75 : decode cX7_odds 75 = .ok (.ishl, 1) := by decide +kernel
theorem dX7_odds_76 : decode cX7_odds 76 = .ok (.if_icmp .ge 77, 3) := by decide +kernel
theorem dX7_odds_79 : decode cX7_odds 79 = .ok (.iconst 1, 1) := by decide +kernel
theorem dX7_odds_80 : decode cX7_odds 80 = .ok (.istore 8, 2) := by decide +kernel
theorem dX7_odds_82 : decode cX7_odds 82 = .ok (.iconst 0, 1) := by decide +kernel
theorem dX7_odds_83 : decode cX7_odds 83 = .ok (.istore 9, 2) := by decide +kernel
theorem dX7_odds_85 : decode cX7_odds 85 = .ok (.iload 9, 2) := by decide +kernel
theorem dX7_odds_87 : decode cX7_odds 87 = .ok (.iload_n 3, 1) := by decide +kernel
theorem dX7_odds_88 : decode cX7_odds 88 = .ok (.if_icmp .ge 32, 3) := by decide +kernel
theorem dX7_odds_91 : decode cX7_odds 91 = .ok (.iload 8, 2) := by decide +kernel
theorem dX7_odds_93 : decode cX7_odds 93 = .ok (.iload 7, 2) := by decide +kernel
theorem dX7_odds_95 : decode cX7_odds 95 = .ok (.iload 9, 2) := by decide +kernel
theorem dX7_odds_97 : decode cX7_odds 97 = .ok (.invokestatic 117, 3) := by decide +kernel
theorem dX7_odds_100 : decode cX7_odds 100 = .ok (.ifCond .eq 7, 3) := by decide +kernel
theorem dX7_odds_103 : decode cX7_odds 103 = .ok (.iload_n 2, 1) := by decide +kernel
theorem dX7_odds_104 : decode cX7_odds 104 = .ok (.goto 7, 3) := by decide +kernel
theorem dX7_odds_107 : decode cX7_odds 107 = .ok (.bipush 10, 2) := by decide +kernel
theorem dX7_odds_109 : decode cX7_odds 109 = .ok (.iload_n 2, 1) := by decide +kernel
theorem dX7_odds_110 : decode cX7_odds 110 = .ok (.isub, 1) := by decide +kernel
theorem dX7_odds_111 : decode cX7_odds 111 = .ok (.imul, 1) := by decide +kernel
theorem dX7_odds_112 : decode cX7_odds 112 = .ok (.istore 8, 2) := by decide +kernel
theorem dX7_odds_114 : decode cX7_odds 114 = .ok (.iinc 9 1, 3) := by decide +kernel
theorem dX7_odds_117 : decode cX7_odds 117 = .ok (.goto (-32), 3) := by decide +kernel
theorem dX7_odds_120 : decode cX7_odds 120 = .ok (.iload 5, 2) := by decide +kernel
theorem dX7_odds_122 : decode cX7_odds 122 = .ok (.iload 7, 2) := by decide +kernel
theorem dX7_odds_124 : decode cX7_odds 124 = .ok (.invokestatic 114, 3) := by decide +kernel
theorem dX7_odds_127 : decode cX7_odds 127 = .ok (.aload_n 0, 1) := by decide +kernel
theorem dX7_odds_128 : decode cX7_odds 128 = .ok (.getfield 19, 3) := by decide +kernel
theorem dX7_odds_131 : decode cX7_odds 131 = .ok (.iconst 2, 1) := by decide +kernel
theorem dX7_odds_132 : decode cX7_odds 132 = .ok (.iload_n 1, 1) := by decide +kernel
theorem dX7_odds_133 : decode cX7_odds 133 = .ok (.iadd, 1) := by decide +kernel
theorem dX7_odds_134 : decode cX7_odds 134 = .ok (.iaload, 1) := by decide +kernel
theorem dX7_odds_135 : decode cX7_odds 135 = .ok (.if_icmp .lt 8, 3) := by decide +kernel
theorem dX7_odds_138 : decode cX7_odds 138 = .ok (.iload 8, 2) := by decide +kernel
theorem dX7_odds_140 : decode cX7_odds 140 = .ok (.goto 4, 3) := by decide +kernel
theorem dX7_odds_143 : decode cX7_odds 143 = .ok (.iconst 0, 1) := by decide +kernel
theorem dX7_odds_144 : decode cX7_odds 144 = .ok (.iadd, 1) := by decide +kernel
theorem dX7_odds_145 : decode cX7_odds 145 = .ok (.istore 5, 2) := by decide +kernel
theorem dX7_odds_147 : decode cX7_odds 147 = .ok (.iinc 7 1, 3) := by decide +kernel
theorem dX7_odds_150 : decode cX7_odds 150 = .ok (.goto (-79), 3) := by decide +kernel
theorem dX7_odds_153 : decode cX7_odds 153 = .ok (.iload 5, 2) := by decide +kernel
theorem dX7_odds_155 : decode cX7_odds 155 = .ok (.iload 6, 2) := by decide +kernel
theorem dX7_odds_157 : decode cX7_odds 157 = .ok (.iload 4, 2) := by decide +kernel
theorem dX7_odds_159 : decode cX7_odds 159 = .ok (.invokestatic 170, 3) := by decide +kernel
theorem dX7_odds_162 : decode cX7_odds 162 = .ok (.ireturn, 1) := by decide +kernel
theorem dX7_sees_0 : decode cX7_sees 0 = .ok (.iload_n 1, 1) := by decide +kernel
theorem dX7_sees_1 : decode cX7_sees 1 = .ok (.iconst 0, 1) := by decide +kernel
theorem dX7_sees_2 : decode cX7_sees 2 = .ok (.bipush 20, 2) := by decide +kernel
theorem dX7_sees_4 : decode cX7_sees 4 = .ok (.invokestatic 51, 3) := by decide +kernel
theorem dX7_sees_7 : decode cX7_sees 7 = .ok (.ifCond .eq 22, 3) := by decide +kernel
theorem dX7_sees_10 : decode cX7_sees 10 = .ok (.iload_n 2, 1) := by decide +kernel
theorem dX7_sees_11 : decode cX7_sees 11 = .ok (.iconst 0, 1) := by decide +kernel
theorem dX7_sees_12 : decode cX7_sees 12 = .ok (.bipush 6, 2) := by decide +kernel
theorem dX7_sees_14 : decode cX7_sees 14 = .ok (.invokestatic 51, 3) := by decide +kernel
theorem dX7_sees_17 : decode cX7_sees 17 = .ok (.ifCond .eq 12, 3) := by decide +kernel
theorem dX7_sees_20 : decode cX7_sees 20 = .ok (.iload_n 3, 1) := by decide +kernel
theorem dX7_sees_21 : decode cX7_sees 21 = .ok (.iconst 0, 1) := by decide +kernel
theorem dX7_sees_22 : decode cX7_sees 22 = .ok (.iconst 1, 1) := by decide +kernel
theorem dX7_sees_23 : decode cX7_sees 23 = .ok (.invokestatic 51, 3) := by decide +kernel
theorem dX7_sees_26 : decode cX7_sees 26 = .ok (.ifCond .ne 5, 3) := by decide +kernel
theorem dX7_sees_29 : decode cX7_sees 29 = .ok (.iconst (-1), 1) := by decide +kernel
theorem dX7_sees_30 : decode cX7_sees 30 = .ok (.ireturn, 1) := by decide +kernel
theorem dX7_sees_31 : decode cX7_sees 31 = .ok (.aload_n 0, 1) := by decide +kernel
theorem dX7_sees_32 : decode cX7_sees 32 = .ok (.getfield 107, 3) := by decide +kernel
theorem dX7_sees_35 : decode cX7_sees 35 = .ok (.bipush 6, 2) := by decide +kernel
theorem dX7_sees_37 : decode cX7_sees 37 = .ok (.if_icmp .ne 6, 3) := by decide +kernel
theorem dX7_sees_40 : decode cX7_sees 40 = .ok (.bipush (-3), 2) := by decide +kernel
theorem dX7_sees_42 : decode cX7_sees 42 = .ok (.ireturn, 1) := by decide +kernel
theorem dX7_sees_43 : decode cX7_sees 43 = .ok (.aload_n 0, 1) := by decide +kernel
theorem dX7_sees_44 : decode cX7_sees 44 = .ok (.getfield 32, 3) := by decide +kernel
theorem dX7_sees_47 : decode cX7_sees 47 = .ok (.iconst 3, 1) := by decide +kernel
theorem dX7_sees_48 : decode cX7_sees 48 = .ok (.aload_n 0, 1) := by decide +kernel
theorem dX7_sees_49 : decode cX7_sees 49 = .ok (.getfield 107, 3) := by decide +kernel
theorem dX7_sees_52 : decode cX7_sees 52 = .ok (.imul, 1) := by decide +kernel
theorem dX7_sees_53 : decode cX7_sees 53 = .ok (.iload_n 1, 1) := by decide +kernel
theorem dX7_sees_54 : decode cX7_sees 54 = .ok (.iastore, 1) := by decide +kernel
theorem dX7_sees_55 : decode cX7_sees 55 = .ok (.aload_n 0, 1) := by decide +kernel
theorem dX7_sees_56 : decode cX7_sees 56 = .ok (.getfield 32, 3) := by decide +kernel
theorem dX7_sees_59 : decode cX7_sees 59 = .ok (.iconst 3, 1) := by decide +kernel
theorem dX7_sees_60 : decode cX7_sees 60 = .ok (.aload_n 0, 1) := by decide +kernel
theorem dX7_sees_61 : decode cX7_sees 61 = .ok (.getfield 107, 3) := by decide +kernel
theorem dX7_sees_64 : decode cX7_sees 64 = .ok (.imul, 1) := by decide +kernel
theorem dX7_sees_65 : decode cX7_sees 65 = .ok (.iconst 1, 1) := by decide +kernel
theorem dX7_sees_66 : decode cX7_sees 66 = .ok (.iadd, 1) := by decide +kernel
theorem dX7_sees_67 : decode cX7_sees 67 = .ok (.iload_n 2, 1) := by decide +kernel
theorem dX7_sees_68 : decode cX7_sees 68 = .ok (.iastore, 1) := by decide +kernel
theorem dX7_sees_69 : decode cX7_sees 69 = .ok (.aload_n 0, 1) := by decide +kernel
theorem dX7_sees_70 : decode cX7_sees 70 = .ok (.getfield 32, 3) := by decide +kernel
theorem dX7_sees_73 : decode cX7_sees 73 = .ok (.iconst 3, 1) := by decide +kernel
theorem dX7_sees_74 : decode cX7_sees 74 = .ok (.aload_n 0, 1) := by decide +kernel
theorem dX7_sees_75 : decode cX7_sees 75 = .ok (.getfield 107, 3) := by decide +kernel
theorem dX7_sees_78 : decode cX7_sees 78 = .ok (.imul, 1) := by decide +kernel
theorem dX7_sees_79 : decode cX7_sees 79 = .ok (.iconst 2, 1) := by decide +kernel
theorem dX7_sees_80 : decode cX7_sees 80 = .ok (.iadd, 1) := by decide +kernel
theorem dX7_sees_81 : decode cX7_sees 81 = .ok (.iload_n 3, 1) := by decide +kernel
theorem dX7_sees_82 : decode cX7_sees 82 = .ok (.iastore, 1) := by decide +kernel
theorem dX7_sees_83 : decode cX7_sees 83 = .ok (.aload_n 0, 1) := by decide +kernel
theorem dX7_sees_84 : decode cX7_sees 84 = .ok (.dup, 1) := by decide +kernel
theorem dX7_sees_85 : decode cX7_sees 85 = .ok (.getfield 107, 3) := by decide +kernel
theorem dX7_sees_88 : decode cX7_sees 88 = .ok (.iconst 1, 1) := by decide +kernel
theorem dX7_sees_89 : decode cX7_sees 89 = .ok (.iadd, 1) := by decide +kernel
theorem dX7_sees_90 : decode cX7_sees 90 = .ok (.putfield 107, 3) := by decide +kernel
theorem dX7_sees_93 : decode cX7_sees 93 = .ok (.aload_n 0, 1) := by decide +kernel
theorem dX7_sees_94 : decode cX7_sees 94 = .ok (.getfield 107, 3) := by decide +kernel
theorem dX7_sees_97 : decode cX7_sees 97 = .ok (.ireturn, 1) := by decide +kernel
theorem dX7_forget_0 : decode cX7_forget 0 = .ok (.aload_n 0, 1) := by decide +kernel
theorem dX7_forget_1 : decode cX7_forget 1 = .ok (.getfield 107, 3) := by decide +kernel
theorem dX7_forget_4 : decode cX7_forget 4 = .ok (.istore_n 1, 1) := by decide +kernel
theorem dX7_forget_5 : decode cX7_forget 5 = .ok (.aload_n 0, 1) := by decide +kernel
theorem dX7_forget_6 : decode cX7_forget 6 = .ok (.iconst 0, 1) := by decide +kernel
theorem dX7_forget_7 : decode cX7_forget 7 = .ok (.putfield 107, 3) := by decide +kernel
theorem dX7_forget_10 : decode cX7_forget 10 = .ok (.iload_n 1, 1) := by decide +kernel
theorem dX7_forget_11 : decode cX7_forget 11 = .ok (.ireturn, 1) := by decide +kernel
theorem dX7_hadAsked_0 : decode cX7_hadAsked 0 = .ok (.iload_n 0, 1) := by decide +kernel
theorem dX7_hadAsked_1 : decode cX7_hadAsked 1 = .ok (.iload_n 2, 1) := by decide +kernel
theorem dX7_hadAsked_2 : decode cX7_hadAsked 2 = .ok (.if_icmp .le 8, 3) := by decide +kernel
theorem dX7_hadAsked_5 : decode cX7_hadAsked 5 = .ok (.iload_n 1, 1) := by decide +kernel
theorem dX7_hadAsked_6 : decode cX7_hadAsked 6 = .ok (.iload_n 3, 1) := by decide +kernel
theorem dX7_hadAsked_7 : decode cX7_hadAsked 7 = .ok (.if_icmp .gt 7, 3) := by decide +kernel
theorem dX7_hadAsked_10 : decode cX7_hadAsked 10 = .ok (.iconst 1, 1) := by decide +kernel
theorem dX7_hadAsked_11 : decode cX7_hadAsked 11 = .ok (.goto 4, 3) := by decide +kernel
theorem dX7_hadAsked_14 : decode cX7_hadAsked 14 = .ok (.iconst 0, 1) := by decide +kernel
theorem dX7_hadAsked_15 : decode cX7_hadAsked 15 = .ok (.ireturn, 1) := by decide +kernel
theorem dX7_isSo_0 : decode cX7_isSo 0 = .ok (.iconst 1, 1) := by decide +kernel
theorem dX7_isSo_1 : decode cX7_isSo 1 = .ok (.istore_n 3, 1) := by decide +kernel
theorem dX7_isSo_2 : decode cX7_isSo 2 = .ok (.iconst 0, 1) := by decide +kernel
theorem dX7_isSo_3 : decode cX7_isSo 3 = .ok (.istore 4, 2) := by decide +kernel
theorem dX7_isSo_5 : decode cX7_isSo 5 = .ok (.iload 4, 2) := by decide +kernel
theorem dX7_isSo_7 : decode cX7_isSo 7 = .ok (.aload_n 0, 1) := by decide +kernel
theorem dX7_isSo_8 : decode cX7_isSo 8 = .ok (.getfield 107, 3) := by decide +kernel
theorem dX7_isSo_11 : decode cX7_isSo 11 = .ok (.if_icmp .ge 67, 3) := by decide +kernel
theorem dX7_isSo_14 : decode cX7_isSo 14 = .ok (.iload_n 3, 1) := by decide +kernel
theorem dX7_isSo_15 : decode cX7_isSo 15 = .ok (.ifCond .eq 55, 3) := by decide +kernel
theorem dX7_isSo_18 : decode cX7_isSo 18 = .ok (.iload_n 1, 1) := by decide +kernel
theorem dX7_isSo_19 : decode cX7_isSo 19 = .ok (.iload_n 2, 1) := by decide +kernel
theorem dX7_isSo_20 : decode cX7_isSo 20 = .ok (.aload_n 0, 1) := by decide +kernel
theorem dX7_isSo_21 : decode cX7_isSo 21 = .ok (.getfield 32, 3) := by decide +kernel
theorem dX7_isSo_24 : decode cX7_isSo 24 = .ok (.iconst 3, 1) := by decide +kernel
theorem dX7_isSo_25 : decode cX7_isSo 25 = .ok (.iload 4, 2) := by decide +kernel
theorem dX7_isSo_27 : decode cX7_isSo 27 = .ok (.imul, 1) := by decide +kernel
theorem dX7_isSo_28 : decode cX7_isSo 28 = .ok (.iaload, 1) := by decide +kernel
theorem dX7_isSo_29 : decode cX7_isSo 29 = .ok (.aload_n 0, 1) := by decide +kernel
theorem dX7_isSo_30 : decode cX7_isSo 30 = .ok (.getfield 32, 3) := by decide +kernel
theorem dX7_isSo_33 : decode cX7_isSo 33 = .ok (.iconst 3, 1) := by decide +kernel
theorem dX7_isSo_34 : decode cX7_isSo 34 = .ok (.iload 4, 2) := by decide +kernel
theorem dX7_isSo_36 : decode cX7_isSo 36 = .ok (.imul, 1) := by decide +kernel
theorem dX7_isSo_37 : decode cX7_isSo 37 = .ok (.iconst 1, 1) := by decide +kernel
theorem dX7_isSo_38 : decode cX7_isSo 38 = .ok (.iadd, 1) := by decide +kernel
theorem dX7_isSo_39 : decode cX7_isSo 39 = .ok (.iaload, 1) := by decide +kernel
theorem dX7_isSo_40 : decode cX7_isSo 40 = .ok (.invokestatic 174, 3) := by decide +kernel
theorem dX7_isSo_43 : decode cX7_isSo 43 = .ok (.aload_n 0, 1) := by decide +kernel
theorem dX7_isSo_44 : decode cX7_isSo 44 = .ok (.getfield 32, 3) := by decide +kernel
theorem dX7_isSo_47 : decode cX7_isSo 47 = .ok (.iconst 3, 1) := by decide +kernel
theorem dX7_isSo_48 : decode cX7_isSo 48 = .ok (.iload 4, 2) := by decide +kernel
theorem dX7_isSo_50 : decode cX7_isSo 50 = .ok (.imul, 1) := by decide +kernel
theorem dX7_isSo_51 : decode cX7_isSo 51 = .ok (.iconst 2, 1) := by decide +kernel
theorem dX7_isSo_52 : decode cX7_isSo 52 = .ok (.iadd, 1) := by decide +kernel
theorem dX7_isSo_53 : decode cX7_isSo 53 = .ok (.iaload, 1) := by decide +kernel
theorem dX7_isSo_54 : decode cX7_isSo 54 = .ok (.iconst 1, 1) := by decide +kernel
theorem dX7_isSo_55 : decode cX7_isSo 55 = .ok (.if_icmp .ne 7, 3) := by decide +kernel
theorem dX7_isSo_58 : decode cX7_isSo 58 = .ok (.iconst 1, 1) := by decide +kernel
theorem dX7_isSo_59 : decode cX7_isSo 59 = .ok (.goto 4, 3) := by decide +kernel
theorem dX7_isSo_62 : decode cX7_isSo 62 = .ok (.iconst 0, 1) := by decide +kernel
theorem dX7_isSo_63 : decode cX7_isSo 63 = .ok (.if_icmp .ne 7, 3) := by decide +kernel
theorem dX7_isSo_66 : decode cX7_isSo 66 = .ok (.iconst 1, 1) := by decide +kernel
theorem dX7_isSo_67 : decode cX7_isSo 67 = .ok (.goto 4, 3) := by decide +kernel
theorem dX7_isSo_70 : decode cX7_isSo 70 = .ok (.iconst 0, 1) := by decide +kernel
theorem dX7_isSo_71 : decode cX7_isSo 71 = .ok (.istore_n 3, 1) := by decide +kernel
theorem dX7_isSo_72 : decode cX7_isSo 72 = .ok (.iinc 4 1, 3) := by decide +kernel
theorem dX7_isSo_75 : decode cX7_isSo 75 = .ok (.goto (-70), 3) := by decide +kernel
theorem dX7_isSo_78 : decode cX7_isSo 78 = .ok (.iload_n 3, 1) := by decide +kernel
theorem dX7_isSo_79 : decode cX7_isSo 79 = .ok (.ireturn, 1) := by decide +kernel
theorem dX7_ones_0 : decode cX7_ones 0 = .ok (.iload_n 1, 1) := by decide +kernel
theorem dX7_ones_1 : decode cX7_ones 1 = .ok (.iconst 0, 1) := by decide +kernel
theorem dX7_ones_2 : decode cX7_ones 2 = .ok (.iconst 2, 1) := by decide +kernel
theorem dX7_ones_3 : decode cX7_ones 3 = .ok (.invokestatic 51, 3) := by decide +kernel
theorem dX7_ones_6 : decode cX7_ones 6 = .ok (.ifCond .ne 5, 3) := by decide +kernel
theorem dX7_ones_9 : decode cX7_ones 9 = .ok (.iconst (-1), 1) := by decide +kernel
theorem dX7_ones_10 : decode cX7_ones 10 = .ok (.ireturn, 1) := by decide +kernel
theorem dX7_ones_11 : decode cX7_ones 11 = .ok (.iconst 0, 1) := by decide +kernel
theorem dX7_ones_12 : decode cX7_ones 12 = .ok (.istore_n 2, 1) := by decide +kernel
theorem dX7_ones_13 : decode cX7_ones 13 = .ok (.bipush (-9), 2) := by decide +kernel
theorem dX7_ones_15 : decode cX7_ones 15 = .ok (.istore_n 3, 1) := by decide +kernel
theorem dX7_ones_16 : decode cX7_ones 16 = .ok (.bipush (-9), 2) := by decide +kernel
theorem dX7_ones_18 : decode cX7_ones 18 = .ok (.istore 4, 2) := by decide +kernel
theorem dX7_ones_20 : decode cX7_ones 20 = .ok (.iconst 0, 1) := by decide +kernel
theorem dX7_ones_21 : decode cX7_ones 21 = .ok (.istore 5, 2) := by decide +kernel
theorem dX7_ones_23 : decode cX7_ones 23 = .ok (.iload 5, 2) := by decide +kernel
theorem dX7_ones_25 : decode cX7_ones 25 = .ok (.bipush 20, 2) := by decide +kernel
theorem dX7_ones_27 : decode cX7_ones 27 = .ok (.if_icmp .gt 54, 3) := by decide +kernel
theorem dX7_ones_30 : decode cX7_ones 30 = .ok (.iconst 0, 1) := by decide +kernel
theorem dX7_ones_31 : decode cX7_ones 31 = .ok (.istore 6, 2) := by decide +kernel
theorem dX7_ones_33 : decode cX7_ones 33 = .ok (.iload 6, 2) := by decide +kernel
theorem dX7_ones_35 : decode cX7_ones 35 = .ok (.bipush 6, 2) := by decide +kernel
theorem dX7_ones_37 : decode cX7_ones 37 = .ok (.if_icmp .gt 38, 3) := by decide +kernel
theorem dX7_ones_40 : decode cX7_ones 40 = .ok (.aload_n 0, 1) := by decide +kernel
theorem dX7_ones_41 : decode cX7_ones 41 = .ok (.iload 5, 2) := by decide +kernel
theorem dX7_ones_43 : decode cX7_ones 43 = .ok (.iload 6, 2) := by decide +kernel
theorem dX7_ones_45 : decode cX7_ones 45 = .ok (.invokevirtual 178, 3) := by decide +kernel
theorem dX7_ones_48 : decode cX7_ones 48 = .ok (.ifCond .eq 21, 3) := by decide +kernel
theorem dX7_ones_51 : decode cX7_ones 51 = .ok (.iload_n 2, 1) := by decide +kernel
theorem dX7_ones_52 : decode cX7_ones 52 = .ok (.ifCond .ne 8, 3) := by decide +kernel
theorem dX7_ones_55 : decode cX7_ones 55 = .ok (.iload 5, 2) := by decide +kernel
theorem dX7_ones_57 : decode cX7_ones 57 = .ok (.goto 4, 3) := by decide +kernel
theorem dX7_ones_60 : decode cX7_ones 60 = .ok (.iload_n 3, 1) := by decide +kernel
theorem dX7_ones_61 : decode cX7_ones 61 = .ok (.istore_n 3, 1) := by decide +kernel
theorem dX7_ones_62 : decode cX7_ones 62 = .ok (.iload 5, 2) := by decide +kernel
theorem dX7_ones_64 : decode cX7_ones 64 = .ok (.istore 4, 2) := by decide +kernel
theorem dX7_ones_66 : decode cX7_ones 66 = .ok (.iinc 2 1, 3) := by decide +kernel
theorem dX7_ones_69 : decode cX7_ones 69 = .ok (.iinc 6 1, 3) := by decide +kernel
theorem dX7_ones_72 : decode cX7_ones 72 = .ok (.goto (-39), 3) := by decide +kernel
theorem dX7_ones_75 : decode cX7_ones 75 = .ok (.iinc 5 1, 3) := by decide +kernel
theorem dX7_ones_78 : decode cX7_ones 78 = .ok (.goto (-55), 3) := by decide +kernel
theorem dX7_ones_81 : decode cX7_ones 81 = .ok (.iload_n 1, 1) := by decide +kernel
theorem dX7_ones_82 : decode cX7_ones 82 = .ok (.ifCond .ne 7, 3) := by decide +kernel
theorem dX7_ones_85 : decode cX7_ones 85 = .ok (.iload_n 2, 1) := by decide +kernel
theorem dX7_ones_86 : decode cX7_ones 86 = .ok (.goto 14, 3) := by decide +kernel
theorem dX7_ones_89 : decode cX7_ones 89 = .ok (.iload_n 1, 1) := by decide +kernel
theorem dX7_ones_90 : decode cX7_ones 90 = .ok (.iconst 1, 1) := by decide +kernel
theorem dX7_ones_91 : decode cX7_ones 91 = .ok (.if_icmp .ne 7, 3) := by decide +kernel
theorem dX7_ones_94 : decode cX7_ones 94 = .ok (.iload_n 3, 1) := by decide +kernel
theorem dX7_ones_95 : decode cX7_ones 95 = .ok (.goto 5, 3) := by decide +kernel
theorem dX7_ones_98 : decode cX7_ones 98 = .ok (.iload 4, 2) := by decide +kernel
theorem dX7_ones_100 : decode cX7_ones 100 = .ok (.ireturn, 1) := by decide +kernel
theorem dX7_look_0 : decode cX7_look 0 = .ok (.iload_n 1, 1) := by decide +kernel
theorem dX7_look_1 : decode cX7_look 1 = .ok (.iconst 0, 1) := by decide +kernel
theorem dX7_look_2 : decode cX7_look 2 = .ok (.bipush 20, 2) := by decide +kernel
theorem dX7_look_4 : decode cX7_look 4 = .ok (.invokestatic 51, 3) := by decide +kernel
theorem dX7_look_7 : decode cX7_look 7 = .ok (.ifCond .ne 5, 3) := by decide +kernel
theorem dX7_look_10 : decode cX7_look 10 = .ok (.iconst (-1), 1) := by decide +kernel
theorem dX7_look_11 : decode cX7_look 11 = .ok (.ireturn, 1) := by decide +kernel
theorem dX7_look_12 : decode cX7_look 12 = .ok (.aload_n 0, 1) := by decide +kernel
theorem dX7_look_13 : decode cX7_look 13 = .ok (.iconst 0, 1) := by decide +kernel
theorem dX7_look_14 : decode cX7_look 14 = .ok (.invokevirtual 181, 3) := by decide +kernel
theorem dX7_look_17 : decode cX7_look 17 = .ok (.istore_n 2, 1) := by decide +kernel
theorem dX7_look_18 : decode cX7_look 18 = .ok (.bipush (-9), 2) := by decide +kernel
theorem dX7_look_20 : decode cX7_look 20 = .ok (.istore_n 3, 1) := by decide +kernel
theorem dX7_look_21 : decode cX7_look 21 = .ok (.iload_n 2, 1) := by decide +kernel
theorem dX7_look_22 : decode cX7_look 22 = .ok (.iconst 1, 1) := by decide +kernel
theorem dX7_look_23 : decode cX7_look 23 = .ok (.iadd, 1) := by decide +kernel
theorem dX7_look_24 : decode cX7_look 24 = .ok (.istore 4, 2) := by decide +kernel
theorem dX7_look_26 : decode cX7_look 26 = .ok (.iconst 0, 1) := by decide +kernel
theorem dX7_look_27 : decode cX7_look 27 = .ok (.istore 5, 2) := by decide +kernel
theorem dX7_look_29 : decode cX7_look 29 = .ok (.iload 5, 2) := by decide +kernel
theorem dX7_look_31 : decode cX7_look 31 = .ok (.bipush 6, 2) := by decide +kernel
theorem dX7_look_33 : decode cX7_look 33 = .ok (.if_icmp .gt 133, 3) := by decide +kernel
theorem dX7_look_36 : decode cX7_look 36 = .ok (.iload_n 2, 1) := by decide +kernel
theorem dX7_look_37 : decode cX7_look 37 = .ok (.iconst 1, 1) := by decide +kernel
theorem dX7_look_38 : decode cX7_look 38 = .ok (.if_icmp .le 128, 3) := by decide +kernel
theorem dX7_look_41 : decode cX7_look 41 = .ok (.iconst 0, 1) := by decide +kernel
theorem dX7_look_42 : decode cX7_look 42 = .ok (.istore 6, 2) := by decide +kernel
theorem dX7_look_44 : decode cX7_look 44 = .ok (.iconst 0, 1) := by decide +kernel
theorem dX7_look_45 : decode cX7_look 45 = .ok (.istore 7, 2) := by decide +kernel
theorem dX7_look_47 : decode cX7_look 47 = .ok (.iload 7, 2) := by decide +kernel
theorem dX7_look_49 : decode cX7_look 49 = .ok (.bipush 20, 2) := by decide +kernel
theorem dX7_look_51 : decode cX7_look 51 = .ok (.if_icmp .gt 59, 3) := by decide +kernel
theorem dX7_look_54 : decode cX7_look 54 = .ok (.iconst 0, 1) := by decide +kernel
theorem dX7_look_55 : decode cX7_look 55 = .ok (.istore 8, 2) := by decide +kernel
theorem dX7_look_57 : decode cX7_look 57 = .ok (.iload 8, 2) := by decide +kernel
theorem dX7_look_59 : decode cX7_look 59 = .ok (.bipush 6, 2) := by decide +kernel
theorem dX7_look_61 : decode cX7_look 61 = .ok (.if_icmp .gt 43, 3) := by decide +kernel
theorem dX7_look_64 : decode cX7_look 64 = .ok (.iload 6, 2) := by decide +kernel
theorem dX7_look_66 : decode cX7_look 66 = .ok (.aload_n 0, 1) := by decide +kernel
theorem dX7_look_67 : decode cX7_look 67 = .ok (.iload 7, 2) := by decide +kernel
theorem dX7_look_69 : decode cX7_look 69 = .ok (.iload 8, 2) := by decide +kernel
theorem dX7_look_71 : decode cX7_look 71 = .ok (.invokevirtual 178, 3) := by decide +kernel
theorem dX7_look_74 : decode cX7_look 74 = .ok (.ifCond .eq 20, 3) := by decide +kernel
theorem dX7_look_77 : decode cX7_look 77 = .ok (.iload 7, 2) := by decide +kernel
theorem dX7_look_79 : decode cX7_look 79 = .ok (.iload 8, 2) := by decide +kernel
theorem dX7_look_81 : decode cX7_look 81 = .ok (.iload_n 1, 1) := by decide +kernel
theorem dX7_look_82 : decode cX7_look 82 = .ok (.iload 5, 2) := by decide +kernel
theorem dX7_look_84 : decode cX7_look 84 = .ok (.invokestatic 174, 3) := by decide +kernel
theorem dX7_look_87 : decode cX7_look 87 = .ok (.ifCond .eq 7, 3) := by decide +kernel
theorem dX7_look_90 : decode cX7_look 90 = .ok (.iconst 1, 1) := by decide +kernel
theorem dX7_look_91 : decode cX7_look 91 = .ok (.goto 4, 3) := by decide +kernel
theorem dX7_look_94 : decode cX7_look 94 = .ok (.iconst 0, 1) := by decide +kernel
theorem dX7_look_95 : decode cX7_look 95 = .ok (.iadd, 1) := by decide +kernel
theorem dX7_look_96 : decode cX7_look 96 = .ok (.istore 6, 2) := by decide +kernel
theorem dX7_look_98 : decode cX7_look 98 = .ok (.iinc 8 1, 3) := by decide +kernel
theorem dX7_look_101 : decode cX7_look 101 = .ok (.goto (-44), 3) := by decide +kernel
theorem dX7_look_104 : decode cX7_look 104 = .ok (.iinc 7 1, 3) := by decide +kernel
theorem dX7_look_107 : decode cX7_look 107 = .ok (.goto (-60), 3) := by decide +kernel
theorem dX7_look_110 : decode cX7_look 110 = .ok (.iload 6, 2) := by decide +kernel
theorem dX7_look_112 : decode cX7_look 112 = .ok (.iload_n 2, 1) := by decide +kernel
theorem dX7_look_113 : decode cX7_look 113 = .ok (.iload 6, 2) := by decide +kernel
theorem dX7_look_115 : decode cX7_look 115 = .ok (.isub, 1) := by decide +kernel
theorem dX7_look_116 : decode cX7_look 116 = .ok (.if_icmp .le 8, 3) := by decide +kernel
theorem dX7_look_119 : decode cX7_look 119 = .ok (.iload 6, 2) := by decide +kernel
theorem dX7_look_121 : decode cX7_look 121 = .ok (.goto 7, 3) := by decide +kernel
theorem dX7_look_124 : decode cX7_look 124 = .ok (.iload_n 2, 1) := by decide +kernel
theorem dX7_look_125 : decode cX7_look 125 = .ok (.iload 6, 2) := by decide +kernel
theorem dX7_look_127 : decode cX7_look 127 = .ok (.isub, 1) := by decide +kernel
theorem dX7_look_128 : decode cX7_look 128 = .ok (.istore 7, 2) := by decide +kernel
theorem dX7_look_130 : decode cX7_look 130 = .ok (.iload 7, 2) := by decide +kernel
theorem dX7_look_132 : decode cX7_look 132 = .ok (.iload 4, 2) := by decide +kernel
theorem dX7_look_134 : decode cX7_look 134 = .ok (.if_icmp .ge 8, 3) := by decide +kernel
theorem dX7_look_137 : decode cX7_look 137 = .ok (.iload 5, 2) := by decide +kernel
theorem dX7_look_139 : decode cX7_look 139 = .ok (.goto 4, 3) := by decide +kernel
theorem dX7_look_142 : decode cX7_look 142 = .ok (.iload_n 3, 1) := by decide +kernel
theorem dX7_look_143 : decode cX7_look 143 = .ok (.istore_n 3, 1) := by decide +kernel
theorem dX7_look_144 : decode cX7_look 144 = .ok (.iload 7, 2) := by decide +kernel
theorem dX7_look_146 : decode cX7_look 146 = .ok (.iload 4, 2) := by decide +kernel
theorem dX7_look_148 : decode cX7_look 148 = .ok (.if_icmp .ge 8, 3) := by decide +kernel
theorem dX7_look_151 : decode cX7_look 151 = .ok (.iload 7, 2) := by decide +kernel
theorem dX7_look_153 : decode cX7_look 153 = .ok (.goto 5, 3) := by decide +kernel
theorem dX7_look_156 : decode cX7_look 156 = .ok (.iload 4, 2) := by decide +kernel
theorem dX7_look_158 : decode cX7_look 158 = .ok (.istore 4, 2) := by decide +kernel
theorem dX7_look_160 : decode cX7_look 160 = .ok (.iinc 5 1, 3) := by decide +kernel
theorem dX7_look_163 : decode cX7_look 163 = .ok (.goto (-134), 3) := by decide +kernel
theorem dX7_look_166 : decode cX7_look 166 = .ok (.iload_n 3, 1) := by decide +kernel
theorem dX7_look_167 : decode cX7_look 167 = .ok (.ireturn, 1) := by decide +kernel
theorem dX7_rate_0 : decode cX7_rate 0 = .ok (.iload_n 1, 1) := by decide +kernel
theorem dX7_rate_1 : decode cX7_rate 1 = .ok (.iconst 0, 1) := by decide +kernel
theorem dX7_rate_2 : decode cX7_rate 2 = .ok (.iconst 5, 1) := by decide +kernel
theorem dX7_rate_3 : decode cX7_rate 3 = .ok (.invokestatic 51, 3) := by decide +kernel
theorem dX7_rate_6 : decode cX7_rate 6 = .ok (.ifCond .eq 11, 3) := by decide +kernel
theorem dX7_rate_9 : decode cX7_rate 9 = .ok (.aload_n 0, 1) := by decide +kernel
theorem dX7_rate_10 : decode cX7_rate 10 = .ok (.iload_n 2, 1) := by decide +kernel
theorem dX7_rate_11 : decode cX7_rate 11 = .ok (.invokevirtual 143, 3) := by decide +kernel
theorem dX7_rate_14 : decode cX7_rate 14 = .ok (.ifCond .ne 6, 3) := by decide +kernel
theorem dX7_rate_17 : decode cX7_rate 17 = .ok (.ldc 184, 2) := by decide +kernel
theorem dX7_rate_19 : decode cX7_rate 19 = .ok (.ireturn, 1) := by decide +kernel
theorem dX7_rate_20 : decode cX7_rate 20 = .ok (.aload_n 0, 1) := by decide +kernel
theorem dX7_rate_21 : decode cX7_rate 21 = .ok (.getfield 19, 3) := by decide +kernel
theorem dX7_rate_24 : decode cX7_rate 24 = .ok (.iconst 2, 1) := by decide +kernel
theorem dX7_rate_25 : decode cX7_rate 25 = .ok (.iload_n 2, 1) := by decide +kernel
theorem dX7_rate_26 : decode cX7_rate 26 = .ok (.iadd, 1) := by decide +kernel
theorem dX7_rate_27 : decode cX7_rate 27 = .ok (.iaload, 1) := by decide +kernel
theorem dX7_rate_28 : decode cX7_rate 28 = .ok (.istore_n 3, 1) := by decide +kernel
theorem dX7_rate_29 : decode cX7_rate 29 = .ok (.iload_n 3, 1) := by decide +kernel
theorem dX7_rate_30 : decode cX7_rate 30 = .ok (.aload_n 0, 1) := by decide +kernel
theorem dX7_rate_31 : decode cX7_rate 31 = .ok (.iload_n 2, 1) := by decide +kernel
theorem dX7_rate_32 : decode cX7_rate 32 = .ok (.invokevirtual 146, 3) := by decide +kernel
theorem dX7_rate_35 : decode cX7_rate 35 = .ok (.invokestatic 114, 3) := by decide +kernel
theorem dX7_rate_38 : decode cX7_rate 38 = .ok (.iadd, 1) := by decide +kernel
theorem dX7_rate_39 : decode cX7_rate 39 = .ok (.istore 4, 2) := by decide +kernel
theorem dX7_rate_41 : decode cX7_rate 41 = .ok (.iload_n 3, 1) := by decide +kernel
theorem dX7_rate_42 : decode cX7_rate 42 = .ok (.aload_n 0, 1) := by decide +kernel
theorem dX7_rate_43 : decode cX7_rate 43 = .ok (.getfield 13, 3) := by decide +kernel
theorem dX7_rate_46 : decode cX7_rate 46 = .ok (.iload_n 2, 1) := by decide +kernel
theorem dX7_rate_47 : decode cX7_rate 47 = .ok (.iaload, 1) := by decide +kernel
theorem dX7_rate_48 : decode cX7_rate 48 = .ok (.isub, 1) := by decide +kernel
theorem dX7_rate_49 : decode cX7_rate 49 = .ok (.istore 5, 2) := by decide +kernel
theorem dX7_rate_51 : decode cX7_rate 51 = .ok (.iload_n 1, 1) := by decide +kernel
theorem dX7_rate_52 : decode cX7_rate 52 = .ok (.tableswitch 121 1 5 #[36, 51, 66, 83, 100], 36) := by decide +kernel
theorem dX7_rate_88 : decode cX7_rate 88 = .ok (.aload_n 0, 1) := by decide +kernel
theorem dX7_rate_89 : decode cX7_rate 89 = .ok (.dup, 1) := by decide +kernel
theorem dX7_rate_90 : decode cX7_rate 90 = .ok (.getfield 185, 3) := by decide +kernel
theorem dX7_rate_93 : decode cX7_rate 93 = .ok (.ldc2_w 189, 3) := by decide +kernel
theorem dX7_rate_96 : decode cX7_rate 96 = .ok (.ladd, 1) := by decide +kernel
theorem dX7_rate_97 : decode cX7_rate 97 = .ok (.putfield 185, 3) := by decide +kernel
theorem dX7_rate_100 : decode cX7_rate 100 = .ok (.iload 4, 2) := by decide +kernel
theorem dX7_rate_102 : decode cX7_rate 102 = .ok (.ireturn, 1) := by decide +kernel
theorem dX7_rate_103 : decode cX7_rate 103 = .ok (.aload_n 0, 1) := by decide +kernel
theorem dX7_rate_104 : decode cX7_rate 104 = .ok (.dup, 1) := by decide +kernel
theorem dX7_rate_105 : decode cX7_rate 105 = .ok (.getfield 185, 3) := by decide +kernel
theorem dX7_rate_108 : decode cX7_rate 108 = .ok (.ldc2_w 191, 3) := by decide +kernel
theorem dX7_rate_111 : decode cX7_rate 111 = .ok (.ladd, 1) := by decide +kernel
theorem dX7_rate_112 : decode cX7_rate 112 = .ok (.putfield 185, 3) := by decide +kernel
theorem dX7_rate_115 : decode cX7_rate 115 = .ok (.iload 5, 2) := by decide +kernel
theorem dX7_rate_117 : decode cX7_rate 117 = .ok (.ireturn, 1) := by decide +kernel
theorem dX7_rate_118 : decode cX7_rate 118 = .ok (.aload_n 0, 1) := by decide +kernel
theorem dX7_rate_119 : decode cX7_rate 119 = .ok (.dup, 1) := by decide +kernel
theorem dX7_rate_120 : decode cX7_rate 120 = .ok (.getfield 185, 3) := by decide +kernel
theorem dX7_rate_123 : decode cX7_rate 123 = .ok (.ldc2_w 193, 3) := by decide +kernel
theorem dX7_rate_126 : decode cX7_rate 126 = .ok (.ladd, 1) := by decide +kernel
theorem dX7_rate_127 : decode cX7_rate 127 = .ok (.putfield 185, 3) := by decide +kernel
theorem dX7_rate_130 : decode cX7_rate 130 = .ok (.iconst 2, 1) := by decide +kernel
theorem dX7_rate_131 : decode cX7_rate 131 = .ok (.iload 4, 2) := by decide +kernel
theorem dX7_rate_133 : decode cX7_rate 133 = .ok (.imul, 1) := by decide +kernel
theorem dX7_rate_134 : decode cX7_rate 134 = .ok (.ireturn, 1) := by decide +kernel
theorem dX7_rate_135 : decode cX7_rate 135 = .ok (.aload_n 0, 1) := by decide +kernel
theorem dX7_rate_136 : decode cX7_rate 136 = .ok (.dup, 1) := by decide +kernel
theorem dX7_rate_137 : decode cX7_rate 137 = .ok (.getfield 185, 3) := by decide +kernel
theorem dX7_rate_140 : decode cX7_rate 140 = .ok (.ldc2_w 195, 3) := by decide +kernel
theorem dX7_rate_143 : decode cX7_rate 143 = .ok (.ladd, 1) := by decide +kernel
theorem dX7_rate_144 : decode cX7_rate 144 = .ok (.putfield 185, 3) := by decide +kernel
theorem dX7_rate_147 : decode cX7_rate 147 = .ok (.iload 5, 2) := by decide +kernel
theorem dX7_rate_149 : decode cX7_rate 149 = .ok (.iload_n 2, 1) := by decide +kernel
theorem dX7_rate_150 : decode cX7_rate 150 = .ok (.iadd, 1) := by decide +kernel
theorem dX7_rate_151 : decode cX7_rate 151 = .ok (.ireturn, 1) := by decide +kernel
theorem dX7_rate_152 : decode cX7_rate 152 = .ok (.aload_n 0, 1) := by decide +kernel
theorem dX7_rate_153 : decode cX7_rate 153 = .ok (.dup, 1) := by decide +kernel
theorem dX7_rate_154 : decode cX7_rate 154 = .ok (.getfield 185, 3) := by decide +kernel
theorem dX7_rate_157 : decode cX7_rate 157 = .ok (.ldc2_w 197, 3) := by decide +kernel
theorem dX7_rate_160 : decode cX7_rate 160 = .ok (.ladd, 1) := by decide +kernel
theorem dX7_rate_161 : decode cX7_rate 161 = .ok (.putfield 185, 3) := by decide +kernel
theorem dX7_rate_164 : decode cX7_rate 164 = .ok (.iload_n 3, 1) := by decide +kernel
theorem dX7_rate_165 : decode cX7_rate 165 = .ok (.aload_n 0, 1) := by decide +kernel
theorem dX7_rate_166 : decode cX7_rate 166 = .ok (.getfield 19, 3) := by decide +kernel
theorem dX7_rate_169 : decode cX7_rate 169 = .ok (.iconst 0, 1) := by decide +kernel
theorem dX7_rate_170 : decode cX7_rate 170 = .ok (.iaload, 1) := by decide +kernel
theorem dX7_rate_171 : decode cX7_rate 171 = .ok (.iadd, 1) := by decide +kernel
theorem dX7_rate_172 : decode cX7_rate 172 = .ok (.ireturn, 1) := by decide +kernel
theorem dX7_rate_173 : decode cX7_rate 173 = .ok (.aload_n 0, 1) := by decide +kernel
theorem dX7_rate_174 : decode cX7_rate 174 = .ok (.dup, 1) := by decide +kernel
theorem dX7_rate_175 : decode cX7_rate 175 = .ok (.getfield 185, 3) := by decide +kernel
theorem dX7_rate_178 : decode cX7_rate 178 = .ok (.lconst 1, 1) := by decide +kernel
theorem dX7_rate_179 : decode cX7_rate 179 = .ok (.ladd, 1) := by decide +kernel
theorem dX7_rate_180 : decode cX7_rate 180 = .ok (.putfield 185, 3) := by decide +kernel
theorem dX7_rate_183 : decode cX7_rate 183 = .ok (.iload_n 3, 1) := by decide +kernel
theorem dX7_rate_184 : decode cX7_rate 184 = .ok (.ireturn, 1) := by decide +kernel
theorem dX7_keep_0 : decode cX7_keep 0 = .ok (.iload_n 1, 1) := by decide +kernel
theorem dX7_keep_1 : decode cX7_keep 1 = .ok (.iconst 0, 1) := by decide +kernel
theorem dX7_keep_2 : decode cX7_keep 2 = .ok (.iconst 1, 1) := by decide +kernel
theorem dX7_keep_3 : decode cX7_keep 3 = .ok (.invokestatic 51, 3) := by decide +kernel
theorem dX7_keep_6 : decode cX7_keep 6 = .ok (.ifCond .ne 5, 3) := by decide +kernel
theorem dX7_keep_9 : decode cX7_keep 9 = .ok (.iconst (-1), 1) := by decide +kernel
theorem dX7_keep_10 : decode cX7_keep 10 = .ok (.ireturn, 1) := by decide +kernel
theorem dX7_keep_11 : decode cX7_keep 11 = .ok (.aload_n 0, 1) := by decide +kernel
theorem dX7_keep_12 : decode cX7_keep 12 = .ok (.getfield 25, 3) := by decide +kernel
theorem dX7_keep_15 : decode cX7_keep 15 = .ok (.bipush 14, 2) := by decide +kernel
theorem dX7_keep_17 : decode cX7_keep 17 = .ok (.iload_n 1, 1) := by decide +kernel
theorem dX7_keep_18 : decode cX7_keep 18 = .ok (.imul, 1) := by decide +kernel
theorem dX7_keep_19 : decode cX7_keep 19 = .ok (.aload_n 0, 1) := by decide +kernel
theorem dX7_keep_20 : decode cX7_keep 20 = .ok (.getfield 19, 3) := by decide +kernel
theorem dX7_keep_23 : decode cX7_keep 23 = .ok (.iconst 0, 1) := by decide +kernel
theorem dX7_keep_24 : decode cX7_keep 24 = .ok (.invokestatic 110, 3) := by decide +kernel
theorem dX7_keep_27 : decode cX7_keep 27 = .ok (.aload_n 0, 1) := by decide +kernel
theorem dX7_keep_28 : decode cX7_keep 28 = .ok (.getfield 28, 3) := by decide +kernel
theorem dX7_keep_31 : decode cX7_keep 31 = .ok (.iload_n 1, 1) := by decide +kernel
theorem dX7_keep_32 : decode cX7_keep 32 = .ok (.iconst 1, 1) := by decide +kernel
theorem dX7_keep_33 : decode cX7_keep 33 = .ok (.bastore, 1) := by decide +kernel
theorem dX7_keep_34 : decode cX7_keep 34 = .ok (.aload_n 0, 1) := by decide +kernel
theorem dX7_keep_35 : decode cX7_keep 35 = .ok (.getfield 19, 3) := by decide +kernel
theorem dX7_keep_38 : decode cX7_keep 38 = .ok (.iconst 0, 1) := by decide +kernel
theorem dX7_keep_39 : decode cX7_keep 39 = .ok (.iaload, 1) := by decide +kernel
theorem dX7_keep_40 : decode cX7_keep 40 = .ok (.ireturn, 1) := by decide +kernel
theorem dX7_back_0 : decode cX7_back 0 = .ok (.iload_n 1, 1) := by decide +kernel
theorem dX7_back_1 : decode cX7_back 1 = .ok (.iconst 0, 1) := by decide +kernel
theorem dX7_back_2 : decode cX7_back 2 = .ok (.iconst 1, 1) := by decide +kernel
theorem dX7_back_3 : decode cX7_back 3 = .ok (.invokestatic 51, 3) := by decide +kernel
theorem dX7_back_6 : decode cX7_back 6 = .ok (.ifCond .ne 5, 3) := by decide +kernel
theorem dX7_back_9 : decode cX7_back 9 = .ok (.iconst (-1), 1) := by decide +kernel
theorem dX7_back_10 : decode cX7_back 10 = .ok (.ireturn, 1) := by decide +kernel
theorem dX7_back_11 : decode cX7_back 11 = .ok (.aload_n 0, 1) := by decide +kernel
theorem dX7_back_12 : decode cX7_back 12 = .ok (.getfield 28, 3) := by decide +kernel
theorem dX7_back_15 : decode cX7_back 15 = .ok (.iload_n 1, 1) := by decide +kernel
theorem dX7_back_16 : decode cX7_back 16 = .ok (.baload, 1) := by decide +kernel
theorem dX7_back_17 : decode cX7_back 17 = .ok (.ifCond .ne 6, 3) := by decide +kernel
theorem dX7_back_20 : decode cX7_back 20 = .ok (.bipush (-2), 2) := by decide +kernel
theorem dX7_back_22 : decode cX7_back 22 = .ok (.ireturn, 1) := by decide +kernel
theorem dX7_back_23 : decode cX7_back 23 = .ok (.aload_n 0, 1) := by decide +kernel
theorem dX7_back_24 : decode cX7_back 24 = .ok (.getfield 19, 3) := by decide +kernel
theorem dX7_back_27 : decode cX7_back 27 = .ok (.iconst 0, 1) := by decide +kernel
theorem dX7_back_28 : decode cX7_back 28 = .ok (.aload_n 0, 1) := by decide +kernel
theorem dX7_back_29 : decode cX7_back 29 = .ok (.getfield 25, 3) := by decide +kernel
theorem dX7_back_32 : decode cX7_back 32 = .ok (.bipush 14, 2) := by decide +kernel
theorem dX7_back_34 : decode cX7_back 34 = .ok (.iload_n 1, 1) := by decide +kernel
theorem dX7_back_35 : decode cX7_back 35 = .ok (.imul, 1) := by decide +kernel
theorem dX7_back_36 : decode cX7_back 36 = .ok (.invokestatic 110, 3) := by decide +kernel
theorem dX7_back_39 : decode cX7_back 39 = .ok (.aload_n 0, 1) := by decide +kernel
theorem dX7_back_40 : decode cX7_back 40 = .ok (.iconst 0, 1) := by decide +kernel
theorem dX7_back_41 : decode cX7_back 41 = .ok (.putfield 104, 3) := by decide +kernel
theorem dX7_back_44 : decode cX7_back 44 = .ok (.aload_n 0, 1) := by decide +kernel
theorem dX7_back_45 : decode cX7_back 45 = .ok (.getfield 19, 3) := by decide +kernel
theorem dX7_back_48 : decode cX7_back 48 = .ok (.iconst 0, 1) := by decide +kernel
theorem dX7_back_49 : decode cX7_back 49 = .ok (.iaload, 1) := by decide +kernel
theorem dX7_back_50 : decode cX7_back 50 = .ok (.ireturn, 1) := by decide +kernel
theorem dX7_count_0 : decode cX7_count 0 = .ok (.iload_n 1, 1) := by decide +kernel
theorem dX7_count_1 : decode cX7_count 1 = .ok (.ifCond .ne 10, 3) := by decide +kernel
theorem dX7_count_4 : decode cX7_count 4 = .ok (.aload_n 0, 1) := by decide +kernel
theorem dX7_count_5 : decode cX7_count 5 = .ok (.getfield 47, 3) := by decide +kernel
theorem dX7_count_8 : decode cX7_count 8 = .ok (.goto 28, 3) := by decide +kernel
theorem dX7_count_11 : decode cX7_count 11 = .ok (.iload_n 1, 1) := by decide +kernel
theorem dX7_count_12 : decode cX7_count 12 = .ok (.iconst 1, 1) := by decide +kernel
theorem dX7_count_13 : decode cX7_count 13 = .ok (.if_icmp .ne 10, 3) := by decide +kernel
theorem dX7_count_16 : decode cX7_count 16 = .ok (.aload_n 0, 1) := by decide +kernel
theorem dX7_count_17 : decode cX7_count 17 = .ok (.getfield 107, 3) := by decide +kernel
theorem dX7_count_20 : decode cX7_count 20 = .ok (.goto 16, 3) := by decide +kernel
theorem dX7_count_23 : decode cX7_count 23 = .ok (.iload_n 1, 1) := by decide +kernel
theorem dX7_count_24 : decode cX7_count 24 = .ok (.iconst 2, 1) := by decide +kernel
theorem dX7_count_25 : decode cX7_count 25 = .ok (.if_icmp .ne 10, 3) := by decide +kernel
theorem dX7_count_28 : decode cX7_count 28 = .ok (.aload_n 0, 1) := by decide +kernel
theorem dX7_count_29 : decode cX7_count 29 = .ok (.getfield 55, 3) := by decide +kernel
theorem dX7_count_32 : decode cX7_count 32 = .ok (.goto 4, 3) := by decide +kernel
theorem dX7_count_35 : decode cX7_count 35 = .ok (.iconst (-1), 1) := by decide +kernel
theorem dX7_count_36 : decode cX7_count 36 = .ok (.ireturn, 1) := by decide +kernel
theorem dX7_trace_0 : decode cX7_trace 0 = .ok (.aload_n 0, 1) := by decide +kernel
theorem dX7_trace_1 : decode cX7_trace 1 = .ok (.getfield 185, 3) := by decide +kernel
theorem dX7_trace_4 : decode cX7_trace 4 = .ok (.lreturn, 1) := by decide +kernel
theorem dJ6_bitCount_0f7a4_0 : decode cJ6_bitCount_0f7a4 0 = .ok (.iload_n 0, 1) := by decide +kernel
theorem dJ6_bitCount_0f7a4_1 : decode cJ6_bitCount_0f7a4 1 = .ok (.iload_n 0, 1) := by decide +kernel
theorem dJ6_bitCount_0f7a4_2 : decode cJ6_bitCount_0f7a4 2 = .ok (.iconst 1, 1) := by decide +kernel
theorem dJ6_bitCount_0f7a4_3 : decode cJ6_bitCount_0f7a4 3 = .ok (.iushr, 1) := by decide +kernel
theorem dJ6_bitCount_0f7a4_4 : decode cJ6_bitCount_0f7a4 4 = .ok (.ldc_w 265, 3) := by decide +kernel
theorem dJ6_bitCount_0f7a4_7 : decode cJ6_bitCount_0f7a4 7 = .ok (.iand, 1) := by decide +kernel
theorem dJ6_bitCount_0f7a4_8 : decode cJ6_bitCount_0f7a4 8 = .ok (.isub, 1) := by decide +kernel
theorem dJ6_bitCount_0f7a4_9 : decode cJ6_bitCount_0f7a4 9 = .ok (.istore_n 0, 1) := by decide +kernel
theorem dJ6_bitCount_0f7a4_10 : decode cJ6_bitCount_0f7a4 10 = .ok (.iload_n 0, 1) := by decide +kernel
theorem dJ6_bitCount_0f7a4_11 : decode cJ6_bitCount_0f7a4 11 = .ok (.ldc_w 266, 3) := by decide +kernel
theorem dJ6_bitCount_0f7a4_14 : decode cJ6_bitCount_0f7a4 14 = .ok (.iand, 1) := by decide +kernel
theorem dJ6_bitCount_0f7a4_15 : decode cJ6_bitCount_0f7a4 15 = .ok (.iload_n 0, 1) := by decide +kernel
theorem dJ6_bitCount_0f7a4_16 : decode cJ6_bitCount_0f7a4 16 = .ok (.iconst 2, 1) := by decide +kernel
theorem dJ6_bitCount_0f7a4_17 : decode cJ6_bitCount_0f7a4 17 = .ok (.iushr, 1) := by decide +kernel
theorem dJ6_bitCount_0f7a4_18 : decode cJ6_bitCount_0f7a4 18 = .ok (.ldc_w 266, 3) := by decide +kernel
theorem dJ6_bitCount_0f7a4_21 : decode cJ6_bitCount_0f7a4 21 = .ok (.iand, 1) := by decide +kernel
theorem dJ6_bitCount_0f7a4_22 : decode cJ6_bitCount_0f7a4 22 = .ok (.iadd, 1) := by decide +kernel
theorem dJ6_bitCount_0f7a4_23 : decode cJ6_bitCount_0f7a4 23 = .ok (.istore_n 0, 1) := by decide +kernel
theorem dJ6_bitCount_0f7a4_24 : decode cJ6_bitCount_0f7a4 24 = .ok (.iload_n 0, 1) := by decide +kernel
theorem dJ6_bitCount_0f7a4_25 : decode cJ6_bitCount_0f7a4 25 = .ok (.iload_n 0, 1) := by decide +kernel
theorem dJ6_bitCount_0f7a4_26 : decode cJ6_bitCount_0f7a4 26 = .ok (.iconst 4, 1) := by decide +kernel
theorem dJ6_bitCount_0f7a4_27 : decode cJ6_bitCount_0f7a4 27 = .ok (.iushr, 1) := by decide +kernel
theorem dJ6_bitCount_0f7a4_28 : decode cJ6_bitCount_0f7a4 28 = .ok (.iadd, 1) := by decide +kernel
theorem dJ6_bitCount_0f7a4_29 : decode cJ6_bitCount_0f7a4 29 = .ok (.ldc_w 267, 3) := by decide +kernel
theorem dJ6_bitCount_0f7a4_32 : decode cJ6_bitCount_0f7a4 32 = .ok (.iand, 1) := by decide +kernel
theorem dJ6_bitCount_0f7a4_33 : decode cJ6_bitCount_0f7a4 33 = .ok (.istore_n 0, 1) := by decide +kernel
theorem dJ6_bitCount_0f7a4_34 : decode cJ6_bitCount_0f7a4 34 = .ok (.iload_n 0, 1) := by decide +kernel
theorem dJ6_bitCount_0f7a4_35 : decode cJ6_bitCount_0f7a4 35 = .ok (.iload_n 0, 1) := by decide +kernel
theorem dJ6_bitCount_0f7a4_36 : decode cJ6_bitCount_0f7a4 36 = .ok (.bipush 8, 2) := by decide +kernel
theorem dJ6_bitCount_0f7a4_38 : decode cJ6_bitCount_0f7a4 38 = .ok (.iushr, 1) := by decide +kernel
theorem dJ6_bitCount_0f7a4_39 : decode cJ6_bitCount_0f7a4 39 = .ok (.iadd, 1) := by decide +kernel
theorem dJ6_bitCount_0f7a4_40 : decode cJ6_bitCount_0f7a4 40 = .ok (.istore_n 0, 1) := by decide +kernel
theorem dJ6_bitCount_0f7a4_41 : decode cJ6_bitCount_0f7a4 41 = .ok (.iload_n 0, 1) := by decide +kernel
theorem dJ6_bitCount_0f7a4_42 : decode cJ6_bitCount_0f7a4 42 = .ok (.iload_n 0, 1) := by decide +kernel
theorem dJ6_bitCount_0f7a4_43 : decode cJ6_bitCount_0f7a4 43 = .ok (.bipush 16, 2) := by decide +kernel
theorem dJ6_bitCount_0f7a4_45 : decode cJ6_bitCount_0f7a4 45 = .ok (.iushr, 1) := by decide +kernel
theorem dJ6_bitCount_0f7a4_46 : decode cJ6_bitCount_0f7a4 46 = .ok (.iadd, 1) := by decide +kernel
theorem dJ6_bitCount_0f7a4_47 : decode cJ6_bitCount_0f7a4 47 = .ok (.istore_n 0, 1) := by decide +kernel
theorem dJ6_bitCount_0f7a4_48 : decode cJ6_bitCount_0f7a4 48 = .ok (.iload_n 0, 1) := by decide +kernel
theorem dJ6_bitCount_0f7a4_49 : decode cJ6_bitCount_0f7a4 49 = .ok (.bipush 63, 2) := by decide +kernel
theorem dJ6_bitCount_0f7a4_51 : decode cJ6_bitCount_0f7a4 51 = .ok (.iand, 1) := by decide +kernel
theorem dJ6_bitCount_0f7a4_52 : decode cJ6_bitCount_0f7a4 52 = .ok (.ireturn, 1) := by decide +kernel
theorem dJ9_abs_0f7a4_0 : decode cJ9_abs_0f7a4 0 = .ok (.iload_n 0, 1) := by decide +kernel
theorem dJ9_abs_0f7a4_1 : decode cJ9_abs_0f7a4 1 = .ok (.ifCond .ge 8, 3) := by decide +kernel
theorem dJ9_abs_0f7a4_4 : decode cJ9_abs_0f7a4 4 = .ok (.iload_n 0, 1) := by decide +kernel
theorem dJ9_abs_0f7a4_5 : decode cJ9_abs_0f7a4 5 = .ok (.ineg, 1) := by decide +kernel
theorem dJ9_abs_0f7a4_6 : decode cJ9_abs_0f7a4 6 = .ok (.goto 4, 3) := by decide +kernel
theorem dJ9_abs_0f7a4_9 : decode cJ9_abs_0f7a4 9 = .ok (.iload_n 0, 1) := by decide +kernel
theorem dJ9_abs_0f7a4_10 : decode cJ9_abs_0f7a4 10 = .ok (.ireturn, 1) := by decide +kernel
theorem dJ9_max_7cf53_0 : decode cJ9_max_7cf53 0 = .ok (.iload_n 0, 1) := by decide +kernel
theorem dJ9_max_7cf53_1 : decode cJ9_max_7cf53 1 = .ok (.iload_n 1, 1) := by decide +kernel
theorem dJ9_max_7cf53_2 : decode cJ9_max_7cf53 2 = .ok (.if_icmp .lt 7, 3) := by decide +kernel
theorem dJ9_max_7cf53_5 : decode cJ9_max_7cf53 5 = .ok (.iload_n 0, 1) := by decide +kernel
theorem dJ9_max_7cf53_6 : decode cJ9_max_7cf53 6 = .ok (.goto 4, 3) := by decide +kernel
theorem dJ9_max_7cf53_9 : decode cJ9_max_7cf53 9 = .ok (.iload_n 1, 1) := by decide +kernel
theorem dJ9_max_7cf53_10 : decode cJ9_max_7cf53 10 = .ok (.ireturn, 1) := by decide +kernel
theorem dJ9_min_7cf53_0 : decode cJ9_min_7cf53 0 = .ok (.iload_n 0, 1) := by decide +kernel
theorem dJ9_min_7cf53_1 : decode cJ9_min_7cf53 1 = .ok (.iload_n 1, 1) := by decide +kernel
theorem dJ9_min_7cf53_2 : decode cJ9_min_7cf53 2 = .ok (.if_icmp .gt 7, 3) := by decide +kernel
theorem dJ9_min_7cf53_5 : decode cJ9_min_7cf53 5 = .ok (.iload_n 0, 1) := by decide +kernel
theorem dJ9_min_7cf53_6 : decode cJ9_min_7cf53 6 = .ok (.goto 4, 3) := by decide +kernel
theorem dJ9_min_7cf53_9 : decode cJ9_min_7cf53 9 = .ok (.iload_n 1, 1) := by decide +kernel
theorem dJ9_min_7cf53_10 : decode cJ9_min_7cf53 10 = .ok (.ireturn, 1) := by decide +kernel
theorem dL_law_0 : decode cL_law 0 = .ok (.new 7, 3) := by decide +kernel
theorem dL_law_3 : decode cL_law 3 = .ok (.dup, 1) := by decide +kernel
theorem dL_law_4 : decode cL_law 4 = .ok (.invokespecial 9, 3) := by decide +kernel
theorem dL_law_7 : decode cL_law 7 = .ok (.astore_n 1, 1) := by decide +kernel
theorem dL_law_8 : decode cL_law 8 = .ok (.new 10, 3) := by decide +kernel
theorem dL_law_11 : decode cL_law 11 = .ok (.dup, 1) := by decide +kernel
theorem dL_law_12 : decode cL_law 12 = .ok (.invokespecial 12, 3) := by decide +kernel
theorem dL_law_15 : decode cL_law 15 = .ok (.astore_n 2, 1) := by decide +kernel
theorem dL_law_16 : decode cL_law 16 = .ok (.iconst 0, 1) := by decide +kernel
theorem dL_law_17 : decode cL_law 17 = .ok (.istore_n 3, 1) := by decide +kernel
theorem dL_law_18 : decode cL_law 18 = .ok (.iload_n 3, 1) := by decide +kernel
theorem dL_law_19 : decode cL_law 19 = .ok (.aload_n 0, 1) := by decide +kernel
theorem dL_law_20 : decode cL_law 20 = .ok (.arraylength, 1) := by decide +kernel
theorem dL_law_21 : decode cL_law 21 = .ok (.iconst 5, 1) := by decide +kernel
theorem dL_law_22 : decode cL_law 22 = .ok (.isub, 1) := by decide +kernel
theorem dL_law_23 : decode cL_law 23 = .ok (.if_icmp .gt 629, 3) := by decide +kernel
theorem dL_law_26 : decode cL_law 26 = .ok (.aload_n 0, 1) := by decide +kernel
theorem dL_law_27 : decode cL_law 27 = .ok (.iload_n 3, 1) := by decide +kernel
theorem dL_law_28 : decode cL_law 28 = .ok (.iaload, 1) := by decide +kernel
theorem dL_law_29 : decode cL_law 29 = .ok (.bipush 31, 2) := by decide +kernel
theorem dL_law_31 : decode cL_law 31 = .ok (.iand, 1) := by decide +kernel
theorem dL_law_32 : decode cL_law 32 = .ok (.tableswitch 614 0 20 #[100, 123, 136, 149, 182, 205, 228, 251, 284, 297, 320, 343, 396, 439, 452, 475, 498, 531, 554, 577, 600], 100) := by decide +kernel
theorem dL_law_132 : decode cL_law 132 = .ok (.aload_n 1, 1) := by decide +kernel
theorem dL_law_133 : decode cL_law 133 = .ok (.aload_n 0, 1) := by decide +kernel
theorem dL_law_134 : decode cL_law 134 = .ok (.iload_n 3, 1) := by decide +kernel
theorem dL_law_135 : decode cL_law 135 = .ok (.iconst 1, 1) := by decide +kernel
theorem dL_law_136 : decode cL_law 136 = .ok (.iadd, 1) := by decide +kernel
theorem dL_law_137 : decode cL_law 137 = .ok (.iaload, 1) := by decide +kernel
theorem dL_law_138 : decode cL_law 138 = .ok (.invokevirtual 13, 3) := by decide +kernel
theorem dL_law_141 : decode cL_law 141 = .ok (.aload_n 2, 1) := by decide +kernel
theorem dL_law_142 : decode cL_law 142 = .ok (.aload_n 0, 1) := by decide +kernel
theorem dL_law_143 : decode cL_law 143 = .ok (.iload_n 3, 1) := by decide +kernel
theorem dL_law_144 : decode cL_law 144 = .ok (.iconst 1, 1) := by decide +kernel
theorem dL_law_145 : decode cL_law 145 = .ok (.iadd, 1) := by decide +kernel
theorem dL_law_146 : decode cL_law 146 = .ok (.iaload, 1) := by decide +kernel
theorem dL_law_147 : decode cL_law 147 = .ok (.invokevirtual 17, 3) := by decide +kernel
theorem dL_law_150 : decode cL_law 150 = .ok (.if_icmp .eq 496, 3) := by decide +kernel
theorem dL_law_153 : decode cL_law 153 = .ok (.iconst 0, 1) := by decide +kernel
theorem dL_law_154 : decode cL_law 154 = .ok (.ireturn, 1) := by decide +kernel
theorem dL_law_155 : decode cL_law 155 = .ok (.aload_n 1, 1) := by decide +kernel
theorem dL_law_156 : decode cL_law 156 = .ok (.invokevirtual 18, 3) := by decide +kernel
theorem dL_law_159 : decode cL_law 159 = .ok (.aload_n 2, 1) := by decide +kernel
theorem dL_law_160 : decode cL_law 160 = .ok (.invokevirtual 22, 3) := by decide +kernel
theorem dL_law_163 : decode cL_law 163 = .ok (.if_icmp .eq 483, 3) := by decide +kernel
theorem dL_law_166 : decode cL_law 166 = .ok (.iconst 0, 1) := by decide +kernel
theorem dL_law_167 : decode cL_law 167 = .ok (.ireturn, 1) := by decide +kernel
theorem dL_law_168 : decode cL_law 168 = .ok (.aload_n 1, 1) := by decide +kernel
theorem dL_law_169 : decode cL_law 169 = .ok (.invokevirtual 23, 3) := by decide +kernel
theorem dL_law_172 : decode cL_law 172 = .ok (.aload_n 2, 1) := by decide +kernel
theorem dL_law_173 : decode cL_law 173 = .ok (.invokevirtual 26, 3) := by decide +kernel
theorem dL_law_176 : decode cL_law 176 = .ok (.if_icmp .eq 470, 3) := by decide +kernel
theorem dL_law_179 : decode cL_law 179 = .ok (.iconst 0, 1) := by decide +kernel
theorem dL_law_180 : decode cL_law 180 = .ok (.ireturn, 1) := by decide +kernel
theorem dL_law_181 : decode cL_law 181 = .ok (.aload_n 1, 1) := by decide +kernel
theorem dL_law_182 : decode cL_law 182 = .ok (.aload_n 0, 1) := by decide +kernel
theorem dL_law_183 : decode cL_law 183 = .ok (.iload_n 3, 1) := by decide +kernel
theorem dL_law_184 : decode cL_law 184 = .ok (.iconst 1, 1) := by decide +kernel
theorem dL_law_185 : decode cL_law 185 = .ok (.iadd, 1) := by decide +kernel
theorem dL_law_186 : decode cL_law 186 = .ok (.iaload, 1) := by decide +kernel
theorem dL_law_187 : decode cL_law 187 = .ok (.aload_n 0, 1) := by decide +kernel
theorem dL_law_188 : decode cL_law 188 = .ok (.iload_n 3, 1) := by decide +kernel
theorem dL_law_189 : decode cL_law 189 = .ok (.iconst 2, 1) := by decide +kernel
theorem dL_law_190 : decode cL_law 190 = .ok (.iadd, 1) := by decide +kernel
theorem dL_law_191 : decode cL_law 191 = .ok (.iaload, 1) := by decide +kernel
theorem dL_law_192 : decode cL_law 192 = .ok (.invokevirtual 27, 3) := by decide +kernel
theorem dL_law_195 : decode cL_law 195 = .ok (.aload_n 2, 1) := by decide +kernel
theorem dL_law_196 : decode cL_law 196 = .ok (.aload_n 0, 1) := by decide +kernel
theorem dL_law_197 : decode cL_law 197 = .ok (.iload_n 3, 1) := by decide +kernel
theorem dL_law_198 : decode cL_law 198 = .ok (.iconst 1, 1) := by decide +kernel
theorem dL_law_199 : decode cL_law 199 = .ok (.iadd, 1) := by decide +kernel
theorem dL_law_200 : decode cL_law 200 = .ok (.iaload, 1) := by decide +kernel
theorem dL_law_201 : decode cL_law 201 = .ok (.aload_n 0, 1) := by decide +kernel
theorem dL_law_202 : decode cL_law 202 = .ok (.iload_n 3, 1) := by decide +kernel
theorem dL_law_203 : decode cL_law 203 = .ok (.iconst 2, 1) := by decide +kernel
theorem dL_law_204 : decode cL_law 204 = .ok (.iadd, 1) := by decide +kernel
theorem dL_law_205 : decode cL_law 205 = .ok (.iaload, 1) := by decide +kernel
theorem dL_law_206 : decode cL_law 206 = .ok (.invokevirtual 31, 3) := by decide +kernel
theorem dL_law_209 : decode cL_law 209 = .ok (.if_icmp .eq 437, 3) := by decide +kernel
theorem dL_law_212 : decode cL_law 212 = .ok (.iconst 0, 1) := by decide +kernel
theorem dL_law_213 : decode cL_law 213 = .ok (.ireturn, 1) := by decide +kernel
theorem dL_law_214 : decode cL_law 214 = .ok (.aload_n 1, 1) := by decide +kernel
theorem dL_law_215 : decode cL_law 215 = .ok (.aload_n 0, 1) := by decide +kernel
theorem dL_law_216 : decode cL_law 216 = .ok (.iload_n 3, 1) := by decide +kernel
theorem dL_law_217 : decode cL_law 217 = .ok (.iconst 1, 1) := by decide +kernel
theorem dL_law_218 : decode cL_law 218 = .ok (.iadd, 1) := by decide +kernel
theorem dL_law_219 : decode cL_law 219 = .ok (.iaload, 1) := by decide +kernel
theorem dL_law_220 : decode cL_law 220 = .ok (.invokevirtual 32, 3) := by decide +kernel
theorem dL_law_223 : decode cL_law 223 = .ok (.aload_n 2, 1) := by decide +kernel
theorem dL_law_224 : decode cL_law 224 = .ok (.aload_n 0, 1) := by decide +kernel
theorem dL_law_225 : decode cL_law 225 = .ok (.iload_n 3, 1) := by decide +kernel
theorem dL_law_226 : decode cL_law 226 = .ok (.iconst 1, 1) := by decide +kernel
theorem dL_law_227 : decode cL_law 227 = .ok (.iadd, 1) := by decide +kernel
theorem dL_law_228 : decode cL_law 228 = .ok (.iaload, 1) := by decide +kernel
theorem dL_law_229 : decode cL_law 229 = .ok (.invokevirtual 35, 3) := by decide +kernel
theorem dL_law_232 : decode cL_law 232 = .ok (.if_icmp .eq 414, 3) := by decide +kernel
theorem dL_law_235 : decode cL_law 235 = .ok (.iconst 0, 1) := by decide +kernel
theorem dL_law_236 : decode cL_law 236 = .ok (.ireturn, 1) := by decide +kernel
theorem dL_law_237 : decode cL_law 237 = .ok (.aload_n 1, 1) := by decide +kernel
theorem dL_law_238 : decode cL_law 238 = .ok (.aload_n 0, 1) := by decide +kernel
theorem dL_law_239 : decode cL_law 239 = .ok (.iload_n 3, 1) := by decide +kernel
theorem dL_law_240 : decode cL_law 240 = .ok (.iconst 1, 1) := by decide +kernel
theorem dL_law_241 : decode cL_law 241 = .ok (.iadd, 1) := by decide +kernel
theorem dL_law_242 : decode cL_law 242 = .ok (.iaload, 1) := by decide +kernel
theorem dL_law_243 : decode cL_law 243 = .ok (.invokevirtual 36, 3) := by decide +kernel
theorem dL_law_246 : decode cL_law 246 = .ok (.aload_n 2, 1) := by decide +kernel
theorem dL_law_247 : decode cL_law 247 = .ok (.aload_n 0, 1) := by decide +kernel
theorem dL_law_248 : decode cL_law 248 = .ok (.iload_n 3, 1) := by decide +kernel
theorem dL_law_249 : decode cL_law 249 = .ok (.iconst 1, 1) := by decide +kernel
theorem dL_law_250 : decode cL_law 250 = .ok (.iadd, 1) := by decide +kernel
theorem dL_law_251 : decode cL_law 251 = .ok (.iaload, 1) := by decide +kernel
theorem dL_law_252 : decode cL_law 252 = .ok (.invokevirtual 39, 3) := by decide +kernel
theorem dL_law_255 : decode cL_law 255 = .ok (.if_icmp .eq 391, 3) := by decide +kernel
theorem dL_law_258 : decode cL_law 258 = .ok (.iconst 0, 1) := by decide +kernel
theorem dL_law_259 : decode cL_law 259 = .ok (.ireturn, 1) := by decide +kernel
theorem dL_law_260 : decode cL_law 260 = .ok (.aload_n 1, 1) := by decide +kernel
theorem dL_law_261 : decode cL_law 261 = .ok (.aload_n 0, 1) := by decide +kernel
theorem dL_law_262 : decode cL_law 262 = .ok (.iload_n 3, 1) := by decide +kernel
theorem dL_law_263 : decode cL_law 263 = .ok (.iconst 1, 1) := by decide +kernel
theorem dL_law_264 : decode cL_law 264 = .ok (.iadd, 1) := by decide +kernel
theorem dL_law_265 : decode cL_law 265 = .ok (.iaload, 1) := by decide +kernel
theorem dL_law_266 : decode cL_law 266 = .ok (.invokevirtual 40, 3) := by decide +kernel
theorem dL_law_269 : decode cL_law 269 = .ok (.aload_n 2, 1) := by decide +kernel
theorem dL_law_270 : decode cL_law 270 = .ok (.aload_n 0, 1) := by decide +kernel
theorem dL_law_271 : decode cL_law 271 = .ok (.iload_n 3, 1) := by decide +kernel
theorem dL_law_272 : decode cL_law 272 = .ok (.iconst 1, 1) := by decide +kernel
theorem dL_law_273 : decode cL_law 273 = .ok (.iadd, 1) := by decide +kernel
theorem dL_law_274 : decode cL_law 274 = .ok (.iaload, 1) := by decide +kernel
theorem dL_law_275 : decode cL_law 275 = .ok (.invokevirtual 43, 3) := by decide +kernel
theorem dL_law_278 : decode cL_law 278 = .ok (.if_icmp .eq 368, 3) := by decide +kernel
theorem dL_law_281 : decode cL_law 281 = .ok (.iconst 0, 1) := by decide +kernel
theorem dL_law_282 : decode cL_law 282 = .ok (.ireturn, 1) := by decide +kernel
theorem dL_law_283 : decode cL_law 283 = .ok (.aload_n 1, 1) := by decide +kernel
theorem dL_law_284 : decode cL_law 284 = .ok (.aload_n 0, 1) := by decide +kernel
theorem dL_law_285 : decode cL_law 285 = .ok (.iload_n 3, 1) := by decide +kernel
theorem dL_law_286 : decode cL_law 286 = .ok (.iconst 1, 1) := by decide +kernel
theorem dL_law_287 : decode cL_law 287 = .ok (.iadd, 1) := by decide +kernel
theorem dL_law_288 : decode cL_law 288 = .ok (.iaload, 1) := by decide +kernel
theorem dL_law_289 : decode cL_law 289 = .ok (.aload_n 0, 1) := by decide +kernel
theorem dL_law_290 : decode cL_law 290 = .ok (.iload_n 3, 1) := by decide +kernel
theorem dL_law_291 : decode cL_law 291 = .ok (.iconst 2, 1) := by decide +kernel
theorem dL_law_292 : decode cL_law 292 = .ok (.iadd, 1) := by decide +kernel
theorem dL_law_293 : decode cL_law 293 = .ok (.iaload, 1) := by decide +kernel
theorem dL_law_294 : decode cL_law 294 = .ok (.invokevirtual 44, 3) := by decide +kernel
theorem dL_law_297 : decode cL_law 297 = .ok (.aload_n 2, 1) := by decide +kernel
theorem dL_law_298 : decode cL_law 298 = .ok (.aload_n 0, 1) := by decide +kernel
theorem dL_law_299 : decode cL_law 299 = .ok (.iload_n 3, 1) := by decide +kernel
theorem dL_law_300 : decode cL_law 300 = .ok (.iconst 1, 1) := by decide +kernel
theorem dL_law_301 : decode cL_law 301 = .ok (.iadd, 1) := by decide +kernel
theorem dL_law_302 : decode cL_law 302 = .ok (.iaload, 1) := by decide +kernel
theorem dL_law_303 : decode cL_law 303 = .ok (.aload_n 0, 1) := by decide +kernel
theorem dL_law_304 : decode cL_law 304 = .ok (.iload_n 3, 1) := by decide +kernel
theorem dL_law_305 : decode cL_law 305 = .ok (.iconst 2, 1) := by decide +kernel
theorem dL_law_306 : decode cL_law 306 = .ok (.iadd, 1) := by decide +kernel
theorem dL_law_307 : decode cL_law 307 = .ok (.iaload, 1) := by decide +kernel
theorem dL_law_308 : decode cL_law 308 = .ok (.invokevirtual 47, 3) := by decide +kernel
theorem dL_law_311 : decode cL_law 311 = .ok (.if_icmp .eq 335, 3) := by decide +kernel
theorem dL_law_314 : decode cL_law 314 = .ok (.iconst 0, 1) := by decide +kernel
theorem dL_law_315 : decode cL_law 315 = .ok (.ireturn, 1) := by decide +kernel
theorem dL_law_316 : decode cL_law 316 = .ok (.aload_n 1, 1) := by decide +kernel
theorem dL_law_317 : decode cL_law 317 = .ok (.invokevirtual 48, 3) := by decide +kernel
theorem dL_law_320 : decode cL_law 320 = .ok (.aload_n 2, 1) := by decide +kernel
theorem dL_law_321 : decode cL_law 321 = .ok (.invokevirtual 51, 3) := by decide +kernel
theorem dL_law_324 : decode cL_law 324 = .ok (.if_icmp .eq 322, 3) := by decide +kernel
theorem dL_law_327 : decode cL_law 327 = .ok (.iconst 0, 1) := by decide +kernel
theorem dL_law_328 : decode cL_law 328 = .ok (.ireturn, 1) := by decide +kernel
theorem dL_law_329 : decode cL_law 329 = .ok (.aload_n 1, 1) := by decide +kernel
theorem dL_law_330 : decode cL_law 330 = .ok (.aload_n 0, 1) := by decide +kernel
theorem dL_law_331 : decode cL_law 331 = .ok (.iload_n 3, 1) := by decide +kernel
theorem dL_law_332 : decode cL_law 332 = .ok (.iconst 1, 1) := by decide +kernel
theorem dL_law_333 : decode cL_law 333 = .ok (.iadd, 1) := by decide +kernel
theorem dL_law_334 : decode cL_law 334 = .ok (.iaload, 1) := by decide +kernel
theorem dL_law_335 : decode cL_law 335 = .ok (.invokevirtual 52, 3) := by decide +kernel
theorem dL_law_338 : decode cL_law 338 = .ok (.aload_n 2, 1) := by decide +kernel
theorem dL_law_339 : decode cL_law 339 = .ok (.aload_n 0, 1) := by decide +kernel
theorem dL_law_340 : decode cL_law 340 = .ok (.iload_n 3, 1) := by decide +kernel
theorem dL_law_341 : decode cL_law 341 = .ok (.iconst 1, 1) := by decide +kernel
theorem dL_law_342 : decode cL_law 342 = .ok (.iadd, 1) := by decide +kernel
theorem dL_law_343 : decode cL_law 343 = .ok (.iaload, 1) := by decide +kernel
theorem dL_law_344 : decode cL_law 344 = .ok (.invokevirtual 55, 3) := by decide +kernel
theorem dL_law_347 : decode cL_law 347 = .ok (.if_icmp .eq 299, 3) := by decide +kernel
theorem dL_law_350 : decode cL_law 350 = .ok (.iconst 0, 1) := by decide +kernel
theorem dL_law_351 : decode cL_law 351 = .ok (.ireturn, 1) := by decide +kernel
theorem dL_law_352 : decode cL_law 352 = .ok (.aload_n 1, 1) := by decide +kernel
theorem dL_law_353 : decode cL_law 353 = .ok (.aload_n 0, 1) := by decide +kernel
theorem dL_law_354 : decode cL_law 354 = .ok (.iload_n 3, 1) := by decide +kernel
theorem dL_law_355 : decode cL_law 355 = .ok (.iconst 1, 1) := by decide +kernel
theorem dL_law_356 : decode cL_law 356 = .ok (.iadd, 1) := by decide +kernel
theorem dL_law_357 : decode cL_law 357 = .ok (.iaload, 1) := by decide +kernel
theorem dL_law_358 : decode cL_law 358 = .ok (.invokevirtual 56, 3) := by decide +kernel
theorem dL_law_361 : decode cL_law 361 = .ok (.aload_n 2, 1) := by decide +kernel
theorem dL_law_362 : decode cL_law 362 = .ok (.aload_n 0, 1) := by decide +kernel
theorem dL_law_363 : decode cL_law 363 = .ok (.iload_n 3, 1) := by decide +kernel
theorem dL_law_364 : decode cL_law 364 = .ok (.iconst 1, 1) := by decide +kernel
theorem dL_law_365 : decode cL_law 365 = .ok (.iadd, 1) := by decide +kernel
theorem dL_law_366 : decode cL_law 366 = .ok (.iaload, 1) := by decide +kernel
theorem dL_law_367 : decode cL_law 367 = .ok (.invokevirtual 59, 3) := by decide +kernel
theorem dL_law_370 : decode cL_law 370 = .ok (.if_icmp .eq 276, 3) := by decide +kernel
theorem dL_law_373 : decode cL_law 373 = .ok (.iconst 0, 1) := by decide +kernel
theorem dL_law_374 : decode cL_law 374 = .ok (.ireturn, 1) := by decide +kernel
theorem dL_law_375 : decode cL_law 375 = .ok (.aload_n 1, 1) := by decide +kernel
theorem dL_law_376 : decode cL_law 376 = .ok (.aload_n 0, 1) := by decide +kernel
theorem dL_law_377 : decode cL_law 377 = .ok (.iload_n 3, 1) := by decide +kernel
theorem dL_law_378 : decode cL_law 378 = .ok (.iconst 1, 1) := by decide +kernel
theorem dL_law_379 : decode cL_law 379 = .ok (.iadd, 1) := by decide +kernel
theorem dL_law_380 : decode cL_law 380 = .ok (.iaload, 1) := by decide +kernel
theorem dL_law_381 : decode cL_law 381 = .ok (.aload_n 0, 1) := by decide +kernel
theorem dL_law_382 : decode cL_law 382 = .ok (.iload_n 3, 1) := by decide +kernel
theorem dL_law_383 : decode cL_law 383 = .ok (.iconst 2, 1) := by decide +kernel
theorem dL_law_384 : decode cL_law 384 = .ok (.iadd, 1) := by decide +kernel
theorem dL_law_385 : decode cL_law 385 = .ok (.iaload, 1) := by decide +kernel
theorem dL_law_386 : decode cL_law 386 = .ok (.aload_n 0, 1) := by decide +kernel
theorem dL_law_387 : decode cL_law 387 = .ok (.iload_n 3, 1) := by decide +kernel
theorem dL_law_388 : decode cL_law 388 = .ok (.iconst 3, 1) := by decide +kernel
theorem dL_law_389 : decode cL_law 389 = .ok (.iadd, 1) := by decide +kernel
theorem dL_law_390 : decode cL_law 390 = .ok (.iaload, 1) := by decide +kernel
theorem dL_law_391 : decode cL_law 391 = .ok (.aload_n 0, 1) := by decide +kernel
theorem dL_law_392 : decode cL_law 392 = .ok (.iload_n 3, 1) := by decide +kernel
theorem dL_law_393 : decode cL_law 393 = .ok (.iconst 4, 1) := by decide +kernel
theorem dL_law_394 : decode cL_law 394 = .ok (.iadd, 1) := by decide +kernel
theorem dL_law_395 : decode cL_law 395 = .ok (.iaload, 1) := by decide +kernel
theorem dL_law_396 : decode cL_law 396 = .ok (.invokevirtual 60, 3) := by decide +kernel
theorem dL_law_399 : decode cL_law 399 = .ok (.aload_n 2, 1) := by decide +kernel
theorem dL_law_400 : decode cL_law 400 = .ok (.aload_n 0, 1) := by decide +kernel
theorem dL_law_401 : decode cL_law 401 = .ok (.iload_n 3, 1) := by decide +kernel
theorem dL_law_402 : decode cL_law 402 = .ok (.iconst 1, 1) := by decide +kernel
theorem dL_law_403 : decode cL_law 403 = .ok (.iadd, 1) := by decide +kernel
theorem dL_law_404 : decode cL_law 404 = .ok (.iaload, 1) := by decide +kernel
theorem dL_law_405 : decode cL_law 405 = .ok (.aload_n 0, 1) := by decide +kernel
theorem dL_law_406 : decode cL_law 406 = .ok (.iload_n 3, 1) := by decide +kernel
theorem dL_law_407 : decode cL_law 407 = .ok (.iconst 2, 1) := by decide +kernel
theorem dL_law_408 : decode cL_law 408 = .ok (.iadd, 1) := by decide +kernel
theorem dL_law_409 : decode cL_law 409 = .ok (.iaload, 1) := by decide +kernel
theorem dL_law_410 : decode cL_law 410 = .ok (.aload_n 0, 1) := by decide +kernel
theorem dL_law_411 : decode cL_law 411 = .ok (.iload_n 3, 1) := by decide +kernel
theorem dL_law_412 : decode cL_law 412 = .ok (.iconst 3, 1) := by decide +kernel
theorem dL_law_413 : decode cL_law 413 = .ok (.iadd, 1) := by decide +kernel
theorem dL_law_414 : decode cL_law 414 = .ok (.iaload, 1) := by decide +kernel
theorem dL_law_415 : decode cL_law 415 = .ok (.aload_n 0, 1) := by decide +kernel
theorem dL_law_416 : decode cL_law 416 = .ok (.iload_n 3, 1) := by decide +kernel
theorem dL_law_417 : decode cL_law 417 = .ok (.iconst 4, 1) := by decide +kernel
theorem dL_law_418 : decode cL_law 418 = .ok (.iadd, 1) := by decide +kernel
theorem dL_law_419 : decode cL_law 419 = .ok (.iaload, 1) := by decide +kernel
theorem dL_law_420 : decode cL_law 420 = .ok (.invokevirtual 64, 3) := by decide +kernel
theorem dL_law_423 : decode cL_law 423 = .ok (.if_icmp .eq 223, 3) := by decide +kernel
theorem dL_law_426 : decode cL_law 426 = .ok (.iconst 0, 1) := by decide +kernel
theorem dL_law_427 : decode cL_law 427 = .ok (.ireturn, 1) := by decide +kernel
theorem dL_law_428 : decode cL_law 428 = .ok (.aload_n 1, 1) := by decide +kernel
theorem dL_law_429 : decode cL_law 429 = .ok (.aload_n 0, 1) := by decide +kernel
theorem dL_law_430 : decode cL_law 430 = .ok (.iload_n 3, 1) := by decide +kernel
theorem dL_law_431 : decode cL_law 431 = .ok (.iconst 1, 1) := by decide +kernel
theorem dL_law_432 : decode cL_law 432 = .ok (.iadd, 1) := by decide +kernel
theorem dL_law_433 : decode cL_law 433 = .ok (.iaload, 1) := by decide +kernel
theorem dL_law_434 : decode cL_law 434 = .ok (.aload_n 0, 1) := by decide +kernel
theorem dL_law_435 : decode cL_law 435 = .ok (.iload_n 3, 1) := by decide +kernel
theorem dL_law_436 : decode cL_law 436 = .ok (.iconst 2, 1) := by decide +kernel
theorem dL_law_437 : decode cL_law 437 = .ok (.iadd, 1) := by decide +kernel
theorem dL_law_438 : decode cL_law 438 = .ok (.iaload, 1) := by decide +kernel
theorem dL_law_439 : decode cL_law 439 = .ok (.aload_n 0, 1) := by decide +kernel
theorem dL_law_440 : decode cL_law 440 = .ok (.iload_n 3, 1) := by decide +kernel
theorem dL_law_441 : decode cL_law 441 = .ok (.iconst 3, 1) := by decide +kernel
theorem dL_law_442 : decode cL_law 442 = .ok (.iadd, 1) := by decide +kernel
theorem dL_law_443 : decode cL_law 443 = .ok (.iaload, 1) := by decide +kernel
theorem dL_law_444 : decode cL_law 444 = .ok (.invokevirtual 65, 3) := by decide +kernel
theorem dL_law_447 : decode cL_law 447 = .ok (.aload_n 2, 1) := by decide +kernel
theorem dL_law_448 : decode cL_law 448 = .ok (.aload_n 0, 1) := by decide +kernel
theorem dL_law_449 : decode cL_law 449 = .ok (.iload_n 3, 1) := by decide +kernel
theorem dL_law_450 : decode cL_law 450 = .ok (.iconst 1, 1) := by decide +kernel
theorem dL_law_451 : decode cL_law 451 = .ok (.iadd, 1) := by decide +kernel
theorem dL_law_452 : decode cL_law 452 = .ok (.iaload, 1) := by decide +kernel
theorem dL_law_453 : decode cL_law 453 = .ok (.aload_n 0, 1) := by decide +kernel
theorem dL_law_454 : decode cL_law 454 = .ok (.iload_n 3, 1) := by decide +kernel
theorem dL_law_455 : decode cL_law 455 = .ok (.iconst 2, 1) := by decide +kernel
theorem dL_law_456 : decode cL_law 456 = .ok (.iadd, 1) := by decide +kernel
theorem dL_law_457 : decode cL_law 457 = .ok (.iaload, 1) := by decide +kernel
theorem dL_law_458 : decode cL_law 458 = .ok (.aload_n 0, 1) := by decide +kernel
theorem dL_law_459 : decode cL_law 459 = .ok (.iload_n 3, 1) := by decide +kernel
theorem dL_law_460 : decode cL_law 460 = .ok (.iconst 3, 1) := by decide +kernel
theorem dL_law_461 : decode cL_law 461 = .ok (.iadd, 1) := by decide +kernel
theorem dL_law_462 : decode cL_law 462 = .ok (.iaload, 1) := by decide +kernel
theorem dL_law_463 : decode cL_law 463 = .ok (.invokevirtual 69, 3) := by decide +kernel
theorem dL_law_466 : decode cL_law 466 = .ok (.if_icmp .eq 180, 3) := by decide +kernel
theorem dL_law_469 : decode cL_law 469 = .ok (.iconst 0, 1) := by decide +kernel
theorem dL_law_470 : decode cL_law 470 = .ok (.ireturn, 1) := by decide +kernel
theorem dL_law_471 : decode cL_law 471 = .ok (.aload_n 1, 1) := by decide +kernel
theorem dL_law_472 : decode cL_law 472 = .ok (.invokevirtual 70, 3) := by decide +kernel
theorem dL_law_475 : decode cL_law 475 = .ok (.aload_n 2, 1) := by decide +kernel
theorem dL_law_476 : decode cL_law 476 = .ok (.invokevirtual 73, 3) := by decide +kernel
theorem dL_law_479 : decode cL_law 479 = .ok (.if_icmp .eq 167, 3) := by decide +kernel
theorem dL_law_482 : decode cL_law 482 = .ok (.iconst 0, 1) := by decide +kernel
theorem dL_law_483 : decode cL_law 483 = .ok (.ireturn, 1) := by decide +kernel
theorem dL_law_484 : decode cL_law 484 = .ok (.aload_n 1, 1) := by decide +kernel
theorem dL_law_485 : decode cL_law 485 = .ok (.aload_n 0, 1) := by decide +kernel
theorem dL_law_486 : decode cL_law 486 = .ok (.iload_n 3, 1) := by decide +kernel
theorem dL_law_487 : decode cL_law 487 = .ok (.iconst 1, 1) := by decide +kernel
theorem dL_law_488 : decode cL_law 488 = .ok (.iadd, 1) := by decide +kernel
theorem dL_law_489 : decode cL_law 489 = .ok (.iaload, 1) := by decide +kernel
theorem dL_law_490 : decode cL_law 490 = .ok (.invokevirtual 74, 3) := by decide +kernel
theorem dL_law_493 : decode cL_law 493 = .ok (.aload_n 2, 1) := by decide +kernel
theorem dL_law_494 : decode cL_law 494 = .ok (.aload_n 0, 1) := by decide +kernel
theorem dL_law_495 : decode cL_law 495 = .ok (.iload_n 3, 1) := by decide +kernel
theorem dL_law_496 : decode cL_law 496 = .ok (.iconst 1, 1) := by decide +kernel
theorem dL_law_497 : decode cL_law 497 = .ok (.iadd, 1) := by decide +kernel
theorem dL_law_498 : decode cL_law 498 = .ok (.iaload, 1) := by decide +kernel
theorem dL_law_499 : decode cL_law 499 = .ok (.invokevirtual 77, 3) := by decide +kernel
theorem dL_law_502 : decode cL_law 502 = .ok (.if_icmp .eq 144, 3) := by decide +kernel
theorem dL_law_505 : decode cL_law 505 = .ok (.iconst 0, 1) := by decide +kernel
theorem dL_law_506 : decode cL_law 506 = .ok (.ireturn, 1) := by decide +kernel
theorem dL_law_507 : decode cL_law 507 = .ok (.aload_n 1, 1) := by decide +kernel
theorem dL_law_508 : decode cL_law 508 = .ok (.aload_n 0, 1) := by decide +kernel
theorem dL_law_509 : decode cL_law 509 = .ok (.iload_n 3, 1) := by decide +kernel
theorem dL_law_510 : decode cL_law 510 = .ok (.iconst 1, 1) := by decide +kernel
theorem dL_law_511 : decode cL_law 511 = .ok (.iadd, 1) := by decide +kernel
theorem dL_law_512 : decode cL_law 512 = .ok (.iaload, 1) := by decide +kernel
theorem dL_law_513 : decode cL_law 513 = .ok (.invokevirtual 78, 3) := by decide +kernel
theorem dL_law_516 : decode cL_law 516 = .ok (.aload_n 2, 1) := by decide +kernel
theorem dL_law_517 : decode cL_law 517 = .ok (.aload_n 0, 1) := by decide +kernel
theorem dL_law_518 : decode cL_law 518 = .ok (.iload_n 3, 1) := by decide +kernel
theorem dL_law_519 : decode cL_law 519 = .ok (.iconst 1, 1) := by decide +kernel
theorem dL_law_520 : decode cL_law 520 = .ok (.iadd, 1) := by decide +kernel
theorem dL_law_521 : decode cL_law 521 = .ok (.iaload, 1) := by decide +kernel
theorem dL_law_522 : decode cL_law 522 = .ok (.invokevirtual 81, 3) := by decide +kernel
theorem dL_law_525 : decode cL_law 525 = .ok (.if_icmp .eq 121, 3) := by decide +kernel
theorem dL_law_528 : decode cL_law 528 = .ok (.iconst 0, 1) := by decide +kernel
theorem dL_law_529 : decode cL_law 529 = .ok (.ireturn, 1) := by decide +kernel
theorem dL_law_530 : decode cL_law 530 = .ok (.aload_n 1, 1) := by decide +kernel
theorem dL_law_531 : decode cL_law 531 = .ok (.aload_n 0, 1) := by decide +kernel
theorem dL_law_532 : decode cL_law 532 = .ok (.iload_n 3, 1) := by decide +kernel
theorem dL_law_533 : decode cL_law 533 = .ok (.iconst 1, 1) := by decide +kernel
theorem dL_law_534 : decode cL_law 534 = .ok (.iadd, 1) := by decide +kernel
theorem dL_law_535 : decode cL_law 535 = .ok (.iaload, 1) := by decide +kernel
theorem dL_law_536 : decode cL_law 536 = .ok (.aload_n 0, 1) := by decide +kernel
theorem dL_law_537 : decode cL_law 537 = .ok (.iload_n 3, 1) := by decide +kernel
theorem dL_law_538 : decode cL_law 538 = .ok (.iconst 2, 1) := by decide +kernel
theorem dL_law_539 : decode cL_law 539 = .ok (.iadd, 1) := by decide +kernel
theorem dL_law_540 : decode cL_law 540 = .ok (.iaload, 1) := by decide +kernel
theorem dL_law_541 : decode cL_law 541 = .ok (.invokevirtual 82, 3) := by decide +kernel
theorem dL_law_544 : decode cL_law 544 = .ok (.aload_n 2, 1) := by decide +kernel
theorem dL_law_545 : decode cL_law 545 = .ok (.aload_n 0, 1) := by decide +kernel
theorem dL_law_546 : decode cL_law 546 = .ok (.iload_n 3, 1) := by decide +kernel
theorem dL_law_547 : decode cL_law 547 = .ok (.iconst 1, 1) := by decide +kernel
theorem dL_law_548 : decode cL_law 548 = .ok (.iadd, 1) := by decide +kernel
theorem dL_law_549 : decode cL_law 549 = .ok (.iaload, 1) := by decide +kernel
theorem dL_law_550 : decode cL_law 550 = .ok (.aload_n 0, 1) := by decide +kernel
theorem dL_law_551 : decode cL_law 551 = .ok (.iload_n 3, 1) := by decide +kernel
theorem dL_law_552 : decode cL_law 552 = .ok (.iconst 2, 1) := by decide +kernel
theorem dL_law_553 : decode cL_law 553 = .ok (.iadd, 1) := by decide +kernel
theorem dL_law_554 : decode cL_law 554 = .ok (.iaload, 1) := by decide +kernel
theorem dL_law_555 : decode cL_law 555 = .ok (.invokevirtual 85, 3) := by decide +kernel
theorem dL_law_558 : decode cL_law 558 = .ok (.if_icmp .eq 88, 3) := by decide +kernel
theorem dL_law_561 : decode cL_law 561 = .ok (.iconst 0, 1) := by decide +kernel
theorem dL_law_562 : decode cL_law 562 = .ok (.ireturn, 1) := by decide +kernel
theorem dL_law_563 : decode cL_law 563 = .ok (.aload_n 1, 1) := by decide +kernel
theorem dL_law_564 : decode cL_law 564 = .ok (.aload_n 0, 1) := by decide +kernel
theorem dL_law_565 : decode cL_law 565 = .ok (.iload_n 3, 1) := by decide +kernel
theorem dL_law_566 : decode cL_law 566 = .ok (.iconst 1, 1) := by decide +kernel
theorem dL_law_567 : decode cL_law 567 = .ok (.iadd, 1) := by decide +kernel
theorem dL_law_568 : decode cL_law 568 = .ok (.iaload, 1) := by decide +kernel
theorem dL_law_569 : decode cL_law 569 = .ok (.invokevirtual 86, 3) := by decide +kernel
theorem dL_law_572 : decode cL_law 572 = .ok (.aload_n 2, 1) := by decide +kernel
theorem dL_law_573 : decode cL_law 573 = .ok (.aload_n 0, 1) := by decide +kernel
theorem dL_law_574 : decode cL_law 574 = .ok (.iload_n 3, 1) := by decide +kernel
theorem dL_law_575 : decode cL_law 575 = .ok (.iconst 1, 1) := by decide +kernel
theorem dL_law_576 : decode cL_law 576 = .ok (.iadd, 1) := by decide +kernel
theorem dL_law_577 : decode cL_law 577 = .ok (.iaload, 1) := by decide +kernel
theorem dL_law_578 : decode cL_law 578 = .ok (.invokevirtual 89, 3) := by decide +kernel
theorem dL_law_581 : decode cL_law 581 = .ok (.if_icmp .eq 65, 3) := by decide +kernel
theorem dL_law_584 : decode cL_law 584 = .ok (.iconst 0, 1) := by decide +kernel
theorem dL_law_585 : decode cL_law 585 = .ok (.ireturn, 1) := by decide +kernel
theorem dL_law_586 : decode cL_law 586 = .ok (.aload_n 1, 1) := by decide +kernel
theorem dL_law_587 : decode cL_law 587 = .ok (.aload_n 0, 1) := by decide +kernel
theorem dL_law_588 : decode cL_law 588 = .ok (.iload_n 3, 1) := by decide +kernel
theorem dL_law_589 : decode cL_law 589 = .ok (.iconst 1, 1) := by decide +kernel
theorem dL_law_590 : decode cL_law 590 = .ok (.iadd, 1) := by decide +kernel
theorem dL_law_591 : decode cL_law 591 = .ok (.iaload, 1) := by decide +kernel
theorem dL_law_592 : decode cL_law 592 = .ok (.invokevirtual 90, 3) := by decide +kernel
theorem dL_law_595 : decode cL_law 595 = .ok (.aload_n 2, 1) := by decide +kernel
theorem dL_law_596 : decode cL_law 596 = .ok (.aload_n 0, 1) := by decide +kernel
theorem dL_law_597 : decode cL_law 597 = .ok (.iload_n 3, 1) := by decide +kernel
theorem dL_law_598 : decode cL_law 598 = .ok (.iconst 1, 1) := by decide +kernel
theorem dL_law_599 : decode cL_law 599 = .ok (.iadd, 1) := by decide +kernel
theorem dL_law_600 : decode cL_law 600 = .ok (.iaload, 1) := by decide +kernel
theorem dL_law_601 : decode cL_law 601 = .ok (.invokevirtual 93, 3) := by decide +kernel
theorem dL_law_604 : decode cL_law 604 = .ok (.if_icmp .eq 42, 3) := by decide +kernel
theorem dL_law_607 : decode cL_law 607 = .ok (.iconst 0, 1) := by decide +kernel
theorem dL_law_608 : decode cL_law 608 = .ok (.ireturn, 1) := by decide +kernel
theorem dL_law_609 : decode cL_law 609 = .ok (.aload_n 1, 1) := by decide +kernel
theorem dL_law_610 : decode cL_law 610 = .ok (.aload_n 0, 1) := by decide +kernel
theorem dL_law_611 : decode cL_law 611 = .ok (.iload_n 3, 1) := by decide +kernel
theorem dL_law_612 : decode cL_law 612 = .ok (.iconst 1, 1) := by decide +kernel
theorem dL_law_613 : decode cL_law 613 = .ok (.iadd, 1) := by decide +kernel
theorem dL_law_614 : decode cL_law 614 = .ok (.iaload, 1) := by decide +kernel
theorem dL_law_615 : decode cL_law 615 = .ok (.invokevirtual 94, 3) := by decide +kernel
theorem dL_law_618 : decode cL_law 618 = .ok (.aload_n 2, 1) := by decide +kernel
theorem dL_law_619 : decode cL_law 619 = .ok (.aload_n 0, 1) := by decide +kernel
theorem dL_law_620 : decode cL_law 620 = .ok (.iload_n 3, 1) := by decide +kernel
theorem dL_law_621 : decode cL_law 621 = .ok (.iconst 1, 1) := by decide +kernel
theorem dL_law_622 : decode cL_law 622 = .ok (.iadd, 1) := by decide +kernel
theorem dL_law_623 : decode cL_law 623 = .ok (.iaload, 1) := by decide +kernel
theorem dL_law_624 : decode cL_law 624 = .ok (.invokevirtual 97, 3) := by decide +kernel
theorem dL_law_627 : decode cL_law 627 = .ok (.if_icmp .eq 19, 3) := by decide +kernel
theorem dL_law_630 : decode cL_law 630 = .ok (.iconst 0, 1) := by decide +kernel
theorem dL_law_631 : decode cL_law 631 = .ok (.ireturn, 1) := by decide +kernel
theorem dL_law_632 : decode cL_law 632 = .ok (.aload_n 1, 1) := by decide +kernel
theorem dL_law_633 : decode cL_law 633 = .ok (.invokevirtual 98, 3) := by decide +kernel
theorem dL_law_636 : decode cL_law 636 = .ok (.aload_n 2, 1) := by decide +kernel
theorem dL_law_637 : decode cL_law 637 = .ok (.invokevirtual 102, 3) := by decide +kernel
theorem dL_law_640 : decode cL_law 640 = .ok (.lcmp, 1) := by decide +kernel
theorem dL_law_641 : decode cL_law 641 = .ok (.ifCond .eq 5, 3) := by decide +kernel
theorem dL_law_644 : decode cL_law 644 = .ok (.iconst 0, 1) := by decide +kernel
theorem dL_law_645 : decode cL_law 645 = .ok (.ireturn, 1) := by decide +kernel
theorem dL_law_646 : decode cL_law 646 = .ok (.iinc 3 5, 3) := by decide +kernel
theorem dL_law_649 : decode cL_law 649 = .ok (.goto (-631), 3) := by decide +kernel
theorem dL_law_652 : decode cL_law 652 = .ok (.iconst 1, 1) := by decide +kernel
theorem dL_law_653 : decode cL_law 653 = .ok (.ireturn, 1) := by decide +kernel
end
section
theorem kd_0 : kd 0 = 6 := by decide +kernel
theorem kd_1 : kd 1 = 5 := by decide +kernel
theorem kd_2 : kd 2 = 9 := by decide +kernel
theorem ln_2 : ln 2 = 140 := by decide +kernel
theorem kd_3 : kd 3 = 1 := by decide +kernel
theorem kd_4 : kd 4 = 8 := by decide +kernel
theorem ln_4 : ln 4 = 6 := by decide +kernel
theorem kd_5 : kd 5 = 8 := by decide +kernel
theorem ln_5 : ln 5 = 6 := by decide +kernel
theorem kd_6 : kd 6 = 8 := by decide +kernel
theorem ln_6 : ln 6 = 6 := by decide +kernel
theorem kd_7 : kd 7 = 8 := by decide +kernel
theorem ln_7 : ln 7 = 6 := by decide +kernel
theorem kd_8 : kd 8 = 8 := by decide +kernel
theorem ln_8 : ln 8 = 6 := by decide +kernel
theorem kd_9 : kd 9 = 1 := by decide +kernel
theorem kd_10 : kd 10 = 8 := by decide +kernel
theorem ln_10 : ln 10 = 6 := by decide +kernel
theorem kd_11 : kd 11 = 8 := by decide +kernel
theorem ln_11 : ln 11 = 6 := by decide +kernel
theorem kd_12 : kd 12 = 8 := by decide +kernel
theorem ln_12 : ln 12 = 6 := by decide +kernel
theorem kd_13 : kd 13 = 8 := by decide +kernel
theorem ln_13 : ln 13 = 6 := by decide +kernel
theorem kd_14 : kd 14 = 8 := by decide +kernel
theorem ln_14 : ln 14 = 6 := by decide +kernel
theorem kd_15 : kd 15 = 3 := by decide +kernel
theorem kd_16 : kd 16 = 8 := by decide +kernel
theorem ln_16 : ln 16 = 6 := by decide +kernel
theorem kd_17 : kd 17 = 8 := by decide +kernel
theorem ln_17 : ln 17 = 6 := by decide +kernel
theorem kd_18 : kd 18 = 3 := by decide +kernel
theorem kd_19 : kd 19 = 8 := by decide +kernel
theorem ln_19 : ln 19 = 6 := by decide +kernel
theorem kd_20 : kd 20 = 8 := by decide +kernel
theorem ln_20 : ln 20 = 6 := by decide +kernel
theorem kd_21 : kd 21 = 2 := by decide +kernel
theorem kd_22 : kd 22 = 11 := by decide +kernel
theorem ln_22 : ln 22 = 10 := by decide +kernel
theorem kd_23 : kd 23 = 3 := by decide +kernel
theorem kd_24 : kd 24 = 8 := by decide +kernel
theorem ln_24 : ln 24 = 6 := by decide +kernel
theorem kd_25 : kd 25 = 8 := by decide +kernel
theorem ln_25 : ln 25 = 6 := by decide +kernel
theorem kd_26 : kd 26 = 3 := by decide +kernel
theorem kd_27 : kd 27 = 8 := by decide +kernel
theorem ln_27 : ln 27 = 6 := by decide +kernel
theorem kd_28 : kd 28 = 8 := by decide +kernel
theorem ln_28 : ln 28 = 6 := by decide +kernel
theorem kd_29 : kd 29 = 3 := by decide +kernel
theorem kd_30 : kd 30 = 8 := by decide +kernel
theorem ln_30 : ln 30 = 6 := by decide +kernel
theorem kd_31 : kd 31 = 8 := by decide +kernel
theorem ln_31 : ln 31 = 6 := by decide +kernel
theorem kd_32 : kd 32 = 3 := by decide +kernel
theorem kd_33 : kd 33 = 8 := by decide +kernel
theorem ln_33 : ln 33 = 6 := by decide +kernel
theorem kd_34 : kd 34 = 8 := by decide +kernel
theorem ln_34 : ln 34 = 6 := by decide +kernel
theorem kd_35 : kd 35 = 3 := by decide +kernel
theorem kd_36 : kd 36 = 8 := by decide +kernel
theorem ln_36 : ln 36 = 6 := by decide +kernel
theorem kd_37 : kd 37 = 8 := by decide +kernel
theorem ln_37 : ln 37 = 6 := by decide +kernel
theorem kd_38 : kd 38 = 3 := by decide +kernel
theorem kd_39 : kd 39 = 8 := by decide +kernel
theorem ln_39 : ln 39 = 6 := by decide +kernel
theorem kd_40 : kd 40 = 8 := by decide +kernel
theorem ln_40 : ln 40 = 6 := by decide +kernel
theorem kd_41 : kd 41 = 3 := by decide +kernel
theorem kd_42 : kd 42 = 8 := by decide +kernel
theorem ln_42 : ln 42 = 6 := by decide +kernel
theorem kd_43 : kd 43 = 8 := by decide +kernel
theorem ln_43 : ln 43 = 6 := by decide +kernel
theorem kd_44 : kd 44 = 3 := by decide +kernel
theorem kd_45 : kd 45 = 8 := by decide +kernel
theorem ln_45 : ln 45 = 6 := by decide +kernel
theorem kd_46 : kd 46 = 8 := by decide +kernel
theorem ln_46 : ln 46 = 6 := by decide +kernel
theorem kd_47 : kd 47 = 3 := by decide +kernel
theorem kd_48 : kd 48 = 8 := by decide +kernel
theorem ln_48 : ln 48 = 6 := by decide +kernel
theorem kd_49 : kd 49 = 8 := by decide +kernel
theorem ln_49 : ln 49 = 6 := by decide +kernel
theorem kd_50 : kd 50 = 3 := by decide +kernel
theorem kd_51 : kd 51 = 8 := by decide +kernel
theorem ln_51 : ln 51 = 6 := by decide +kernel
theorem kd_52 : kd 52 = 8 := by decide +kernel
theorem ln_52 : ln 52 = 6 := by decide +kernel
theorem kd_53 : kd 53 = 11 := by decide +kernel
theorem ln_53 : ln 53 = 2 := by decide +kernel
theorem kd_54 : kd 54 = 3 := by decide +kernel
theorem kd_55 : kd 55 = 8 := by decide +kernel
theorem ln_55 : ln 55 = 6 := by decide +kernel
theorem kd_56 : kd 56 = 8 := by decide +kernel
theorem ln_56 : ln 56 = 6 := by decide +kernel
theorem kd_57 : kd 57 = 3 := by decide +kernel
theorem kd_58 : kd 58 = 8 := by decide +kernel
theorem ln_58 : ln 58 = 6 := by decide +kernel
theorem kd_59 : kd 59 = 8 := by decide +kernel
theorem ln_59 : ln 59 = 6 := by decide +kernel
theorem kd_60 : kd 60 = 10 := by decide +kernel
theorem ln_60 : ln 60 = 2 := by decide +kernel
theorem kd_61 : kd 61 = 0 := by decide +kernel
theorem kd_62 : kd 62 = 8 := by decide +kernel
theorem ln_62 : ln 62 = 6 := by decide +kernel
theorem kd_63 : kd 63 = 8 := by decide +kernel
theorem ln_63 : ln 63 = 6 := by decide +kernel
theorem kd_64 : kd 64 = 4 := by decide +kernel
theorem kd_65 : kd 65 = 10 := by decide +kernel
theorem ln_65 : ln 65 = 147 := by decide +kernel
theorem kd_66 : kd 66 = 8 := by decide +kernel
theorem ln_66 : ln 66 = 9 := by decide +kernel
theorem kd_67 : kd 67 = 7 := by decide +kernel
theorem kd_68 : kd 68 = 8 := by decide +kernel
theorem ln_68 : ln 68 = 6 := by decide +kernel
theorem kd_69 : kd 69 = 8 := by decide +kernel
theorem ln_69 : ln 69 = 6 := by decide +kernel
theorem kd_70 : kd 70 = 8 := by decide +kernel
theorem ln_70 : ln 70 = 6 := by decide +kernel
theorem kd_71 : kd 71 = 8 := by decide +kernel
theorem ln_71 : ln 71 = 14 := by decide +kernel
theorem kd_72 : kd 72 = 8 := by decide +kernel
theorem ln_72 : ln 72 = 140 := by decide +kernel
theorem kd_73 : kd 73 = 8 := by decide +kernel
theorem ln_73 : ln 73 = 28 := by decide +kernel
theorem kd_74 : kd 74 = 10 := by decide +kernel
theorem ln_74 : ln 74 = 2 := by decide +kernel
theorem kd_75 : kd 75 = 8 := by decide +kernel
theorem ln_75 : ln 75 = 18 := by decide +kernel
theorem kd_76 : kd 76 = 8 := by decide +kernel
theorem ln_76 : ln 76 = 140 := by decide +kernel
theorem kd_77 : kd 77 = 8 := by decide +kernel
theorem ln_77 : ln 77 = 30 := by decide +kernel
theorem kd_78 : kd 78 = 8 := by decide +kernel
theorem ln_78 : ln 78 = 14 := by decide +kernel
theorem kd_79 : kd 79 = 8 := by decide +kernel
theorem ln_79 : ln 79 = 6 := by decide +kernel
theorem tX0 : ∀ w ∈ u_ws RX0 TX0 4, w ∈ TB := by decide +kernel
theorem tX1 : ∀ w ∈ u_ws RX1 TX1 6, w ∈ TB := by decide +kernel
theorem tX2 : ∀ w ∈ u_ws RX2 TX2 3, w ∈ TB := by decide +kernel
theorem tX3 : ∀ w ∈ u_ws RX3 TX3 5, w ∈ TB := by decide +kernel
theorem tX4 : ∀ w ∈ u_ws RX4 TX4 2, w ∈ TB := by decide +kernel
theorem tX5 : ∀ w ∈ u_ws RX5 TX5 6, w ∈ TB := by decide +kernel
theorem tX6 : ∀ w ∈ u_ws RX6 TX6 12, w ∈ TB := by decide +kernel
theorem tX7 : ∀ w ∈ u_ws RX7 TX7 25, w ∈ TB := by decide +kernel
theorem kJ6_265 : Cond.constant RJ6 265 (1431655765) ∈ TB := tb_mem 364 (by decide +kernel) (by decide +kernel)
theorem kJ6_266 : Cond.constant RJ6 266 (858993459) ∈ TB := tb_mem 365 (by decide +kernel) (by decide +kernel)
theorem kJ6_267 : Cond.constant RJ6 267 (252645135) ∈ TB := tb_mem 366 (by decide +kernel) (by decide +kernel)
theorem kL_9 : Cond.methodLink RL 9 yX6_init ∈ TB := tb_mem 76 (by decide +kernel) (by decide +kernel)
theorem kL_12 : Cond.methodLink RL 12 yX7_init ∈ TB := tb_mem 564 (by decide +kernel) (by decide +kernel)
theorem kL_13 : Cond.methodLink RL 13 yX6_type ∈ TB := tb_mem 270 (by decide +kernel) (by decide +kernel)
theorem kL_17 : Cond.methodLink RL 17 yX7_type ∈ TB := tb_mem 644 (by decide +kernel) (by decide +kernel)
theorem kL_18 : Cond.methodLink RL 18 yX6_clear ∈ TB := tb_mem 281 (by decide +kernel) (by decide +kernel)
theorem kL_22 : Cond.methodLink RL 22 yX7_clear ∈ TB := tb_mem 651 (by decide +kernel) (by decide +kernel)
theorem kL_23 : Cond.methodLink RL 23 yX6_valley ∈ TB := tb_mem 285 (by decide +kernel) (by decide +kernel)
theorem kL_26 : Cond.methodLink RL 26 yX7_valley ∈ TB := tb_mem 655 (by decide +kernel) (by decide +kernel)
theorem kL_27 : Cond.methodLink RL 27 yX6_farmer ∈ TB := tb_mem 335 (by decide +kernel) (by decide +kernel)
theorem kL_31 : Cond.methodLink RL 31 yX7_farmer ∈ TB := tb_mem 686 (by decide +kernel) (by decide +kernel)
theorem kL_32 : Cond.methodLink RL 32 yX6_now ∈ TB := tb_mem 393 (by decide +kernel) (by decide +kernel)
theorem kL_35 : Cond.methodLink RL 35 yX7_now ∈ TB := tb_mem 743 (by decide +kernel) (by decide +kernel)
theorem kL_36 : Cond.methodLink RL 36 yX6_day ∈ TB := tb_mem 405 (by decide +kernel) (by decide +kernel)
theorem kL_39 : Cond.methodLink RL 39 yX7_day ∈ TB := tb_mem 747 (by decide +kernel) (by decide +kernel)
theorem kL_40 : Cond.methodLink RL 40 yX6_brings ∈ TB := tb_mem 415 (by decide +kernel) (by decide +kernel)
theorem kL_43 : Cond.methodLink RL 43 yX7_brings ∈ TB := tb_mem 755 (by decide +kernel) (by decide +kernel)
theorem kL_44 : Cond.methodLink RL 44 yX6_hangs ∈ TB := tb_mem 420 (by decide +kernel) (by decide +kernel)
theorem kL_47 : Cond.methodLink RL 47 yX7_hangs ∈ TB := tb_mem 759 (by decide +kernel) (by decide +kernel)
theorem kL_48 : Cond.methodLink RL 48 yX6_undo ∈ TB := tb_mem 424 (by decide +kernel) (by decide +kernel)
theorem kL_51 : Cond.methodLink RL 51 yX7_undo ∈ TB := tb_mem 763 (by decide +kernel) (by decide +kernel)
theorem kL_52 : Cond.methodLink RL 52 yX6_start ∈ TB := tb_mem 432 (by decide +kernel) (by decide +kernel)
theorem kL_55 : Cond.methodLink RL 55 yX7_start ∈ TB := tb_mem 767 (by decide +kernel) (by decide +kernel)
theorem kL_56 : Cond.methodLink RL 56 yX6_hang ∈ TB := tb_mem 440 (by decide +kernel) (by decide +kernel)
theorem kL_59 : Cond.methodLink RL 59 yX7_hang ∈ TB := tb_mem 775 (by decide +kernel) (by decide +kernel)
theorem kL_60 : Cond.methodLink RL 60 yX6_odds ∈ TB := tb_mem 457 (by decide +kernel) (by decide +kernel)
theorem kL_64 : Cond.methodLink RL 64 yX7_odds ∈ TB := tb_mem 786 (by decide +kernel) (by decide +kernel)
theorem kL_65 : Cond.methodLink RL 65 yX6_sees ∈ TB := tb_mem 468 (by decide +kernel) (by decide +kernel)
theorem kL_69 : Cond.methodLink RL 69 yX7_sees ∈ TB := tb_mem 793 (by decide +kernel) (by decide +kernel)
theorem kL_70 : Cond.methodLink RL 70 yX6_forget ∈ TB := tb_mem 476 (by decide +kernel) (by decide +kernel)
theorem kL_73 : Cond.methodLink RL 73 yX7_forget ∈ TB := tb_mem 797 (by decide +kernel) (by decide +kernel)
theorem kL_74 : Cond.methodLink RL 74 yX6_ones ∈ TB := tb_mem 480 (by decide +kernel) (by decide +kernel)
theorem kL_77 : Cond.methodLink RL 77 yX7_ones ∈ TB := tb_mem 801 (by decide +kernel) (by decide +kernel)
theorem kL_78 : Cond.methodLink RL 78 yX6_look ∈ TB := tb_mem 501 (by decide +kernel) (by decide +kernel)
theorem kL_81 : Cond.methodLink RL 81 yX7_look ∈ TB := tb_mem 812 (by decide +kernel) (by decide +kernel)
theorem kL_82 : Cond.methodLink RL 82 yX6_rate ∈ TB := tb_mem 512 (by decide +kernel) (by decide +kernel)
theorem kL_85 : Cond.methodLink RL 85 yX7_rate ∈ TB := tb_mem 817 (by decide +kernel) (by decide +kernel)
theorem kL_86 : Cond.methodLink RL 86 yX6_keep ∈ TB := tb_mem 546 (by decide +kernel) (by decide +kernel)
theorem kL_89 : Cond.methodLink RL 89 yX7_keep ∈ TB := tb_mem 827 (by decide +kernel) (by decide +kernel)
theorem kL_90 : Cond.methodLink RL 90 yX6_back ∈ TB := tb_mem 550 (by decide +kernel) (by decide +kernel)
theorem kL_93 : Cond.methodLink RL 93 yX7_back ∈ TB := tb_mem 831 (by decide +kernel) (by decide +kernel)
theorem kL_94 : Cond.methodLink RL 94 yX6_count ∈ TB := tb_mem 554 (by decide +kernel) (by decide +kernel)
theorem kL_97 : Cond.methodLink RL 97 yX7_count ∈ TB := tb_mem 835 (by decide +kernel) (by decide +kernel)
theorem kL_98 : Cond.methodLink RL 98 yX6_trace ∈ TB := tb_mem 558 (by decide +kernel) (by decide +kernel)
theorem kL_102 : Cond.methodLink RL 102 yX7_trace ∈ TB := tb_mem 839 (by decide +kernel) (by decide +kernel)
theorem kX0_9 : lk RX0 9 "ScytheKeepers$Barns" "keeper" "[I" := Or.inl (tb_mem 206 (by decide +kernel) (by decide +kernel))
theorem kX0_15 : lk RX0 15 "ScytheKeepers$Barns" "tried" "[I" := Or.inl (tb_mem 208 (by decide +kernel) (by decide +kernel))
theorem kX0_18 : lk RX0 18 "ScytheKeepers$Barns" "farms" "LScytheKeepers$Farms;" := Or.inl (tb_mem 203 (by decide +kernel) (by decide +kernel))
theorem kX0_22 : lk RX0 22 "ScytheKeepers$Barns" "far" "I" := Or.inl (tb_mem 204 (by decide +kernel) (by decide +kernel))
theorem kX0_26 : Cond.methodLink RX0 26 yX0_hangFrom ∈ TB := tb_mem 448 (by decide +kernel) (by decide +kernel)
theorem kX0_30 : lk RX0 30 "ScytheKeepers$Farms" "size" "I" := Or.inr ⟨"ScytheKeepers", nb_mem 56 (by decide +kernel) (by decide +kernel)⟩
theorem kX0_41 : lk RX0 41 "ScytheKeepers$Farms" "farm" "[I" := Or.inr ⟨"ScytheKeepers", nb_mem 60 (by decide +kernel) (by decide +kernel)⟩
theorem kX0_44 : Cond.methodLink RX0 44 yJ9_abs_0f7a4 ∈ TB := tb_mem 454 (by decide +kernel) (by decide +kernel)
theorem kX1_9 : lk RX1 9 "ScytheKeepers$Farms" "farm" "[I" := Or.inl (tb_mem 121 (by decide +kernel) (by decide +kernel))
theorem kX1_15 : lk RX1 15 "ScytheKeepers$Farms" "field" "[I" := Or.inl (tb_mem 125 (by decide +kernel) (by decide +kernel))
theorem kX1_18 : lk RX1 18 "ScytheKeepers$Farms" "shame" "[I" := Or.inl (tb_mem 128 (by decide +kernel) (by decide +kernel))
theorem kX1_21 : lk RX1 21 "ScytheKeepers$Farms" "nerve" "[I" := Or.inl (tb_mem 131 (by decide +kernel) (by decide +kernel))
theorem kX1_24 : lk RX1 24 "ScytheKeepers$Farms" "keeper" "[I" := Or.inl (tb_mem 134 (by decide +kernel) (by decide +kernel))
theorem kX1_27 : lk RX1 27 "ScytheKeepers$Farms" "size" "I" := Or.inl (tb_mem 116 (by decide +kernel) (by decide +kernel))
theorem kX1_31 : Cond.methodLink RX1 31 yX1_has ∈ TB := tb_mem 319 (by decide +kernel) (by decide +kernel)
theorem kX1_35 : Cond.methodLink RX1 35 yJ6_bitCount_0f7a4 ∈ TB := tb_mem 361 (by decide +kernel) (by decide +kernel)
theorem kX2_11 : lk RX2 11 "ScytheKeepers$History" "scenes" "[LScytheKeepers$Scene;" := Or.inl (tb_mem 186 (by decide +kernel) (by decide +kernel))
theorem kX2_17 : Cond.methodLinkNest RX2 17 yX3_init "ScytheKeepers" ∈ NB := nb_mem 123 (by decide +kernel) (by decide +kernel)
theorem kX2_20 : lk RX2 20 "ScytheKeepers$History" "next" "I" := Or.inl (tb_mem 187 (by decide +kernel) (by decide +kernel))
theorem kX2_24 : Cond.methodLinkNest RX2 24 yX3_copyFrom "ScytheKeepers" ∈ NB := nb_mem 351 (by decide +kernel) (by decide +kernel)
theorem kX2_28 : lk RX2 28 "ScytheKeepers$History" "size" "I" := Or.inl (tb_mem 188 (by decide +kernel) (by decide +kernel))
theorem kX2_31 : Cond.methodLink RX2 31 yJ9_min_7cf53 ∈ TB := tb_mem 414 (by decide +kernel) (by decide +kernel)
theorem kX3_9 : lk RX3 9 "ScytheKeepers$Scene" "left" "[I" := Or.inl (tb_mem 162 (by decide +kernel) (by decide +kernel))
theorem kX3_15 : lk RX3 15 "ScytheKeepers$Scene" "keeper" "[I" := Or.inl (tb_mem 164 (by decide +kernel) (by decide +kernel))
theorem kX3_18 : lk RX3 18 "ScytheKeepers$Scene" "farms" "LScytheKeepers$Farms;" := Or.inl (tb_mem 157 (by decide +kernel) (by decide +kernel))
theorem kX3_22 : lk RX3 22 "ScytheKeepers$Scene" "date" "I" := Or.inl (tb_mem 158 (by decide +kernel) (by decide +kernel))
theorem kX3_26 : lk RX3 26 "ScytheKeepers$Scene" "asked" "I" := Or.inl (tb_mem 160 (by decide +kernel) (by decide +kernel))
theorem kX3_29 : lk RX3 29 "ScytheKeepers$Farms" "field" "[I" := Or.inr ⟨"ScytheKeepers", nb_mem 64 (by decide +kernel) (by decide +kernel)⟩
theorem kX3_34 : lk RX3 34 "ScytheKeepers$Farms" "keeper" "[I" := Or.inr ⟨"ScytheKeepers", nb_mem 73 (by decide +kernel) (by decide +kernel)⟩
theorem kX3_35 : lk RX3 35 "ScytheKeepers$Farms" "size" "I" := Or.inr ⟨"ScytheKeepers", nb_mem 58 (by decide +kernel) (by decide +kernel)⟩
theorem kX3_38 : Cond.methodLinkNest RX3 38 yX1_has "ScytheKeepers" ∈ NB := nb_mem 290 (by decide +kernel) (by decide +kernel)
theorem kX3_42 : Cond.methodLinkNest RX3 42 yX1_askedBehind "ScytheKeepers" ∈ NB := nb_mem 321 (by decide +kernel) (by decide +kernel)
theorem kX3_46 : Cond.methodLink RX3 46 yX3_mowAll ∈ TB := tb_mem 384 (by decide +kernel) (by decide +kernel)
theorem kX3_50 : Cond.methodLink RX3 50 yX3_hasAsked ∈ TB := tb_mem 388 (by decide +kernel) (by decide +kernel)
theorem kX3_53 : Cond.methodLink RX3 53 yX3_mowsForAnother ∈ TB := tb_mem 389 (by decide +kernel) (by decide +kernel)
theorem kX4_11 : lk RX4 11 "ScytheKeepers$Stranger" "ruledOut" "[Z" := Or.inl (tb_mem 227 (by decide +kernel) (by decide +kernel))
theorem kX4_15 : lk RX4 15 "ScytheKeepers$Stranger" "seen" "I" := Or.inl (tb_mem 225 (by decide +kernel) (by decide +kernel))
theorem kX4_19 : Cond.methodLink RX4 19 yX4_numberOfNerve ∈ TB := tb_mem 488 (by decide +kernel) (by decide +kernel)
theorem kX4_23 : Cond.methodLink RX4 23 yX4_number ∈ TB := tb_mem 496 (by decide +kernel) (by decide +kernel)
theorem kX4_27 : Cond.methodLink RX4 27 yJ9_max_7cf53 ∈ TB := tb_mem 509 (by decide +kernel) (by decide +kernel)
theorem kX5_9 : lk RX5 9 "ScytheKeepers$Text" "letters" "[C" := Or.inl (tb_mem 88 (by decide +kernel) (by decide +kernel))
theorem kX5_15 : lk RX5 15 "ScytheKeepers$Text" "length" "I" := Or.inl (tb_mem 89 (by decide +kernel) (by decide +kernel))
theorem kX5_19 : lk RX5 19 "ScytheKeepers$Text" "next" "I" := Or.inl (tb_mem 91 (by decide +kernel) (by decide +kernel))
theorem kX5_22 : lk RX5 22 "ScytheKeepers$Farms" "size" "I" := Or.inr ⟨"ScytheKeepers", nb_mem 55 (by decide +kernel) (by decide +kernel)⟩
theorem kX5_27 : Cond.methodLink RX5 27 yX5_step ∈ TB := tb_mem 293 (by decide +kernel) (by decide +kernel)
theorem kX5_30 : lk RX5 30 "ScytheKeepers$Text" "token" "I" := Or.inl (tb_mem 94 (by decide +kernel) (by decide +kernel))
theorem kX5_33 : Cond.methodLink RX5 33 yX5_tellsOne ∈ TB := tb_mem 307 (by decide +kernel) (by decide +kernel)
theorem kX5_37 : Cond.methodLinkNest RX5 37 yX1_keepersAreThere "ScytheKeepers" ∈ NB := nb_mem 253 (by decide +kernel) (by decide +kernel)
theorem kX5_41 : lk RX5 41 "ScytheKeepers$Farms" "farm" "[I" := Or.inr ⟨"ScytheKeepers", nb_mem 61 (by decide +kernel) (by decide +kernel)⟩
theorem kX5_45 : Cond.methodLink RX5 45 yX5_tellsNumber ∈ TB := tb_mem 311 (by decide +kernel) (by decide +kernel)
theorem kX5_49 : lk RX5 49 "ScytheKeepers$Farms" "field" "[I" := Or.inr ⟨"ScytheKeepers", nb_mem 65 (by decide +kernel) (by decide +kernel)⟩
theorem kX5_52 : lk RX5 52 "ScytheKeepers$Farms" "shame" "[I" := Or.inr ⟨"ScytheKeepers", nb_mem 67 (by decide +kernel) (by decide +kernel)⟩
theorem kX5_55 : lk RX5 55 "ScytheKeepers$Farms" "nerve" "[I" := Or.inr ⟨"ScytheKeepers", nb_mem 70 (by decide +kernel) (by decide +kernel)⟩
theorem kX5_58 : lk RX5 58 "ScytheKeepers$Farms" "keeper" "[I" := Or.inr ⟨"ScytheKeepers", nb_mem 74 (by decide +kernel) (by decide +kernel)⟩
theorem kX5_61 : lk RX5 61 "ScytheKeepers$Text" "number" "I" := Or.inl (tb_mem 95 (by decide +kernel) (by decide +kernel))
theorem kX5_64 : lk RX5 64 "ScytheKeepers$Text" "place" "I" := Or.inl (tb_mem 93 (by decide +kernel) (by decide +kernel))
theorem kX5_67 : Cond.methodLink RX5 67 yX5_isDigit ∈ TB := tb_mem 297 (by decide +kernel) (by decide +kernel)
theorem kX5_71 : Cond.methodLink RX5 71 yX5_stepOverNumber ∈ TB := tb_mem 300 (by decide +kernel) (by decide +kernel)
theorem kX5_74 : Cond.methodLink RX5 74 yJ9_min_7cf53 ∈ TB := tb_mem 304 (by decide +kernel) (by decide +kernel)
theorem kX6_9 : Cond.methodLinkNest RX6 9 yX5_init "ScytheKeepers" ∈ NB := nb_mem 22 (by decide +kernel) (by decide +kernel)
theorem kX6_10 : lk RX6 10 "ScytheKeepers" "text" "LScytheKeepers$Text;" := Or.inl (tb_mem 233 (by decide +kernel) (by decide +kernel))
theorem kX6_18 : Cond.methodLinkNest RX6 18 yX1_init "ScytheKeepers" ∈ NB := nb_mem 50 (by decide +kernel) (by decide +kernel)
theorem kX6_19 : lk RX6 19 "ScytheKeepers" "draft" "LScytheKeepers$Farms;" := Or.inl (tb_mem 234 (by decide +kernel) (by decide +kernel))
theorem kX6_23 : lk RX6 23 "ScytheKeepers" "farms" "LScytheKeepers$Farms;" := Or.inl (tb_mem 235 (by decide +kernel) (by decide +kernel))
theorem kX6_28 : Cond.methodLinkNest RX6 28 yX3_init "ScytheKeepers" ∈ NB := nb_mem 91 (by decide +kernel) (by decide +kernel)
theorem kX6_31 : lk RX6 31 "ScytheKeepers" "scene" "LScytheKeepers$Scene;" := Or.inl (tb_mem 236 (by decide +kernel) (by decide +kernel))
theorem kX6_35 : lk RX6 35 "ScytheKeepers" "trial" "LScytheKeepers$Scene;" := Or.inl (tb_mem 237 (by decide +kernel) (by decide +kernel))
theorem kX6_40 : Cond.methodLinkNest RX6 40 yX2_init "ScytheKeepers" ∈ NB := nb_mem 117 (by decide +kernel) (by decide +kernel)
theorem kX6_41 : lk RX6 41 "ScytheKeepers" "history" "LScytheKeepers$History;" := Or.inl (tb_mem 238 (by decide +kernel) (by decide +kernel))
theorem kX6_45 : lk RX6 45 "ScytheKeepers" "images" "[LScytheKeepers$Scene;" := Or.inl (tb_mem 239 (by decide +kernel) (by decide +kernel))
theorem kX6_49 : lk RX6 49 "ScytheKeepers" "imageKept" "[Z" := Or.inl (tb_mem 240 (by decide +kernel) (by decide +kernel))
theorem kX6_55 : Cond.methodLinkNest RX6 55 yX0_init "ScytheKeepers" ∈ NB := nb_mem 137 (by decide +kernel) (by decide +kernel)
theorem kX6_56 : lk RX6 56 "ScytheKeepers" "barns" "LScytheKeepers$Barns;" := Or.inl (tb_mem 241 (by decide +kernel) (by decide +kernel))
theorem kX6_62 : Cond.methodLinkNest RX6 62 yX4_init "ScytheKeepers" ∈ NB := nb_mem 159 (by decide +kernel) (by decide +kernel)
theorem kX6_63 : lk RX6 63 "ScytheKeepers" "stranger" "LScytheKeepers$Stranger;" := Or.inl (tb_mem 242 (by decide +kernel) (by decide +kernel))
theorem kX6_67 : lk RX6 67 "ScytheKeepers" "weights" "[I" := Or.inl (tb_mem 243 (by decide +kernel) (by decide +kernel))
theorem kX6_71 : Cond.methodLink RX6 71 yX6_within ∈ TB := tb_mem 274 (by decide +kernel) (by decide +kernel)
theorem kX6_75 : Cond.methodLinkNest RX6 75 yX5_add "ScytheKeepers" ∈ NB := nb_mem 215 (by decide +kernel) (by decide +kernel)
theorem kX6_79 : lk RX6 79 "ScytheKeepers$Text" "length" "I" := Or.inr ⟨"ScytheKeepers", nb_mem 28 (by decide +kernel) (by decide +kernel)⟩
theorem kX6_83 : Cond.methodLinkNest RX6 83 yX5_tells "ScytheKeepers" ∈ NB := nb_mem 227 (by decide +kernel) (by decide +kernel)
theorem kX6_87 : lk RX6 87 "ScytheKeepers$Text" "place" "I" := Or.inr ⟨"ScytheKeepers", nb_mem 30 (by decide +kernel) (by decide +kernel)⟩
theorem kX6_90 : Cond.methodLinkNest RX6 90 yX1_copyFrom "ScytheKeepers" ∈ NB := nb_mem 261 (by decide +kernel) (by decide +kernel)
theorem kX6_93 : Cond.methodLinkNest RX6 93 yX3_begin "ScytheKeepers" ∈ NB := nb_mem 265 (by decide +kernel) (by decide +kernel)
theorem kX6_96 : lk RX6 96 "ScytheKeepers$History" "size" "I" := Or.inr ⟨"ScytheKeepers", nb_mem 127 (by decide +kernel) (by decide +kernel)⟩
theorem kX6_99 : Cond.methodLinkNest RX6 99 yX4_begin "ScytheKeepers" ∈ NB := nb_mem 269 (by decide +kernel) (by decide +kernel)
theorem kX6_100 : lk RX6 100 "ScytheKeepers$Farms" "size" "I" := Or.inr ⟨"ScytheKeepers", nb_mem 57 (by decide +kernel) (by decide +kernel)⟩
theorem kX6_101 : Cond.methodLinkNest RX6 101 yX1_has "ScytheKeepers" ∈ NB := nb_mem 277 (by decide +kernel) (by decide +kernel)
theorem kX6_104 : lk RX6 104 "ScytheKeepers$Farms" "farm" "[I" := Or.inr ⟨"ScytheKeepers", nb_mem 62 (by decide +kernel) (by decide +kernel)⟩
theorem kX6_107 : lk RX6 107 "ScytheKeepers$Scene" "left" "[I" := Or.inr ⟨"ScytheKeepers", nb_mem 101 (by decide +kernel) (by decide +kernel)⟩
theorem kX6_110 : lk RX6 110 "ScytheKeepers$Farms" "shame" "[I" := Or.inr ⟨"ScytheKeepers", nb_mem 68 (by decide +kernel) (by decide +kernel)⟩
theorem kX6_113 : lk RX6 113 "ScytheKeepers$Farms" "nerve" "[I" := Or.inr ⟨"ScytheKeepers", nb_mem 71 (by decide +kernel) (by decide +kernel)⟩
theorem kX6_116 : lk RX6 116 "ScytheKeepers$Scene" "keeper" "[I" := Or.inr ⟨"ScytheKeepers", nb_mem 103 (by decide +kernel) (by decide +kernel)⟩
theorem kX6_119 : Cond.methodLinkNest RX6 119 yX3_hasAsked "ScytheKeepers" ∈ NB := nb_mem 278 (by decide +kernel) (by decide +kernel)
theorem kX6_122 : Cond.methodLinkNest RX6 122 yX3_hungWith "ScytheKeepers" ∈ NB := nb_mem 282 (by decide +kernel) (by decide +kernel)
theorem kX6_126 : Cond.methodLinkNest RX6 126 yX3_ringOf "ScytheKeepers" ∈ NB := nb_mem 286 (by decide +kernel) (by decide +kernel)
theorem kX6_129 : Cond.methodLink RX6 129 yX6_daysTillAsked ∈ TB := tb_mem 353 (by decide +kernel) (by decide +kernel)
theorem kX6_132 : Cond.methodLink RX6 132 yX6_daysTillMown ∈ TB := tb_mem 367 (by decide +kernel) (by decide +kernel)
theorem kX6_135 : lk RX6 135 "ScytheKeepers$Scene" "date" "I" := Or.inr ⟨"ScytheKeepers", nb_mem 97 (by decide +kernel) (by decide +kernel)⟩
theorem kX6_138 : lk RX6 138 "ScytheKeepers$Scene" "asked" "I" := Or.inr ⟨"ScytheKeepers", nb_mem 99 (by decide +kernel) (by decide +kernel)⟩
theorem kX6_141 : Cond.methodLinkNest RX6 141 yX3_leftTogether "ScytheKeepers" ∈ NB := nb_mem 335 (by decide +kernel) (by decide +kernel)
theorem kX6_145 : Cond.methodLinkNest RX6 145 yX1_everyone "ScytheKeepers" ∈ NB := nb_mem 339 (by decide +kernel) (by decide +kernel)
theorem kX6_148 : Cond.methodLinkNest RX6 148 yX2_push "ScytheKeepers" ∈ NB := nb_mem 347 (by decide +kernel) (by decide +kernel)
theorem kX6_152 : Cond.methodLinkNest RX6 152 yX3_pass "ScytheKeepers" ∈ NB := nb_mem 317 (by decide +kernel) (by decide +kernel)
theorem kX6_156 : Cond.methodLink RX6 156 yJ6_bitCount_0f7a4 ∈ TB := tb_mem 419 (by decide +kernel) (by decide +kernel)
theorem kX6_161 : Cond.methodLinkNest RX6 161 yX2_pop "ScytheKeepers" ∈ NB := nb_mem 366 (by decide +kernel) (by decide +kernel)
theorem kX6_164 : Cond.methodLink RX6 164 yX6_allAskBehind ∈ TB := tb_mem 436 (by decide +kernel) (by decide +kernel)
theorem kX6_168 : Cond.methodLinkNest RX6 168 yX0_search "ScytheKeepers" ∈ NB := nb_mem 382 (by decide +kernel) (by decide +kernel)
theorem kX6_171 : lk RX6 171 "ScytheKeepers$Barns" "far" "I" := Or.inr ⟨"ScytheKeepers", nb_mem 143 (by decide +kernel) (by decide +kernel)⟩
theorem kX6_174 : lk RX6 174 "ScytheKeepers$Barns" "keeper" "[I" := Or.inr ⟨"ScytheKeepers", nb_mem 145 (by decide +kernel) (by decide +kernel)⟩
theorem kX6_175 : Cond.methodLink RX6 175 yX6_weigh ∈ TB := tb_mem 461 (by decide +kernel) (by decide +kernel)
theorem kX6_179 : Cond.methodLink RX6 179 yX6_commonDivisor ∈ TB := tb_mem 465 (by decide +kernel) (by decide +kernel)
theorem kX6_183 : lk RX6 183 "ScytheKeepers$Stranger" "seen" "I" := Or.inr ⟨"ScytheKeepers", nb_mem 164 (by decide +kernel) (by decide +kernel)⟩
theorem kX6_186 : Cond.methodLinkNest RX6 186 yX4_learn "ScytheKeepers" ∈ NB := nb_mem 410 (by decide +kernel) (by decide +kernel)
theorem kX6_190 : Cond.methodLinkNest RX6 190 yX4_number "ScytheKeepers" ∈ NB := nb_mem 422 (by decide +kernel) (by decide +kernel)
theorem kX6_193 : Cond.methodLinkNest RX6 193 yX4_leastShame "ScytheKeepers" ∈ NB := nb_mem 430 (by decide +kernel) (by decide +kernel)
theorem kX6_196 : Cond.methodLinkNest RX6 196 yX4_greatestShame "ScytheKeepers" ∈ NB := nb_mem 435 (by decide +kernel) (by decide +kernel)
theorem kX6_199 : Cond.methodLinkNest RX6 199 yX4_bestOthers "ScytheKeepers" ∈ NB := nb_mem 443 (by decide +kernel) (by decide +kernel)
theorem kX6_202 : Cond.constant RX6 202 (-1000000) ∈ TB := tb_mem 516 (by decide +kernel) (by decide +kernel)
theorem kX6_203 : Cond.methodLink RX6 203 yX6_asFarmer ∈ TB := tb_mem 517 (by decide +kernel) (by decide +kernel)
theorem kX6_206 : Cond.methodLink RX6 206 yX6_asMower ∈ TB := tb_mem 521 (by decide +kernel) (by decide +kernel)
theorem kX6_209 : Cond.methodLink RX6 209 yX6_asLate ∈ TB := tb_mem 526 (by decide +kernel) (by decide +kernel)
theorem kX6_212 : Cond.methodLink RX6 212 yX6_asSon ∈ TB := tb_mem 531 (by decide +kernel) (by decide +kernel)
theorem kX6_215 : Cond.methodLink RX6 215 yX6_asCousin ∈ TB := tb_mem 536 (by decide +kernel) (by decide +kernel)
theorem kX6_218 : Cond.methodLink RX6 218 yX6_asSnow ∈ TB := tb_mem 541 (by decide +kernel) (by decide +kernel)
theorem kX6_221 : Cond.methodLinkNest RX6 221 yX3_copyFrom "ScytheKeepers" ∈ NB := nb_mem 309 (by decide +kernel) (by decide +kernel)
theorem kX6_223 : lk RX6 223 "ScytheKeepers" "traced" "J" := Or.inl (tb_mem 244 (by decide +kernel) (by decide +kernel))
theorem kX6_227 : Cond.methodLinkNest RX6 227 yX1_askedBehind "ScytheKeepers" ∈ NB := nb_mem 295 (by decide +kernel) (by decide +kernel)
theorem kX6_230 : Cond.methodLinkNest RX6 230 yX3_allMown "ScytheKeepers" ∈ NB := nb_mem 313 (by decide +kernel) (by decide +kernel)
theorem kX6_233 : Cond.constantLong RX6 233 (10) ∈ TB := tb_mem 525 (by decide +kernel) (by decide +kernel)
theorem kX6_235 : Cond.constantLong RX6 235 (100) ∈ TB := tb_mem 530 (by decide +kernel) (by decide +kernel)
theorem kX6_237 : Cond.constantLong RX6 237 (1000) ∈ TB := tb_mem 535 (by decide +kernel) (by decide +kernel)
theorem kX6_239 : Cond.constantLong RX6 239 (10000) ∈ TB := tb_mem 540 (by decide +kernel) (by decide +kernel)
theorem kX6_241 : Cond.constantLong RX6 241 (100000) ∈ TB := tb_mem 545 (by decide +kernel) (by decide +kernel)
theorem kX7_7 : lk RX7 7 "ScytheKeepersModel" "farms" "[I" := Or.inl (tb_mem 569 (by decide +kernel) (by decide +kernel))
theorem kX7_13 : lk RX7 13 "ScytheKeepersModel" "shames" "[I" := Or.inl (tb_mem 570 (by decide +kernel) (by decide +kernel))
theorem kX7_16 : lk RX7 16 "ScytheKeepersModel" "nerves" "[I" := Or.inl (tb_mem 571 (by decide +kernel) (by decide +kernel))
theorem kX7_19 : lk RX7 19 "ScytheKeepersModel" "st" "[I" := Or.inl (tb_mem 572 (by decide +kernel) (by decide +kernel))
theorem kX7_22 : lk RX7 22 "ScytheKeepersModel" "was" "[I" := Or.inl (tb_mem 573 (by decide +kernel) (by decide +kernel))
theorem kX7_25 : lk RX7 25 "ScytheKeepersModel" "images" "[I" := Or.inl (tb_mem 575 (by decide +kernel) (by decide +kernel))
theorem kX7_28 : lk RX7 28 "ScytheKeepersModel" "isKept" "[Z" := Or.inl (tb_mem 576 (by decide +kernel) (by decide +kernel))
theorem kX7_32 : lk RX7 32 "ScytheKeepersModel" "told" "[I" := Or.inl (tb_mem 578 (by decide +kernel) (by decide +kernel))
theorem kX7_35 : lk RX7 35 "ScytheKeepersModel" "text" "[I" := Or.inl (tb_mem 580 (by decide +kernel) (by decide +kernel))
theorem kX7_38 : lk RX7 38 "ScytheKeepersModel" "said" "[I" := Or.inl (tb_mem 589 (by decide +kernel) (by decide +kernel))
theorem kX7_41 : lk RX7 41 "ScytheKeepersModel" "now" "[I" := Or.inl (tb_mem 590 (by decide +kernel) (by decide +kernel))
theorem kX7_44 : lk RX7 44 "ScytheKeepersModel" "tried" "[I" := Or.inl (tb_mem 592 (by decide +kernel) (by decide +kernel))
theorem kX7_47 : lk RX7 47 "ScytheKeepersModel" "farmers" "I" := Or.inl (tb_mem 568 (by decide +kernel) (by decide +kernel))
theorem kX7_51 : Cond.methodLink RX7 51 yX7_in ∈ TB := tb_mem 648 (by decide +kernel) (by decide +kernel)
theorem kX7_55 : lk RX7 55 "ScytheKeepersModel" "texted" "I" := Or.inl (tb_mem 581 (by decide +kernel) (by decide +kernel))
theorem kX7_58 : lk RX7 58 "ScytheKeepersModel" "cursor" "I" := Or.inl (tb_mem 582 (by decide +kernel) (by decide +kernel))
theorem kX7_61 : Cond.methodLink RX7 61 yX7_letterAt ∈ TB := tb_mem 663 (by decide +kernel) (by decide +kernel)
theorem kX7_65 : lk RX7 65 "ScytheKeepersModel" "start" "I" := Or.inl (tb_mem 583 (by decide +kernel) (by decide +kernel))
theorem kX7_68 : lk RX7 68 "ScytheKeepersModel" "number" "I" := Or.inl (tb_mem 585 (by decide +kernel) (by decide +kernel))
theorem kX7_71 : lk RX7 71 "ScytheKeepersModel" "token" "I" := Or.inl (tb_mem 584 (by decide +kernel) (by decide +kernel))
theorem kX7_74 : Cond.methodLink RX7 74 yX7_isFigure ∈ TB := tb_mem 667 (by decide +kernel) (by decide +kernel)
theorem kX7_78 : lk RX7 78 "ScytheKeepersModel" "isWrong" "Z" := Or.inl (tb_mem 586 (by decide +kernel) (by decide +kernel))
theorem kX7_82 : Cond.methodLink RX7 82 yX7_next ∈ TB := tb_mem 659 (by decide +kernel) (by decide +kernel)
theorem kX7_85 : lk RX7 85 "ScytheKeepersModel" "saidFarmers" "I" := Or.inl (tb_mem 588 (by decide +kernel) (by decide +kernel))
theorem kX7_88 : Cond.methodLink RX7 88 yX7_takesNumber ∈ TB := tb_mem 678 (by decide +kernel) (by decide +kernel)
theorem kX7_92 : Cond.methodLink RX7 92 yX7_readFarmer ∈ TB := tb_mem 674 (by decide +kernel) (by decide +kernel)
theorem kX7_95 : lk RX7 95 "ScytheKeepersModel" "items" "I" := Or.inl (tb_mem 587 (by decide +kernel) (by decide +kernel))
theorem kX7_98 : Cond.methodLink RX7 98 yX7_readItem ∈ TB := tb_mem 670 (by decide +kernel) (by decide +kernel)
theorem kX7_101 : Cond.methodLink RX7 101 yX7_settles ∈ TB := tb_mem 682 (by decide +kernel) (by decide +kernel)
theorem kX7_104 : lk RX7 104 "ScytheKeepersModel" "known" "I" := Or.inl (tb_mem 574 (by decide +kernel) (by decide +kernel))
theorem kX7_107 : lk RX7 107 "ScytheKeepersModel" "toldMany" "I" := Or.inl (tb_mem 577 (by decide +kernel) (by decide +kernel))
theorem kX7_110 : Cond.methodLink RX7 110 yX7_copy ∈ TB := tb_mem 710 (by decide +kernel) (by decide +kernel)
theorem kX7_114 : Cond.methodLink RX7 114 yX7_bits ∈ TB := tb_mem 724 (by decide +kernel) (by decide +kernel)
theorem kX7_117 : Cond.methodLink RX7 117 yX7_has ∈ TB := tb_mem 713 (by decide +kernel) (by decide +kernel)
theorem kX7_121 : lk RX7 121 "ScytheKeepersModel" "bare" "I" := Or.inl (tb_mem 591 (by decide +kernel) (by decide +kernel))
theorem kX7_124 : Cond.methodLink RX7 124 yX7_asks ∈ TB := tb_mem 720 (by decide +kernel) (by decide +kernel)
theorem kX7_127 : Cond.methodLink RX7 127 yX7_mowsOwn ∈ TB := tb_mem 727 (by decide +kernel) (by decide +kernel)
theorem kX7_130 : Cond.methodLink RX7 130 yX7_mowsOther ∈ TB := tb_mem 731 (by decide +kernel) (by decide +kernel)
theorem kX7_133 : Cond.methodLink RX7 133 yX7_asItIs ∈ TB := tb_mem 706 (by decide +kernel) (by decide +kernel)
theorem kX7_136 : Cond.methodLink RX7 136 yX7_goesBy ∈ TB := tb_mem 716 (by decide +kernel) (by decide +kernel)
theorem kX7_139 : Cond.methodLink RX7 139 yX7_leftAll ∈ TB := tb_mem 739 (by decide +kernel) (by decide +kernel)
theorem kX7_143 : Cond.methodLink RX7 143 yX7_isFarmer ∈ TB := tb_mem 690 (by decide +kernel) (by decide +kernel)
theorem kX7_146 : Cond.methodLink RX7 146 yX7_hangWith ∈ TB := tb_mem 694 (by decide +kernel) (by decide +kernel)
theorem kX7_149 : Cond.methodLink RX7 149 yX7_ring ∈ TB := tb_mem 698 (by decide +kernel) (by decide +kernel)
theorem kX7_152 : Cond.methodLink RX7 152 yX7_daysTillAsked ∈ TB := tb_mem 702 (by decide +kernel) (by decide +kernel)
theorem kX7_155 : Cond.methodLink RX7 155 yX7_daysTillDone ∈ TB := tb_mem 735 (by decide +kernel) (by decide +kernel)
theorem kX7_158 : Cond.methodLink RX7 158 yX7_remembers ∈ TB := tb_mem 751 (by decide +kernel) (by decide +kernel)
theorem kX7_161 : Cond.methodLink RX7 161 yX7_allAskedBy ∈ TB := tb_mem 771 (by decide +kernel) (by decide +kernel)
theorem kX7_164 : Cond.methodLink RX7 164 yX7_far ∈ TB := tb_mem 783 (by decide +kernel) (by decide +kernel)
theorem kX7_167 : Cond.methodLink RX7 167 yX7_farBy ∈ TB := tb_mem 779 (by decide +kernel) (by decide +kernel)
theorem kX7_170 : Cond.methodLink RX7 170 yX7_lowest ∈ TB := tb_mem 790 (by decide +kernel) (by decide +kernel)
theorem kX7_174 : Cond.methodLink RX7 174 yX7_hadAsked ∈ TB := tb_mem 809 (by decide +kernel) (by decide +kernel)
theorem kX7_178 : Cond.methodLink RX7 178 yX7_isSo ∈ TB := tb_mem 805 (by decide +kernel) (by decide +kernel)
theorem kX7_181 : Cond.methodLink RX7 181 yX7_ones ∈ TB := tb_mem 816 (by decide +kernel) (by decide +kernel)
theorem kX7_184 : Cond.constant RX7 184 (-1000000) ∈ TB := tb_mem 821 (by decide +kernel) (by decide +kernel)
theorem kX7_185 : lk RX7 185 "ScytheKeepersModel" "trace" "J" := Or.inl (tb_mem 579 (by decide +kernel) (by decide +kernel))
theorem kX7_189 : Cond.constantLong RX7 189 (11) ∈ TB := tb_mem 822 (by decide +kernel) (by decide +kernel)
theorem kX7_191 : Cond.constantLong RX7 191 (101) ∈ TB := tb_mem 823 (by decide +kernel) (by decide +kernel)
theorem kX7_193 : Cond.constantLong RX7 193 (1011) ∈ TB := tb_mem 824 (by decide +kernel) (by decide +kernel)
theorem kX7_195 : Cond.constantLong RX7 195 (10101) ∈ TB := tb_mem 825 (by decide +kernel) (by decide +kernel)
theorem kX7_197 : Cond.constantLong RX7 197 (100001) ∈ TB := tb_mem 826 (by decide +kernel) (by decide +kernel)
theorem wcX6_init : Cond.code yX6_init cX6_init 2 none ∈ TB := tb_mem 78 (by decide +kernel) (by decide +kernel)
theorem wmX6_init : Cond.instanceMethod yX6_init ∈ TB := tb_mem 77 (by decide +kernel) (by decide +kernel)
theorem wcX5_init : Cond.code yX5_init cX5_init 1 none ∈ TB := tb_mem 86 (by decide +kernel) (by decide +kernel)
theorem wmX5_init : Cond.instanceMethod yX5_init ∈ TB := tb_mem 85 (by decide +kernel) (by decide +kernel)
theorem wcX1_init : Cond.code yX1_init cX1_init 1 none ∈ TB := tb_mem 114 (by decide +kernel) (by decide +kernel)
theorem wmX1_init : Cond.instanceMethod yX1_init ∈ TB := tb_mem 113 (by decide +kernel) (by decide +kernel)
theorem wcX3_init : Cond.code yX3_init cX3_init 2 none ∈ TB := tb_mem 155 (by decide +kernel) (by decide +kernel)
theorem wmX3_init : Cond.instanceMethod yX3_init ∈ TB := tb_mem 154 (by decide +kernel) (by decide +kernel)
theorem wcX2_init : Cond.code yX2_init cX2_init 3 none ∈ TB := tb_mem 181 (by decide +kernel) (by decide +kernel)
theorem wmX2_init : Cond.instanceMethod yX2_init ∈ TB := tb_mem 180 (by decide +kernel) (by decide +kernel)
theorem wcX0_init : Cond.code yX0_init cX0_init 2 none ∈ TB := tb_mem 201 (by decide +kernel) (by decide +kernel)
theorem wmX0_init : Cond.instanceMethod yX0_init ∈ TB := tb_mem 200 (by decide +kernel) (by decide +kernel)
theorem wcX4_init : Cond.code yX4_init cX4_init 1 none ∈ TB := tb_mem 223 (by decide +kernel) (by decide +kernel)
theorem wmX4_init : Cond.instanceMethod yX4_init ∈ TB := tb_mem 222 (by decide +kernel) (by decide +kernel)
theorem wcX6_type : Cond.code yX6_type cX6_type 2 (some .int) ∈ TB := tb_mem 273 (by decide +kernel) (by decide +kernel)
theorem wmX6_type : Cond.instanceMethod yX6_type ∈ TB := tb_mem 271 (by decide +kernel) (by decide +kernel)
theorem weX6_type : Cond.selects RX6 yX6_type yX6_type ∈ TB := tb_mem 272 (by decide +kernel) (by decide +kernel)
theorem wcX6_within : Cond.code yX6_within cX6_within 3 (some .boolean) ∈ TB := tb_mem 276 (by decide +kernel) (by decide +kernel)
theorem wtX6_within : Cond.static yX6_within ∈ TB := tb_mem 275 (by decide +kernel) (by decide +kernel)
theorem wcX5_add : Cond.code yX5_add cX5_add 2 (some .boolean) ∈ TB := tb_mem 280 (by decide +kernel) (by decide +kernel)
theorem wmX5_add : Cond.instanceMethod yX5_add ∈ TB := tb_mem 279 (by decide +kernel) (by decide +kernel)
theorem weX5_add : Cond.selects RX5 yX5_add yX5_add ∈ TB := tb_mem 0 (by decide +kernel) (by decide +kernel)
theorem wcX6_clear : Cond.code yX6_clear cX6_clear 2 (some .int) ∈ TB := tb_mem 284 (by decide +kernel) (by decide +kernel)
theorem wmX6_clear : Cond.instanceMethod yX6_clear ∈ TB := tb_mem 282 (by decide +kernel) (by decide +kernel)
theorem weX6_clear : Cond.selects RX6 yX6_clear yX6_clear ∈ TB := tb_mem 283 (by decide +kernel) (by decide +kernel)
theorem wcX6_valley : Cond.code yX6_valley cX6_valley 2 (some .int) ∈ TB := tb_mem 288 (by decide +kernel) (by decide +kernel)
theorem wmX6_valley : Cond.instanceMethod yX6_valley ∈ TB := tb_mem 286 (by decide +kernel) (by decide +kernel)
theorem weX6_valley : Cond.selects RX6 yX6_valley yX6_valley ∈ TB := tb_mem 287 (by decide +kernel) (by decide +kernel)
theorem wcX5_tells : Cond.code yX5_tells cX5_tells 3 (some .boolean) ∈ TB := tb_mem 292 (by decide +kernel) (by decide +kernel)
theorem wmX5_tells : Cond.instanceMethod yX5_tells ∈ TB := tb_mem 291 (by decide +kernel) (by decide +kernel)
theorem weX5_tells : Cond.selects RX5 yX5_tells yX5_tells ∈ TB := tb_mem 1 (by decide +kernel) (by decide +kernel)
theorem wcX5_step : Cond.code yX5_step cX5_step 1 none ∈ TB := tb_mem 296 (by decide +kernel) (by decide +kernel)
theorem wmX5_step : Cond.instanceMethod yX5_step ∈ TB := tb_mem 295 (by decide +kernel) (by decide +kernel)
theorem weX5_step : Cond.selects RX5 yX5_step yX5_step ∈ TB := tb_mem 2 (by decide +kernel) (by decide +kernel)
theorem wcX5_isDigit : Cond.code yX5_isDigit cX5_isDigit 1 (some .boolean) ∈ TB := tb_mem 299 (by decide +kernel) (by decide +kernel)
theorem wtX5_isDigit : Cond.static yX5_isDigit ∈ TB := tb_mem 298 (by decide +kernel) (by decide +kernel)
theorem wcX5_stepOverNumber : Cond.code yX5_stepOverNumber cX5_stepOverNumber 2 none ∈ TB := tb_mem 303 (by decide +kernel) (by decide +kernel)
theorem wmX5_stepOverNumber : Cond.instanceMethod yX5_stepOverNumber ∈ TB := tb_mem 302 (by decide +kernel) (by decide +kernel)
theorem weX5_stepOverNumber : Cond.selects RX5 yX5_stepOverNumber yX5_stepOverNumber ∈ TB := tb_mem 3 (by decide +kernel) (by decide +kernel)
theorem wcJ9_min_7cf53 : Cond.code yJ9_min_7cf53 cJ9_min_7cf53 2 (some .int) ∈ TB := tb_mem 306 (by decide +kernel) (by decide +kernel)
theorem wtJ9_min_7cf53 : Cond.static yJ9_min_7cf53 ∈ TB := tb_mem 305 (by decide +kernel) (by decide +kernel)
theorem wcX5_tellsOne : Cond.code yX5_tellsOne cX5_tellsOne 4 (some .boolean) ∈ TB := tb_mem 310 (by decide +kernel) (by decide +kernel)
theorem wmX5_tellsOne : Cond.instanceMethod yX5_tellsOne ∈ TB := tb_mem 309 (by decide +kernel) (by decide +kernel)
theorem weX5_tellsOne : Cond.selects RX5 yX5_tellsOne yX5_tellsOne ∈ TB := tb_mem 4 (by decide +kernel) (by decide +kernel)
theorem wcX5_tellsNumber : Cond.code yX5_tellsNumber cX5_tellsNumber 5 (some .boolean) ∈ TB := tb_mem 314 (by decide +kernel) (by decide +kernel)
theorem wmX5_tellsNumber : Cond.instanceMethod yX5_tellsNumber ∈ TB := tb_mem 313 (by decide +kernel) (by decide +kernel)
theorem weX5_tellsNumber : Cond.selects RX5 yX5_tellsNumber yX5_tellsNumber ∈ TB := tb_mem 5 (by decide +kernel) (by decide +kernel)
theorem wcX1_keepersAreThere : Cond.code yX1_keepersAreThere cX1_keepersAreThere 2 (some .boolean) ∈ TB := tb_mem 318 (by decide +kernel) (by decide +kernel)
theorem wmX1_keepersAreThere : Cond.instanceMethod yX1_keepersAreThere ∈ TB := tb_mem 317 (by decide +kernel) (by decide +kernel)
theorem weX1_keepersAreThere : Cond.selects RX1 yX1_keepersAreThere yX1_keepersAreThere ∈ TB := tb_mem 6 (by decide +kernel) (by decide +kernel)
theorem wcX1_has : Cond.code yX1_has cX1_has 2 (some .boolean) ∈ TB := tb_mem 322 (by decide +kernel) (by decide +kernel)
theorem wmX1_has : Cond.instanceMethod yX1_has ∈ TB := tb_mem 321 (by decide +kernel) (by decide +kernel)
theorem weX1_has : Cond.selects RX1 yX1_has yX1_has ∈ TB := tb_mem 7 (by decide +kernel) (by decide +kernel)
theorem wcX1_copyFrom : Cond.code yX1_copyFrom cX1_copyFrom 3 none ∈ TB := tb_mem 326 (by decide +kernel) (by decide +kernel)
theorem wmX1_copyFrom : Cond.instanceMethod yX1_copyFrom ∈ TB := tb_mem 325 (by decide +kernel) (by decide +kernel)
theorem weX1_copyFrom : Cond.selects RX1 yX1_copyFrom yX1_copyFrom ∈ TB := tb_mem 8 (by decide +kernel) (by decide +kernel)
theorem wcX3_begin : Cond.code yX3_begin cX3_begin 2 none ∈ TB := tb_mem 330 (by decide +kernel) (by decide +kernel)
theorem wmX3_begin : Cond.instanceMethod yX3_begin ∈ TB := tb_mem 329 (by decide +kernel) (by decide +kernel)
theorem weX3_begin : Cond.selects RX3 yX3_begin yX3_begin ∈ TB := tb_mem 9 (by decide +kernel) (by decide +kernel)
theorem wcX4_begin : Cond.code yX4_begin cX4_begin 2 none ∈ TB := tb_mem 334 (by decide +kernel) (by decide +kernel)
theorem wmX4_begin : Cond.instanceMethod yX4_begin ∈ TB := tb_mem 333 (by decide +kernel) (by decide +kernel)
theorem weX4_begin : Cond.selects RX4 yX4_begin yX4_begin ∈ TB := tb_mem 10 (by decide +kernel) (by decide +kernel)
theorem wcX6_farmer : Cond.code yX6_farmer cX6_farmer 3 (some .int) ∈ TB := tb_mem 338 (by decide +kernel) (by decide +kernel)
theorem wmX6_farmer : Cond.instanceMethod yX6_farmer ∈ TB := tb_mem 336 (by decide +kernel) (by decide +kernel)
theorem weX6_farmer : Cond.selects RX6 yX6_farmer yX6_farmer ∈ TB := tb_mem 337 (by decide +kernel) (by decide +kernel)
theorem wcX3_hasAsked : Cond.code yX3_hasAsked cX3_hasAsked 2 (some .boolean) ∈ TB := tb_mem 343 (by decide +kernel) (by decide +kernel)
theorem wmX3_hasAsked : Cond.instanceMethod yX3_hasAsked ∈ TB := tb_mem 342 (by decide +kernel) (by decide +kernel)
theorem weX3_hasAsked : Cond.selects RX3 yX3_hasAsked yX3_hasAsked ∈ TB := tb_mem 11 (by decide +kernel) (by decide +kernel)
theorem wcX3_hungWith : Cond.code yX3_hungWith cX3_hungWith 4 (some .int) ∈ TB := tb_mem 347 (by decide +kernel) (by decide +kernel)
theorem wmX3_hungWith : Cond.instanceMethod yX3_hungWith ∈ TB := tb_mem 346 (by decide +kernel) (by decide +kernel)
theorem weX3_hungWith : Cond.selects RX3 yX3_hungWith yX3_hungWith ∈ TB := tb_mem 12 (by decide +kernel) (by decide +kernel)
theorem wcX3_ringOf : Cond.code yX3_ringOf cX3_ringOf 4 (some .int) ∈ TB := tb_mem 351 (by decide +kernel) (by decide +kernel)
theorem wmX3_ringOf : Cond.instanceMethod yX3_ringOf ∈ TB := tb_mem 350 (by decide +kernel) (by decide +kernel)
theorem weX3_ringOf : Cond.selects RX3 yX3_ringOf yX3_ringOf ∈ TB := tb_mem 13 (by decide +kernel) (by decide +kernel)
theorem wcX6_daysTillAsked : Cond.code yX6_daysTillAsked cX6_daysTillAsked 4 (some .int) ∈ TB := tb_mem 356 (by decide +kernel) (by decide +kernel)
theorem wmX6_daysTillAsked : Cond.instanceMethod yX6_daysTillAsked ∈ TB := tb_mem 355 (by decide +kernel) (by decide +kernel)
theorem weX6_daysTillAsked : Cond.selects RX6 yX6_daysTillAsked yX6_daysTillAsked ∈ TB := tb_mem 14 (by decide +kernel) (by decide +kernel)
theorem wcX1_askedBehind : Cond.code yX1_askedBehind cX1_askedBehind 6 (some .int) ∈ TB := tb_mem 360 (by decide +kernel) (by decide +kernel)
theorem wmX1_askedBehind : Cond.instanceMethod yX1_askedBehind ∈ TB := tb_mem 359 (by decide +kernel) (by decide +kernel)
theorem weX1_askedBehind : Cond.selects RX1 yX1_askedBehind yX1_askedBehind ∈ TB := tb_mem 15 (by decide +kernel) (by decide +kernel)
theorem wcJ6_bitCount_0f7a4 : Cond.code yJ6_bitCount_0f7a4 cJ6_bitCount_0f7a4 1 (some .int) ∈ TB := tb_mem 363 (by decide +kernel) (by decide +kernel)
theorem wtJ6_bitCount_0f7a4 : Cond.static yJ6_bitCount_0f7a4 ∈ TB := tb_mem 362 (by decide +kernel) (by decide +kernel)
theorem wcX6_daysTillMown : Cond.code yX6_daysTillMown cX6_daysTillMown 3 (some .int) ∈ TB := tb_mem 370 (by decide +kernel) (by decide +kernel)
theorem wmX6_daysTillMown : Cond.instanceMethod yX6_daysTillMown ∈ TB := tb_mem 369 (by decide +kernel) (by decide +kernel)
theorem weX6_daysTillMown : Cond.selects RX6 yX6_daysTillMown yX6_daysTillMown ∈ TB := tb_mem 16 (by decide +kernel) (by decide +kernel)
theorem wcX3_copyFrom : Cond.code yX3_copyFrom cX3_copyFrom 3 none ∈ TB := tb_mem 374 (by decide +kernel) (by decide +kernel)
theorem wmX3_copyFrom : Cond.instanceMethod yX3_copyFrom ∈ TB := tb_mem 373 (by decide +kernel) (by decide +kernel)
theorem weX3_copyFrom : Cond.selects RX3 yX3_copyFrom yX3_copyFrom ∈ TB := tb_mem 17 (by decide +kernel) (by decide +kernel)
theorem wcX3_allMown : Cond.code yX3_allMown cX3_allMown 3 (some .boolean) ∈ TB := tb_mem 378 (by decide +kernel) (by decide +kernel)
theorem wmX3_allMown : Cond.instanceMethod yX3_allMown ∈ TB := tb_mem 377 (by decide +kernel) (by decide +kernel)
theorem weX3_allMown : Cond.selects RX3 yX3_allMown yX3_allMown ∈ TB := tb_mem 18 (by decide +kernel) (by decide +kernel)
theorem wcX3_pass : Cond.code yX3_pass cX3_pass 2 (some .int) ∈ TB := tb_mem 382 (by decide +kernel) (by decide +kernel)
theorem wmX3_pass : Cond.instanceMethod yX3_pass ∈ TB := tb_mem 381 (by decide +kernel) (by decide +kernel)
theorem weX3_pass : Cond.selects RX3 yX3_pass yX3_pass ∈ TB := tb_mem 19 (by decide +kernel) (by decide +kernel)
theorem wcX3_mowAll : Cond.code yX3_mowAll cX3_mowAll 4 (some .int) ∈ TB := tb_mem 387 (by decide +kernel) (by decide +kernel)
theorem wmX3_mowAll : Cond.instanceMethod yX3_mowAll ∈ TB := tb_mem 386 (by decide +kernel) (by decide +kernel)
theorem weX3_mowAll : Cond.selects RX3 yX3_mowAll yX3_mowAll ∈ TB := tb_mem 20 (by decide +kernel) (by decide +kernel)
theorem wcX3_mowsForAnother : Cond.code yX3_mowsForAnother cX3_mowsForAnother 3 (some .boolean) ∈ TB := tb_mem 392 (by decide +kernel) (by decide +kernel)
theorem wmX3_mowsForAnother : Cond.instanceMethod yX3_mowsForAnother ∈ TB := tb_mem 391 (by decide +kernel) (by decide +kernel)
theorem weX3_mowsForAnother : Cond.selects RX3 yX3_mowsForAnother yX3_mowsForAnother ∈ TB := tb_mem 21 (by decide +kernel) (by decide +kernel)
theorem wcX6_now : Cond.code yX6_now cX6_now 2 (some .int) ∈ TB := tb_mem 396 (by decide +kernel) (by decide +kernel)
theorem wmX6_now : Cond.instanceMethod yX6_now ∈ TB := tb_mem 394 (by decide +kernel) (by decide +kernel)
theorem weX6_now : Cond.selects RX6 yX6_now yX6_now ∈ TB := tb_mem 395 (by decide +kernel) (by decide +kernel)
theorem wcX3_leftTogether : Cond.code yX3_leftTogether cX3_leftTogether 3 (some .int) ∈ TB := tb_mem 400 (by decide +kernel) (by decide +kernel)
theorem wmX3_leftTogether : Cond.instanceMethod yX3_leftTogether ∈ TB := tb_mem 399 (by decide +kernel) (by decide +kernel)
theorem weX3_leftTogether : Cond.selects RX3 yX3_leftTogether yX3_leftTogether ∈ TB := tb_mem 22 (by decide +kernel) (by decide +kernel)
theorem wcX1_everyone : Cond.code yX1_everyone cX1_everyone 1 (some .int) ∈ TB := tb_mem 404 (by decide +kernel) (by decide +kernel)
theorem wmX1_everyone : Cond.instanceMethod yX1_everyone ∈ TB := tb_mem 403 (by decide +kernel) (by decide +kernel)
theorem weX1_everyone : Cond.selects RX1 yX1_everyone yX1_everyone ∈ TB := tb_mem 23 (by decide +kernel) (by decide +kernel)
theorem wcX6_day : Cond.code yX6_day cX6_day 2 (some .int) ∈ TB := tb_mem 408 (by decide +kernel) (by decide +kernel)
theorem wmX6_day : Cond.instanceMethod yX6_day ∈ TB := tb_mem 406 (by decide +kernel) (by decide +kernel)
theorem weX6_day : Cond.selects RX6 yX6_day yX6_day ∈ TB := tb_mem 407 (by decide +kernel) (by decide +kernel)
theorem wcX2_push : Cond.code yX2_push cX2_push 2 none ∈ TB := tb_mem 412 (by decide +kernel) (by decide +kernel)
theorem wmX2_push : Cond.instanceMethod yX2_push ∈ TB := tb_mem 411 (by decide +kernel) (by decide +kernel)
theorem weX2_push : Cond.selects RX2 yX2_push yX2_push ∈ TB := tb_mem 24 (by decide +kernel) (by decide +kernel)
theorem wcX6_brings : Cond.code yX6_brings cX6_brings 2 (some .int) ∈ TB := tb_mem 418 (by decide +kernel) (by decide +kernel)
theorem wmX6_brings : Cond.instanceMethod yX6_brings ∈ TB := tb_mem 416 (by decide +kernel) (by decide +kernel)
theorem weX6_brings : Cond.selects RX6 yX6_brings yX6_brings ∈ TB := tb_mem 417 (by decide +kernel) (by decide +kernel)
theorem wcX6_hangs : Cond.code yX6_hangs cX6_hangs 4 (some .int) ∈ TB := tb_mem 423 (by decide +kernel) (by decide +kernel)
theorem wmX6_hangs : Cond.instanceMethod yX6_hangs ∈ TB := tb_mem 421 (by decide +kernel) (by decide +kernel)
theorem weX6_hangs : Cond.selects RX6 yX6_hangs yX6_hangs ∈ TB := tb_mem 422 (by decide +kernel) (by decide +kernel)
theorem wcX6_undo : Cond.code yX6_undo cX6_undo 1 (some .int) ∈ TB := tb_mem 427 (by decide +kernel) (by decide +kernel)
theorem wmX6_undo : Cond.instanceMethod yX6_undo ∈ TB := tb_mem 425 (by decide +kernel) (by decide +kernel)
theorem weX6_undo : Cond.selects RX6 yX6_undo yX6_undo ∈ TB := tb_mem 426 (by decide +kernel) (by decide +kernel)
theorem wcX2_pop : Cond.code yX2_pop cX2_pop 2 none ∈ TB := tb_mem 431 (by decide +kernel) (by decide +kernel)
theorem wmX2_pop : Cond.instanceMethod yX2_pop ∈ TB := tb_mem 430 (by decide +kernel) (by decide +kernel)
theorem weX2_pop : Cond.selects RX2 yX2_pop yX2_pop ∈ TB := tb_mem 25 (by decide +kernel) (by decide +kernel)
theorem wcX6_start : Cond.code yX6_start cX6_start 6 (some .int) ∈ TB := tb_mem 435 (by decide +kernel) (by decide +kernel)
theorem wmX6_start : Cond.instanceMethod yX6_start ∈ TB := tb_mem 433 (by decide +kernel) (by decide +kernel)
theorem weX6_start : Cond.selects RX6 yX6_start yX6_start ∈ TB := tb_mem 434 (by decide +kernel) (by decide +kernel)
theorem wcX6_allAskBehind : Cond.code yX6_allAskBehind cX6_allAskBehind 5 (some .boolean) ∈ TB := tb_mem 439 (by decide +kernel) (by decide +kernel)
theorem wmX6_allAskBehind : Cond.instanceMethod yX6_allAskBehind ∈ TB := tb_mem 438 (by decide +kernel) (by decide +kernel)
theorem weX6_allAskBehind : Cond.selects RX6 yX6_allAskBehind yX6_allAskBehind ∈ TB := tb_mem 26 (by decide +kernel) (by decide +kernel)
theorem wcX6_hang : Cond.code yX6_hang cX6_hang 2 (some .int) ∈ TB := tb_mem 443 (by decide +kernel) (by decide +kernel)
theorem wmX6_hang : Cond.instanceMethod yX6_hang ∈ TB := tb_mem 441 (by decide +kernel) (by decide +kernel)
theorem weX6_hang : Cond.selects RX6 yX6_hang yX6_hang ∈ TB := tb_mem 442 (by decide +kernel) (by decide +kernel)
theorem wcX0_search : Cond.code yX0_search cX0_search 1 none ∈ TB := tb_mem 447 (by decide +kernel) (by decide +kernel)
theorem wmX0_search : Cond.instanceMethod yX0_search ∈ TB := tb_mem 446 (by decide +kernel) (by decide +kernel)
theorem weX0_search : Cond.selects RX0 yX0_search yX0_search ∈ TB := tb_mem 27 (by decide +kernel) (by decide +kernel)
theorem wcX0_hangFrom : Cond.code yX0_hangFrom cX0_hangFrom 6 none ∈ TB := tb_mem 450 (by decide +kernel) (by decide +kernel)
theorem wtX0_hangFrom : Cond.static yX0_hangFrom ∈ TB := tb_mem 449 (by decide +kernel) (by decide +kernel)
theorem wcJ9_abs_0f7a4 : Cond.code yJ9_abs_0f7a4 cJ9_abs_0f7a4 1 (some .int) ∈ TB := tb_mem 456 (by decide +kernel) (by decide +kernel)
theorem wtJ9_abs_0f7a4 : Cond.static yJ9_abs_0f7a4 ∈ TB := tb_mem 455 (by decide +kernel) (by decide +kernel)
theorem wcX6_odds : Cond.code yX6_odds cX6_odds 9 (some .int) ∈ TB := tb_mem 460 (by decide +kernel) (by decide +kernel)
theorem wmX6_odds : Cond.instanceMethod yX6_odds ∈ TB := tb_mem 458 (by decide +kernel) (by decide +kernel)
theorem weX6_odds : Cond.selects RX6 yX6_odds yX6_odds ∈ TB := tb_mem 459 (by decide +kernel) (by decide +kernel)
theorem wcX6_weigh : Cond.code yX6_weigh cX6_weigh 5 none ∈ TB := tb_mem 464 (by decide +kernel) (by decide +kernel)
theorem wmX6_weigh : Cond.instanceMethod yX6_weigh ∈ TB := tb_mem 463 (by decide +kernel) (by decide +kernel)
theorem weX6_weigh : Cond.selects RX6 yX6_weigh yX6_weigh ∈ TB := tb_mem 28 (by decide +kernel) (by decide +kernel)
theorem wcX6_commonDivisor : Cond.code yX6_commonDivisor cX6_commonDivisor 6 (some .int) ∈ TB := tb_mem 467 (by decide +kernel) (by decide +kernel)
theorem wtX6_commonDivisor : Cond.static yX6_commonDivisor ∈ TB := tb_mem 466 (by decide +kernel) (by decide +kernel)
theorem wcX6_sees : Cond.code yX6_sees cX6_sees 4 (some .int) ∈ TB := tb_mem 471 (by decide +kernel) (by decide +kernel)
theorem wmX6_sees : Cond.instanceMethod yX6_sees ∈ TB := tb_mem 469 (by decide +kernel) (by decide +kernel)
theorem weX6_sees : Cond.selects RX6 yX6_sees yX6_sees ∈ TB := tb_mem 470 (by decide +kernel) (by decide +kernel)
theorem wcX4_learn : Cond.code yX4_learn cX4_learn 7 none ∈ TB := tb_mem 475 (by decide +kernel) (by decide +kernel)
theorem wmX4_learn : Cond.instanceMethod yX4_learn ∈ TB := tb_mem 474 (by decide +kernel) (by decide +kernel)
theorem weX4_learn : Cond.selects RX4 yX4_learn yX4_learn ∈ TB := tb_mem 29 (by decide +kernel) (by decide +kernel)
theorem wcX6_forget : Cond.code yX6_forget cX6_forget 2 (some .int) ∈ TB := tb_mem 479 (by decide +kernel) (by decide +kernel)
theorem wmX6_forget : Cond.instanceMethod yX6_forget ∈ TB := tb_mem 477 (by decide +kernel) (by decide +kernel)
theorem weX6_forget : Cond.selects RX6 yX6_forget yX6_forget ∈ TB := tb_mem 478 (by decide +kernel) (by decide +kernel)
theorem wcX6_ones : Cond.code yX6_ones cX6_ones 2 (some .int) ∈ TB := tb_mem 483 (by decide +kernel) (by decide +kernel)
theorem wmX6_ones : Cond.instanceMethod yX6_ones ∈ TB := tb_mem 481 (by decide +kernel) (by decide +kernel)
theorem weX6_ones : Cond.selects RX6 yX6_ones yX6_ones ∈ TB := tb_mem 482 (by decide +kernel) (by decide +kernel)
theorem wcX4_number : Cond.code yX4_number cX4_number 5 (some .int) ∈ TB := tb_mem 487 (by decide +kernel) (by decide +kernel)
theorem wmX4_number : Cond.instanceMethod yX4_number ∈ TB := tb_mem 486 (by decide +kernel) (by decide +kernel)
theorem weX4_number : Cond.selects RX4 yX4_number yX4_number ∈ TB := tb_mem 30 (by decide +kernel) (by decide +kernel)
theorem wcX4_numberOfNerve : Cond.code yX4_numberOfNerve cX4_numberOfNerve 6 (some .int) ∈ TB := tb_mem 491 (by decide +kernel) (by decide +kernel)
theorem wmX4_numberOfNerve : Cond.instanceMethod yX4_numberOfNerve ∈ TB := tb_mem 490 (by decide +kernel) (by decide +kernel)
theorem weX4_numberOfNerve : Cond.selects RX4 yX4_numberOfNerve yX4_numberOfNerve ∈ TB := tb_mem 31 (by decide +kernel) (by decide +kernel)
theorem wcX4_leastShame : Cond.code yX4_leastShame cX4_leastShame 2 (some .int) ∈ TB := tb_mem 495 (by decide +kernel) (by decide +kernel)
theorem wmX4_leastShame : Cond.instanceMethod yX4_leastShame ∈ TB := tb_mem 494 (by decide +kernel) (by decide +kernel)
theorem weX4_leastShame : Cond.selects RX4 yX4_leastShame yX4_leastShame ∈ TB := tb_mem 32 (by decide +kernel) (by decide +kernel)
theorem wcX4_greatestShame : Cond.code yX4_greatestShame cX4_greatestShame 2 (some .int) ∈ TB := tb_mem 500 (by decide +kernel) (by decide +kernel)
theorem wmX4_greatestShame : Cond.instanceMethod yX4_greatestShame ∈ TB := tb_mem 499 (by decide +kernel) (by decide +kernel)
theorem weX4_greatestShame : Cond.selects RX4 yX4_greatestShame yX4_greatestShame ∈ TB := tb_mem 33 (by decide +kernel) (by decide +kernel)
theorem wcX6_look : Cond.code yX6_look cX6_look 2 (some .int) ∈ TB := tb_mem 504 (by decide +kernel) (by decide +kernel)
theorem wmX6_look : Cond.instanceMethod yX6_look ∈ TB := tb_mem 502 (by decide +kernel) (by decide +kernel)
theorem weX6_look : Cond.selects RX6 yX6_look yX6_look ∈ TB := tb_mem 503 (by decide +kernel) (by decide +kernel)
theorem wcX4_bestOthers : Cond.code yX4_bestOthers cX4_bestOthers 8 (some .int) ∈ TB := tb_mem 508 (by decide +kernel) (by decide +kernel)
theorem wmX4_bestOthers : Cond.instanceMethod yX4_bestOthers ∈ TB := tb_mem 507 (by decide +kernel) (by decide +kernel)
theorem weX4_bestOthers : Cond.selects RX4 yX4_bestOthers yX4_bestOthers ∈ TB := tb_mem 34 (by decide +kernel) (by decide +kernel)
theorem wcJ9_max_7cf53 : Cond.code yJ9_max_7cf53 cJ9_max_7cf53 2 (some .int) ∈ TB := tb_mem 511 (by decide +kernel) (by decide +kernel)
theorem wtJ9_max_7cf53 : Cond.static yJ9_max_7cf53 ∈ TB := tb_mem 510 (by decide +kernel) (by decide +kernel)
theorem wcX6_rate : Cond.code yX6_rate cX6_rate 3 (some .int) ∈ TB := tb_mem 515 (by decide +kernel) (by decide +kernel)
theorem wmX6_rate : Cond.instanceMethod yX6_rate ∈ TB := tb_mem 513 (by decide +kernel) (by decide +kernel)
theorem weX6_rate : Cond.selects RX6 yX6_rate yX6_rate ∈ TB := tb_mem 514 (by decide +kernel) (by decide +kernel)
theorem wcX6_asFarmer : Cond.code yX6_asFarmer cX6_asFarmer 2 (some .int) ∈ TB := tb_mem 520 (by decide +kernel) (by decide +kernel)
theorem wmX6_asFarmer : Cond.instanceMethod yX6_asFarmer ∈ TB := tb_mem 519 (by decide +kernel) (by decide +kernel)
theorem weX6_asFarmer : Cond.selects RX6 yX6_asFarmer yX6_asFarmer ∈ TB := tb_mem 35 (by decide +kernel) (by decide +kernel)
theorem wcX6_asMower : Cond.code yX6_asMower cX6_asMower 2 (some .int) ∈ TB := tb_mem 524 (by decide +kernel) (by decide +kernel)
theorem wmX6_asMower : Cond.instanceMethod yX6_asMower ∈ TB := tb_mem 523 (by decide +kernel) (by decide +kernel)
theorem weX6_asMower : Cond.selects RX6 yX6_asMower yX6_asMower ∈ TB := tb_mem 36 (by decide +kernel) (by decide +kernel)
theorem wcX6_asLate : Cond.code yX6_asLate cX6_asLate 2 (some .int) ∈ TB := tb_mem 529 (by decide +kernel) (by decide +kernel)
theorem wmX6_asLate : Cond.instanceMethod yX6_asLate ∈ TB := tb_mem 528 (by decide +kernel) (by decide +kernel)
theorem weX6_asLate : Cond.selects RX6 yX6_asLate yX6_asLate ∈ TB := tb_mem 37 (by decide +kernel) (by decide +kernel)
theorem wcX6_asSon : Cond.code yX6_asSon cX6_asSon 2 (some .int) ∈ TB := tb_mem 534 (by decide +kernel) (by decide +kernel)
theorem wmX6_asSon : Cond.instanceMethod yX6_asSon ∈ TB := tb_mem 533 (by decide +kernel) (by decide +kernel)
theorem weX6_asSon : Cond.selects RX6 yX6_asSon yX6_asSon ∈ TB := tb_mem 38 (by decide +kernel) (by decide +kernel)
theorem wcX6_asCousin : Cond.code yX6_asCousin cX6_asCousin 2 (some .int) ∈ TB := tb_mem 539 (by decide +kernel) (by decide +kernel)
theorem wmX6_asCousin : Cond.instanceMethod yX6_asCousin ∈ TB := tb_mem 538 (by decide +kernel) (by decide +kernel)
theorem weX6_asCousin : Cond.selects RX6 yX6_asCousin yX6_asCousin ∈ TB := tb_mem 39 (by decide +kernel) (by decide +kernel)
theorem wcX6_asSnow : Cond.code yX6_asSnow cX6_asSnow 2 (some .int) ∈ TB := tb_mem 544 (by decide +kernel) (by decide +kernel)
theorem wmX6_asSnow : Cond.instanceMethod yX6_asSnow ∈ TB := tb_mem 543 (by decide +kernel) (by decide +kernel)
theorem weX6_asSnow : Cond.selects RX6 yX6_asSnow yX6_asSnow ∈ TB := tb_mem 40 (by decide +kernel) (by decide +kernel)
theorem wcX6_keep : Cond.code yX6_keep cX6_keep 2 (some .int) ∈ TB := tb_mem 549 (by decide +kernel) (by decide +kernel)
theorem wmX6_keep : Cond.instanceMethod yX6_keep ∈ TB := tb_mem 547 (by decide +kernel) (by decide +kernel)
theorem weX6_keep : Cond.selects RX6 yX6_keep yX6_keep ∈ TB := tb_mem 548 (by decide +kernel) (by decide +kernel)
theorem wcX6_back : Cond.code yX6_back cX6_back 2 (some .int) ∈ TB := tb_mem 553 (by decide +kernel) (by decide +kernel)
theorem wmX6_back : Cond.instanceMethod yX6_back ∈ TB := tb_mem 551 (by decide +kernel) (by decide +kernel)
theorem weX6_back : Cond.selects RX6 yX6_back yX6_back ∈ TB := tb_mem 552 (by decide +kernel) (by decide +kernel)
theorem wcX6_count : Cond.code yX6_count cX6_count 2 (some .int) ∈ TB := tb_mem 557 (by decide +kernel) (by decide +kernel)
theorem wmX6_count : Cond.instanceMethod yX6_count ∈ TB := tb_mem 555 (by decide +kernel) (by decide +kernel)
theorem weX6_count : Cond.selects RX6 yX6_count yX6_count ∈ TB := tb_mem 556 (by decide +kernel) (by decide +kernel)
theorem wcX6_trace : Cond.code yX6_trace cX6_trace 1 (some .long) ∈ TB := tb_mem 561 (by decide +kernel) (by decide +kernel)
theorem wmX6_trace : Cond.instanceMethod yX6_trace ∈ TB := tb_mem 559 (by decide +kernel) (by decide +kernel)
theorem weX6_trace : Cond.selects RX6 yX6_trace yX6_trace ∈ TB := tb_mem 560 (by decide +kernel) (by decide +kernel)
theorem wcX7_init : Cond.code yX7_init cX7_init 1 none ∈ TB := tb_mem 566 (by decide +kernel) (by decide +kernel)
theorem wmX7_init : Cond.instanceMethod yX7_init ∈ TB := tb_mem 565 (by decide +kernel) (by decide +kernel)
theorem wcX7_type : Cond.code yX7_type cX7_type 2 (some .int) ∈ TB := tb_mem 647 (by decide +kernel) (by decide +kernel)
theorem wmX7_type : Cond.instanceMethod yX7_type ∈ TB := tb_mem 645 (by decide +kernel) (by decide +kernel)
theorem weX7_type : Cond.selects RX7 yX7_type yX7_type ∈ TB := tb_mem 646 (by decide +kernel) (by decide +kernel)
theorem wcX7_in : Cond.code yX7_in cX7_in 3 (some .boolean) ∈ TB := tb_mem 650 (by decide +kernel) (by decide +kernel)
theorem wtX7_in : Cond.static yX7_in ∈ TB := tb_mem 649 (by decide +kernel) (by decide +kernel)
theorem wcX7_clear : Cond.code yX7_clear cX7_clear 2 (some .int) ∈ TB := tb_mem 654 (by decide +kernel) (by decide +kernel)
theorem wmX7_clear : Cond.instanceMethod yX7_clear ∈ TB := tb_mem 652 (by decide +kernel) (by decide +kernel)
theorem weX7_clear : Cond.selects RX7 yX7_clear yX7_clear ∈ TB := tb_mem 653 (by decide +kernel) (by decide +kernel)
theorem wcX7_valley : Cond.code yX7_valley cX7_valley 2 (some .int) ∈ TB := tb_mem 658 (by decide +kernel) (by decide +kernel)
theorem wmX7_valley : Cond.instanceMethod yX7_valley ∈ TB := tb_mem 656 (by decide +kernel) (by decide +kernel)
theorem weX7_valley : Cond.selects RX7 yX7_valley yX7_valley ∈ TB := tb_mem 657 (by decide +kernel) (by decide +kernel)
theorem wcX7_next : Cond.code yX7_next cX7_next 2 none ∈ TB := tb_mem 662 (by decide +kernel) (by decide +kernel)
theorem wmX7_next : Cond.instanceMethod yX7_next ∈ TB := tb_mem 661 (by decide +kernel) (by decide +kernel)
theorem weX7_next : Cond.selects RX7 yX7_next yX7_next ∈ TB := tb_mem 41 (by decide +kernel) (by decide +kernel)
theorem wcX7_letterAt : Cond.code yX7_letterAt cX7_letterAt 2 (some .int) ∈ TB := tb_mem 666 (by decide +kernel) (by decide +kernel)
theorem wmX7_letterAt : Cond.instanceMethod yX7_letterAt ∈ TB := tb_mem 665 (by decide +kernel) (by decide +kernel)
theorem weX7_letterAt : Cond.selects RX7 yX7_letterAt yX7_letterAt ∈ TB := tb_mem 42 (by decide +kernel) (by decide +kernel)
theorem wcX7_isFigure : Cond.code yX7_isFigure cX7_isFigure 1 (some .boolean) ∈ TB := tb_mem 669 (by decide +kernel) (by decide +kernel)
theorem wtX7_isFigure : Cond.static yX7_isFigure ∈ TB := tb_mem 668 (by decide +kernel) (by decide +kernel)
theorem wcX7_readItem : Cond.code yX7_readItem cX7_readItem 1 none ∈ TB := tb_mem 673 (by decide +kernel) (by decide +kernel)
theorem wmX7_readItem : Cond.instanceMethod yX7_readItem ∈ TB := tb_mem 672 (by decide +kernel) (by decide +kernel)
theorem weX7_readItem : Cond.selects RX7 yX7_readItem yX7_readItem ∈ TB := tb_mem 43 (by decide +kernel) (by decide +kernel)
theorem wcX7_readFarmer : Cond.code yX7_readFarmer cX7_readFarmer 2 none ∈ TB := tb_mem 677 (by decide +kernel) (by decide +kernel)
theorem wmX7_readFarmer : Cond.instanceMethod yX7_readFarmer ∈ TB := tb_mem 676 (by decide +kernel) (by decide +kernel)
theorem weX7_readFarmer : Cond.selects RX7 yX7_readFarmer yX7_readFarmer ∈ TB := tb_mem 44 (by decide +kernel) (by decide +kernel)
theorem wcX7_takesNumber : Cond.code yX7_takesNumber cX7_takesNumber 5 (some .int) ∈ TB := tb_mem 681 (by decide +kernel) (by decide +kernel)
theorem wmX7_takesNumber : Cond.instanceMethod yX7_takesNumber ∈ TB := tb_mem 680 (by decide +kernel) (by decide +kernel)
theorem weX7_takesNumber : Cond.selects RX7 yX7_takesNumber yX7_takesNumber ∈ TB := tb_mem 45 (by decide +kernel) (by decide +kernel)
theorem wcX7_settles : Cond.code yX7_settles cX7_settles 2 none ∈ TB := tb_mem 685 (by decide +kernel) (by decide +kernel)
theorem wmX7_settles : Cond.instanceMethod yX7_settles ∈ TB := tb_mem 684 (by decide +kernel) (by decide +kernel)
theorem weX7_settles : Cond.selects RX7 yX7_settles yX7_settles ∈ TB := tb_mem 46 (by decide +kernel) (by decide +kernel)
theorem wcX7_farmer : Cond.code yX7_farmer cX7_farmer 3 (some .int) ∈ TB := tb_mem 689 (by decide +kernel) (by decide +kernel)
theorem wmX7_farmer : Cond.instanceMethod yX7_farmer ∈ TB := tb_mem 687 (by decide +kernel) (by decide +kernel)
theorem weX7_farmer : Cond.selects RX7 yX7_farmer yX7_farmer ∈ TB := tb_mem 688 (by decide +kernel) (by decide +kernel)
theorem wcX7_isFarmer : Cond.code yX7_isFarmer cX7_isFarmer 2 (some .boolean) ∈ TB := tb_mem 693 (by decide +kernel) (by decide +kernel)
theorem wmX7_isFarmer : Cond.instanceMethod yX7_isFarmer ∈ TB := tb_mem 692 (by decide +kernel) (by decide +kernel)
theorem weX7_isFarmer : Cond.selects RX7 yX7_isFarmer yX7_isFarmer ∈ TB := tb_mem 47 (by decide +kernel) (by decide +kernel)
theorem wcX7_hangWith : Cond.code yX7_hangWith cX7_hangWith 4 (some .int) ∈ TB := tb_mem 697 (by decide +kernel) (by decide +kernel)
theorem wmX7_hangWith : Cond.instanceMethod yX7_hangWith ∈ TB := tb_mem 696 (by decide +kernel) (by decide +kernel)
theorem weX7_hangWith : Cond.selects RX7 yX7_hangWith yX7_hangWith ∈ TB := tb_mem 48 (by decide +kernel) (by decide +kernel)
theorem wcX7_ring : Cond.code yX7_ring cX7_ring 4 (some .int) ∈ TB := tb_mem 701 (by decide +kernel) (by decide +kernel)
theorem wmX7_ring : Cond.instanceMethod yX7_ring ∈ TB := tb_mem 700 (by decide +kernel) (by decide +kernel)
theorem weX7_ring : Cond.selects RX7 yX7_ring yX7_ring ∈ TB := tb_mem 49 (by decide +kernel) (by decide +kernel)
theorem wcX7_daysTillAsked : Cond.code yX7_daysTillAsked cX7_daysTillAsked 3 (some .int) ∈ TB := tb_mem 705 (by decide +kernel) (by decide +kernel)
theorem wmX7_daysTillAsked : Cond.instanceMethod yX7_daysTillAsked ∈ TB := tb_mem 704 (by decide +kernel) (by decide +kernel)
theorem weX7_daysTillAsked : Cond.selects RX7 yX7_daysTillAsked yX7_daysTillAsked ∈ TB := tb_mem 50 (by decide +kernel) (by decide +kernel)
theorem wcX7_asItIs : Cond.code yX7_asItIs cX7_asItIs 1 none ∈ TB := tb_mem 709 (by decide +kernel) (by decide +kernel)
theorem wmX7_asItIs : Cond.instanceMethod yX7_asItIs ∈ TB := tb_mem 708 (by decide +kernel) (by decide +kernel)
theorem weX7_asItIs : Cond.selects RX7 yX7_asItIs yX7_asItIs ∈ TB := tb_mem 51 (by decide +kernel) (by decide +kernel)
theorem wcX7_copy : Cond.code yX7_copy cX7_copy 5 none ∈ TB := tb_mem 712 (by decide +kernel) (by decide +kernel)
theorem wtX7_copy : Cond.static yX7_copy ∈ TB := tb_mem 711 (by decide +kernel) (by decide +kernel)
theorem wcX7_has : Cond.code yX7_has cX7_has 2 (some .boolean) ∈ TB := tb_mem 715 (by decide +kernel) (by decide +kernel)
theorem wtX7_has : Cond.static yX7_has ∈ TB := tb_mem 714 (by decide +kernel) (by decide +kernel)
theorem wcX7_goesBy : Cond.code yX7_goesBy cX7_goesBy 4 (some .int) ∈ TB := tb_mem 719 (by decide +kernel) (by decide +kernel)
theorem wmX7_goesBy : Cond.instanceMethod yX7_goesBy ∈ TB := tb_mem 718 (by decide +kernel) (by decide +kernel)
theorem weX7_goesBy : Cond.selects RX7 yX7_goesBy yX7_goesBy ∈ TB := tb_mem 52 (by decide +kernel) (by decide +kernel)
theorem wcX7_asks : Cond.code yX7_asks cX7_asks 4 none ∈ TB := tb_mem 723 (by decide +kernel) (by decide +kernel)
theorem wmX7_asks : Cond.instanceMethod yX7_asks ∈ TB := tb_mem 722 (by decide +kernel) (by decide +kernel)
theorem weX7_asks : Cond.selects RX7 yX7_asks yX7_asks ∈ TB := tb_mem 53 (by decide +kernel) (by decide +kernel)
theorem wcX7_bits : Cond.code yX7_bits cX7_bits 3 (some .int) ∈ TB := tb_mem 726 (by decide +kernel) (by decide +kernel)
theorem wtX7_bits : Cond.static yX7_bits ∈ TB := tb_mem 725 (by decide +kernel) (by decide +kernel)
theorem wcX7_mowsOwn : Cond.code yX7_mowsOwn cX7_mowsOwn 2 (some .int) ∈ TB := tb_mem 730 (by decide +kernel) (by decide +kernel)
theorem wmX7_mowsOwn : Cond.instanceMethod yX7_mowsOwn ∈ TB := tb_mem 729 (by decide +kernel) (by decide +kernel)
theorem weX7_mowsOwn : Cond.selects RX7 yX7_mowsOwn yX7_mowsOwn ∈ TB := tb_mem 54 (by decide +kernel) (by decide +kernel)
theorem wcX7_mowsOther : Cond.code yX7_mowsOther cX7_mowsOther 3 (some .int) ∈ TB := tb_mem 734 (by decide +kernel) (by decide +kernel)
theorem wmX7_mowsOther : Cond.instanceMethod yX7_mowsOther ∈ TB := tb_mem 733 (by decide +kernel) (by decide +kernel)
theorem weX7_mowsOther : Cond.selects RX7 yX7_mowsOther yX7_mowsOther ∈ TB := tb_mem 55 (by decide +kernel) (by decide +kernel)
theorem wcX7_daysTillDone : Cond.code yX7_daysTillDone cX7_daysTillDone 3 (some .int) ∈ TB := tb_mem 738 (by decide +kernel) (by decide +kernel)
theorem wmX7_daysTillDone : Cond.instanceMethod yX7_daysTillDone ∈ TB := tb_mem 737 (by decide +kernel) (by decide +kernel)
theorem weX7_daysTillDone : Cond.selects RX7 yX7_daysTillDone yX7_daysTillDone ∈ TB := tb_mem 56 (by decide +kernel) (by decide +kernel)
theorem wcX7_leftAll : Cond.code yX7_leftAll cX7_leftAll 3 (some .int) ∈ TB := tb_mem 742 (by decide +kernel) (by decide +kernel)
theorem wmX7_leftAll : Cond.instanceMethod yX7_leftAll ∈ TB := tb_mem 741 (by decide +kernel) (by decide +kernel)
theorem weX7_leftAll : Cond.selects RX7 yX7_leftAll yX7_leftAll ∈ TB := tb_mem 57 (by decide +kernel) (by decide +kernel)
theorem wcX7_now : Cond.code yX7_now cX7_now 2 (some .int) ∈ TB := tb_mem 746 (by decide +kernel) (by decide +kernel)
theorem wmX7_now : Cond.instanceMethod yX7_now ∈ TB := tb_mem 744 (by decide +kernel) (by decide +kernel)
theorem weX7_now : Cond.selects RX7 yX7_now yX7_now ∈ TB := tb_mem 745 (by decide +kernel) (by decide +kernel)
theorem wcX7_day : Cond.code yX7_day cX7_day 3 (some .int) ∈ TB := tb_mem 750 (by decide +kernel) (by decide +kernel)
theorem wmX7_day : Cond.instanceMethod yX7_day ∈ TB := tb_mem 748 (by decide +kernel) (by decide +kernel)
theorem weX7_day : Cond.selects RX7 yX7_day yX7_day ∈ TB := tb_mem 749 (by decide +kernel) (by decide +kernel)
theorem wcX7_remembers : Cond.code yX7_remembers cX7_remembers 2 none ∈ TB := tb_mem 754 (by decide +kernel) (by decide +kernel)
theorem wmX7_remembers : Cond.instanceMethod yX7_remembers ∈ TB := tb_mem 753 (by decide +kernel) (by decide +kernel)
theorem weX7_remembers : Cond.selects RX7 yX7_remembers yX7_remembers ∈ TB := tb_mem 58 (by decide +kernel) (by decide +kernel)
theorem wcX7_brings : Cond.code yX7_brings cX7_brings 2 (some .int) ∈ TB := tb_mem 758 (by decide +kernel) (by decide +kernel)
theorem wmX7_brings : Cond.instanceMethod yX7_brings ∈ TB := tb_mem 756 (by decide +kernel) (by decide +kernel)
theorem weX7_brings : Cond.selects RX7 yX7_brings yX7_brings ∈ TB := tb_mem 757 (by decide +kernel) (by decide +kernel)
theorem wcX7_hangs : Cond.code yX7_hangs cX7_hangs 4 (some .int) ∈ TB := tb_mem 762 (by decide +kernel) (by decide +kernel)
theorem wmX7_hangs : Cond.instanceMethod yX7_hangs ∈ TB := tb_mem 760 (by decide +kernel) (by decide +kernel)
theorem weX7_hangs : Cond.selects RX7 yX7_hangs yX7_hangs ∈ TB := tb_mem 761 (by decide +kernel) (by decide +kernel)
theorem wcX7_undo : Cond.code yX7_undo cX7_undo 1 (some .int) ∈ TB := tb_mem 766 (by decide +kernel) (by decide +kernel)
theorem wmX7_undo : Cond.instanceMethod yX7_undo ∈ TB := tb_mem 764 (by decide +kernel) (by decide +kernel)
theorem weX7_undo : Cond.selects RX7 yX7_undo yX7_undo ∈ TB := tb_mem 765 (by decide +kernel) (by decide +kernel)
theorem wcX7_start : Cond.code yX7_start cX7_start 6 (some .int) ∈ TB := tb_mem 770 (by decide +kernel) (by decide +kernel)
theorem wmX7_start : Cond.instanceMethod yX7_start ∈ TB := tb_mem 768 (by decide +kernel) (by decide +kernel)
theorem weX7_start : Cond.selects RX7 yX7_start yX7_start ∈ TB := tb_mem 769 (by decide +kernel) (by decide +kernel)
theorem wcX7_allAskedBy : Cond.code yX7_allAskedBy cX7_allAskedBy 4 (some .boolean) ∈ TB := tb_mem 774 (by decide +kernel) (by decide +kernel)
theorem wmX7_allAskedBy : Cond.instanceMethod yX7_allAskedBy ∈ TB := tb_mem 773 (by decide +kernel) (by decide +kernel)
theorem weX7_allAskedBy : Cond.selects RX7 yX7_allAskedBy yX7_allAskedBy ∈ TB := tb_mem 59 (by decide +kernel) (by decide +kernel)
theorem wcX7_hang : Cond.code yX7_hang cX7_hang 8 (some .int) ∈ TB := tb_mem 778 (by decide +kernel) (by decide +kernel)
theorem wmX7_hang : Cond.instanceMethod yX7_hang ∈ TB := tb_mem 776 (by decide +kernel) (by decide +kernel)
theorem weX7_hang : Cond.selects RX7 yX7_hang yX7_hang ∈ TB := tb_mem 777 (by decide +kernel) (by decide +kernel)
theorem wcX7_farBy : Cond.code yX7_farBy cX7_farBy 8 (some .int) ∈ TB := tb_mem 782 (by decide +kernel) (by decide +kernel)
theorem wmX7_farBy : Cond.instanceMethod yX7_farBy ∈ TB := tb_mem 781 (by decide +kernel) (by decide +kernel)
theorem weX7_farBy : Cond.selects RX7 yX7_farBy yX7_farBy ∈ TB := tb_mem 60 (by decide +kernel) (by decide +kernel)
theorem wcX7_far : Cond.code yX7_far cX7_far 2 (some .int) ∈ TB := tb_mem 785 (by decide +kernel) (by decide +kernel)
theorem wtX7_far : Cond.static yX7_far ∈ TB := tb_mem 784 (by decide +kernel) (by decide +kernel)
theorem wcX7_odds : Cond.code yX7_odds cX7_odds 10 (some .int) ∈ TB := tb_mem 789 (by decide +kernel) (by decide +kernel)
theorem wmX7_odds : Cond.instanceMethod yX7_odds ∈ TB := tb_mem 787 (by decide +kernel) (by decide +kernel)
theorem weX7_odds : Cond.selects RX7 yX7_odds yX7_odds ∈ TB := tb_mem 788 (by decide +kernel) (by decide +kernel)
theorem wcX7_lowest : Cond.code yX7_lowest cX7_lowest 6 (some .int) ∈ TB := tb_mem 792 (by decide +kernel) (by decide +kernel)
theorem wtX7_lowest : Cond.static yX7_lowest ∈ TB := tb_mem 791 (by decide +kernel) (by decide +kernel)
theorem wcX7_sees : Cond.code yX7_sees cX7_sees 4 (some .int) ∈ TB := tb_mem 796 (by decide +kernel) (by decide +kernel)
theorem wmX7_sees : Cond.instanceMethod yX7_sees ∈ TB := tb_mem 794 (by decide +kernel) (by decide +kernel)
theorem weX7_sees : Cond.selects RX7 yX7_sees yX7_sees ∈ TB := tb_mem 795 (by decide +kernel) (by decide +kernel)
theorem wcX7_forget : Cond.code yX7_forget cX7_forget 2 (some .int) ∈ TB := tb_mem 800 (by decide +kernel) (by decide +kernel)
theorem wmX7_forget : Cond.instanceMethod yX7_forget ∈ TB := tb_mem 798 (by decide +kernel) (by decide +kernel)
theorem weX7_forget : Cond.selects RX7 yX7_forget yX7_forget ∈ TB := tb_mem 799 (by decide +kernel) (by decide +kernel)
theorem wcX7_ones : Cond.code yX7_ones cX7_ones 7 (some .int) ∈ TB := tb_mem 804 (by decide +kernel) (by decide +kernel)
theorem wmX7_ones : Cond.instanceMethod yX7_ones ∈ TB := tb_mem 802 (by decide +kernel) (by decide +kernel)
theorem weX7_ones : Cond.selects RX7 yX7_ones yX7_ones ∈ TB := tb_mem 803 (by decide +kernel) (by decide +kernel)
theorem wcX7_isSo : Cond.code yX7_isSo cX7_isSo 5 (some .boolean) ∈ TB := tb_mem 808 (by decide +kernel) (by decide +kernel)
theorem wmX7_isSo : Cond.instanceMethod yX7_isSo ∈ TB := tb_mem 807 (by decide +kernel) (by decide +kernel)
theorem weX7_isSo : Cond.selects RX7 yX7_isSo yX7_isSo ∈ TB := tb_mem 61 (by decide +kernel) (by decide +kernel)
theorem wcX7_hadAsked : Cond.code yX7_hadAsked cX7_hadAsked 4 (some .boolean) ∈ TB := tb_mem 811 (by decide +kernel) (by decide +kernel)
theorem wtX7_hadAsked : Cond.static yX7_hadAsked ∈ TB := tb_mem 810 (by decide +kernel) (by decide +kernel)
theorem wcX7_look : Cond.code yX7_look cX7_look 9 (some .int) ∈ TB := tb_mem 815 (by decide +kernel) (by decide +kernel)
theorem wmX7_look : Cond.instanceMethod yX7_look ∈ TB := tb_mem 813 (by decide +kernel) (by decide +kernel)
theorem weX7_look : Cond.selects RX7 yX7_look yX7_look ∈ TB := tb_mem 814 (by decide +kernel) (by decide +kernel)
theorem wcX7_rate : Cond.code yX7_rate cX7_rate 6 (some .int) ∈ TB := tb_mem 820 (by decide +kernel) (by decide +kernel)
theorem wmX7_rate : Cond.instanceMethod yX7_rate ∈ TB := tb_mem 818 (by decide +kernel) (by decide +kernel)
theorem weX7_rate : Cond.selects RX7 yX7_rate yX7_rate ∈ TB := tb_mem 819 (by decide +kernel) (by decide +kernel)
theorem wcX7_keep : Cond.code yX7_keep cX7_keep 2 (some .int) ∈ TB := tb_mem 830 (by decide +kernel) (by decide +kernel)
theorem wmX7_keep : Cond.instanceMethod yX7_keep ∈ TB := tb_mem 828 (by decide +kernel) (by decide +kernel)
theorem weX7_keep : Cond.selects RX7 yX7_keep yX7_keep ∈ TB := tb_mem 829 (by decide +kernel) (by decide +kernel)
theorem wcX7_back : Cond.code yX7_back cX7_back 2 (some .int) ∈ TB := tb_mem 834 (by decide +kernel) (by decide +kernel)
theorem wmX7_back : Cond.instanceMethod yX7_back ∈ TB := tb_mem 832 (by decide +kernel) (by decide +kernel)
theorem weX7_back : Cond.selects RX7 yX7_back yX7_back ∈ TB := tb_mem 833 (by decide +kernel) (by decide +kernel)
theorem wcX7_count : Cond.code yX7_count cX7_count 2 (some .int) ∈ TB := tb_mem 838 (by decide +kernel) (by decide +kernel)
theorem wmX7_count : Cond.instanceMethod yX7_count ∈ TB := tb_mem 836 (by decide +kernel) (by decide +kernel)
theorem weX7_count : Cond.selects RX7 yX7_count yX7_count ∈ TB := tb_mem 837 (by decide +kernel) (by decide +kernel)
theorem wcX7_trace : Cond.code yX7_trace cX7_trace 1 (some .long) ∈ TB := tb_mem 842 (by decide +kernel) (by decide +kernel)
theorem wmX7_trace : Cond.instanceMethod yX7_trace ∈ TB := tb_mem 840 (by decide +kernel) (by decide +kernel)
theorem weX7_trace : Cond.selects RX7 yX7_trace yX7_trace ∈ TB := tb_mem 841 (by decide +kernel) (by decide +kernel)
theorem wiL : Cond.initialized RL ∈ TB := tb_mem 62 (by decide +kernel) (by decide +kernel)
theorem wiX6 : Cond.initialized RX6 ∈ TB := tb_mem 63 (by decide +kernel) (by decide +kernel)
theorem wiX5 : Cond.initialized RX5 ∈ TB := tb_mem 64 (by decide +kernel) (by decide +kernel)
theorem wiX1 : Cond.initialized RX1 ∈ TB := tb_mem 65 (by decide +kernel) (by decide +kernel)
theorem wiX3 : Cond.initialized RX3 ∈ TB := tb_mem 66 (by decide +kernel) (by decide +kernel)
theorem wiX2 : Cond.initialized RX2 ∈ TB := tb_mem 67 (by decide +kernel) (by decide +kernel)
theorem wiX0 : Cond.initialized RX0 ∈ TB := tb_mem 68 (by decide +kernel) (by decide +kernel)
theorem wiX4 : Cond.initialized RX4 ∈ TB := tb_mem 69 (by decide +kernel) (by decide +kernel)
theorem wiX7 : Cond.initialized RX7 ∈ TB := tb_mem 70 (by decide +kernel) (by decide +kernel)
theorem wiJ9 : Cond.initialized RJ9 ∈ TB := tb_mem 71 (by decide +kernel) (by decide +kernel)
theorem wiJ6 : Cond.initialized RJ6 ∈ TB := tb_mem 72 (by decide +kernel) (by decide +kernel)
theorem wiJ10 : Cond.initialized RJ10 ∈ TB := tb_mem 73 (by decide +kernel) (by decide +kernel)
theorem wcp1 : Cond.methodLink RX0 35 arraycopyName ∈ TB := tb_mem 451 (by decide +kernel) (by decide +kernel)
theorem wcp2 : Cond.native arraycopyName ∈ TB := tb_mem 453 (by decide +kernel) (by decide +kernel)
theorem wcp3 : Cond.static arraycopyName ∈ TB := tb_mem 452 (by decide +kernel) (by decide +kernel)
section
variable {X : Cx} {cc : ByteArray} {own : String} {nL d pc : Nat} {L S : List Value} {s : St} {o o1 o2 : Option (Int32 × St)}
theorem g_case {x : Int32} (k : Int32) (h1 : G X pc L (.int k :: S) s o1) (h2 : ¬ x = k → G X pc L (.int x :: S) s o2) : G X pc L (.int x :: S) s (if x = k then o1 else o2) := by
  by_cases q : x = k
  · rw [if_pos q, q]; exact h1
  · rw [if_neg q]; exact h2 q
theorem g_tin (K : Ok X cc own nL d) {x : Int32} (tgt : Nat) {dflt lo hi off : Int} {offs : Array Int} {len : Nat} (hd : decode cc pc = .ok (.tableswitch dflt lo hi offs, len)) (h1 : ¬ x.toInt < lo) (h2 : ¬ hi < x.toInt) (ho : offs[(x.toInt - lo).toNat]? = some off) (ht : (pc : Int) + off = (tgt : Int)) (h : G X tgt L S s o) : G X pc L (.int x :: S) s o :=
  fun r s' e H locs ls hP hS hL => lv_tableIn K.1 K.2.1 hd h1 h2 ho ht (h r s' e H locs ls hP hS hL)
theorem g_tout (K : Ok X cc own nL d) {x : Int32} (tgt : Nat) {dflt lo hi : Int} {offs : Array Int} {len : Nat} (hd : decode cc pc = .ok (.tableswitch dflt lo hi offs, len)) (h1 : x.toInt < lo ∨ hi < x.toInt) (ht : (pc : Int) + dflt = (tgt : Int)) (h : G X tgt L S s o) : G X pc L (.int x :: S) s o :=
  fun r s' e H locs ls hP hS hL => lv_tableOut K.1 K.2.1 hd h1 ht (h r s' e H locs ls hP hS hL)
theorem g_alenZ (K : Ok X cc own nL d) {k n : Nat} (v : Int32) (hk : k < 80) (hkd : kd k = 10) (hn : ln k = n) (hv : Int32.ofNat n = v) (hd : decode cc pc = .ok (.arraylength, 1)) (h : G X (pc + 1) L (.int v :: S) s o) : G X pc L (.ref (X.B + k) :: S) s o := by
  intro r s' e H locs ls hP hS hL
  have hat := wl_at X.E s hk
  rw [ce_10 hkd] at hat
  exact va_alen K.1 K.2.1 K.2.2.2.2.2.1 hP k 2 hat rfl (by rw [← hv, ← hn]) hd (h r s' e H locs ls hP hS hL)
def cp {α : Type} (s : St) (a b n : Nat) (c : St → Option α) : Option α := c (va_up s.1 b (va_cpy (s.1 a) (s.1 b) 0 0 n), s.2)
theorem g_acopy (K : Ok X cc RX0 nL d) (hd0 : 1 ≤ d) {a b n : Nat} {v : Int32} (ha : a < 80) (hb : b < 80) (hka : kd a = 8) (hkb : kd b = 8) (hna : ln a = n) (hnb : ln b = n) (hv : v.toNatClampNeg = n) (hv0 : ¬ v < 0) (hrm : (S.map fun v => v.category).sum ≤ 8) (hd : decode cc pc = .ok (.invokestatic 35, 3)) {c : St → Option (Int32 × St)} (h : ∀ s1, G X (pc + 3) L S s1 (c s1)) : G X pc L (.int v :: .int 0 :: .ref (X.B + b) :: .int 0 :: .ref (X.B + a) :: S) s (cp s a b n c) := by
  intro r s' e H locs ls hP hS hL
  have hat := wl_at X.E s ha
  rw [ce_8 hka] at hat
  have hbt := wl_at X.E s hb
  rw [ce_8 hkb] at hbt
  have hset := wl_set X.E s (va_up s.1 b (va_cpy (s.1 a) (s.1 b) 0 0 n), s.2) hb (fun j hj => ⟨by simp [va_up, hj], rfl⟩)
  rw [ce_8 hkb] at hset
  have hf : (va_up s.1 b (va_cpy (s.1 a) (s.1 b) 0 0 n)) b = va_cpy (s.1 a) (s.1 b) 0 0 n := by simp [va_up]
  simp only [hf] at hset
  have h0 : (0 : Int32).toNatClampNeg = 0 := rfl
  refine va_copyi (tys := tys X.E) K.1 K.2.1 hL.1.symm K.2.2.1 (K.2.2.2.1 _ wcp1) (K.2.2.2.1 _ wcp2) (K.2.2.2.1 _ wcp3) (K.2.2.2.1 _ wiJ10) K.2.2.2.2.2.1 hP (wl_D X.E s) hS a b 0 0 (ty := .int) hat hbt rfl rfl rfl (by decide) (by decide) hv0 (by rw [h0, hv, hna]; omega) (by rw [h0, hv, hnb]; omega) (fun i _ => rfl) (by have := K.2.2.2.2.2.2.2.1; omega) ?_ hd (fun H1 locs1 hP1 _ hS1 => h _ r s' e H1 locs1 ls (by rw [h0, hv] at hP1; rw [hset] at hP1; exact hP1) hS1 hL)
  have := K.2.2.2.2.2.2.2.2
  have hw : nativeFrameWords "java/lang/System" "arraycopy" 5 ≤ 21 := by decide +kernel
  omega
theorem gg_0_0 (K : Ok X cc own nL d) {k ix : Nat} (hk : k < 80) (hkd : kd k = 0) (hl : lk own ix "ScytheKeepers$Barns" "farms" "LScytheKeepers$Farms;") (hd : decode cc pc = .ok (.getfield ix, 3)) (h : G X (pc + 3) L (.ref (X.B + 9) :: S) s o) : G X pc L (.ref (X.B + k) :: S) s o := by exact g_get K hk (ci := 0) rfl tX0 (ce_0 hkd) 0 (by decide) rfl hl hd h
theorem gg_0_1 (K : Ok X cc own nL d) {k ix : Nat} (hk : k < 80) (hkd : kd k = 0) (hl : lk own ix "ScytheKeepers$Barns" "far" "I") (hd : decode cc pc = .ok (.getfield ix, 3)) (h : G X (pc + 3) L (.int (s.1 k 1) :: S) s o) : G X pc L (.ref (X.B + k) :: S) s o := by exact g_get K hk (ci := 0) rfl tX0 (ce_0 hkd) 1 (by decide) rfl hl hd h
theorem gp_0_1 (K : Ok X cc own nL d) {k ix : Nat} {v : Int32} (hk : k < 80) (hkd : kd k = 0) (hl : lk own ix "ScytheKeepers$Barns" "far" "I") (hd : decode cc pc = .ok (.putfield ix, 3)) {c : St → Option (Int32 × St)} (h : ∀ s1, G X (pc + 3) L S s1 (c s1)) : G X pc L (.int v :: .ref (X.B + k) :: S) s (pu s k 1 v c) :=
  g_putv K hk (ci := 0) rfl tX0 tyX0 tyX0_ok nmX0 (ce_0 hkd) 1 (by decide) rfl (Nat.le_of_ble_eq_true rfl) rfl rfl (s1 := up s k 1 v) (by rw [ce_0 hkd]; simp [up, va_up, upd, f_0]) (fun j hj => ⟨by simp [up, va_up, hj], rfl⟩) hl hd (h _)
theorem gg_0_2 (K : Ok X cc own nL d) {k ix : Nat} (hk : k < 80) (hkd : kd k = 0) (hl : lk own ix "ScytheKeepers$Barns" "keeper" "[I") (hd : decode cc pc = .ok (.getfield ix, 3)) (h : G X (pc + 3) L (.ref (X.B + 62) :: S) s o) : G X pc L (.ref (X.B + k) :: S) s o := by exact g_get K hk (ci := 0) rfl tX0 (ce_0 hkd) 2 (by decide) rfl hl hd h
theorem gg_0_3 (K : Ok X cc own nL d) {k ix : Nat} (hk : k < 80) (hkd : kd k = 0) (hl : lk own ix "ScytheKeepers$Barns" "tried" "[I") (hd : decode cc pc = .ok (.getfield ix, 3)) (h : G X (pc + 3) L (.ref (X.B + 63) :: S) s o) : G X pc L (.ref (X.B + k) :: S) s o := by exact g_get K hk (ci := 0) rfl tX0 (ce_0 hkd) 3 (by decide) rfl hl hd h
theorem gg_1_0 (K : Ok X cc own nL d) {k ix : Nat} (hk : k < 80) (hkd : kd k = 1) (hl : lk own ix "ScytheKeepers$Farms" "size" "I") (hd : decode cc pc = .ok (.getfield ix, 3)) (h : G X (pc + 3) L (.int (s.1 k 0) :: S) s o) : G X pc L (.ref (X.B + k) :: S) s o := by exact g_get K hk (ci := 1) rfl tX1 (ce_1 hkd) 0 (by decide) rfl hl hd h
theorem gp_1_0 (K : Ok X cc own nL d) {k ix : Nat} {v : Int32} (hk : k < 80) (hkd : kd k = 1) (hl : lk own ix "ScytheKeepers$Farms" "size" "I") (hd : decode cc pc = .ok (.putfield ix, 3)) {c : St → Option (Int32 × St)} (h : ∀ s1, G X (pc + 3) L S s1 (c s1)) : G X pc L (.int v :: .ref (X.B + k) :: S) s (pu s k 0 v c) :=
  g_putv K hk (ci := 1) rfl tX1 tyX1 tyX1_ok nmX1 (ce_1 hkd) 0 (by decide) rfl (Nat.le_of_ble_eq_true rfl) rfl rfl (s1 := up s k 0 v) (by rw [ce_1 hkd]; simp [up, va_up, upd, f_1]) (fun j hj => ⟨by simp [up, va_up, hj], rfl⟩) hl hd (h _)
theorem gg_1_1 (K : Ok X cc own nL d) {k ix : Nat} (hk : k < 80) (hkd : kd k = 1) (hl : lk own ix "ScytheKeepers$Farms" "farm" "[I") (hd : decode cc pc = .ok (.getfield ix, 3)) (j : Nat) (hj : k + 1 = j) (h : G X (pc + 3) L (.ref (X.B + j) :: S) s o) : G X pc L (.ref (X.B + k) :: S) s o := by subst hj; exact g_get K hk (ci := 1) rfl tX1 (ce_1 hkd) 1 (by decide) rfl hl hd h
theorem gg_1_2 (K : Ok X cc own nL d) {k ix : Nat} (hk : k < 80) (hkd : kd k = 1) (hl : lk own ix "ScytheKeepers$Farms" "field" "[I") (hd : decode cc pc = .ok (.getfield ix, 3)) (j : Nat) (hj : k + 2 = j) (h : G X (pc + 3) L (.ref (X.B + j) :: S) s o) : G X pc L (.ref (X.B + k) :: S) s o := by subst hj; exact g_get K hk (ci := 1) rfl tX1 (ce_1 hkd) 2 (by decide) rfl hl hd h
theorem gg_1_3 (K : Ok X cc own nL d) {k ix : Nat} (hk : k < 80) (hkd : kd k = 1) (hl : lk own ix "ScytheKeepers$Farms" "shame" "[I") (hd : decode cc pc = .ok (.getfield ix, 3)) (j : Nat) (hj : k + 3 = j) (h : G X (pc + 3) L (.ref (X.B + j) :: S) s o) : G X pc L (.ref (X.B + k) :: S) s o := by subst hj; exact g_get K hk (ci := 1) rfl tX1 (ce_1 hkd) 3 (by decide) rfl hl hd h
theorem gg_1_4 (K : Ok X cc own nL d) {k ix : Nat} (hk : k < 80) (hkd : kd k = 1) (hl : lk own ix "ScytheKeepers$Farms" "nerve" "[I") (hd : decode cc pc = .ok (.getfield ix, 3)) (j : Nat) (hj : k + 4 = j) (h : G X (pc + 3) L (.ref (X.B + j) :: S) s o) : G X pc L (.ref (X.B + k) :: S) s o := by subst hj; exact g_get K hk (ci := 1) rfl tX1 (ce_1 hkd) 4 (by decide) rfl hl hd h
theorem gg_1_5 (K : Ok X cc own nL d) {k ix : Nat} (hk : k < 80) (hkd : kd k = 1) (hl : lk own ix "ScytheKeepers$Farms" "keeper" "[I") (hd : decode cc pc = .ok (.getfield ix, 3)) (j : Nat) (hj : k + 5 = j) (h : G X (pc + 3) L (.ref (X.B + j) :: S) s o) : G X pc L (.ref (X.B + k) :: S) s o := by subst hj; exact g_get K hk (ci := 1) rfl tX1 (ce_1 hkd) 5 (by decide) rfl hl hd h
theorem gg_2_0 (K : Ok X cc own nL d) {k ix : Nat} (hk : k < 80) (hkd : kd k = 2) (hl : lk own ix "ScytheKeepers$History" "scenes" "[LScytheKeepers$Scene;") (hd : decode cc pc = .ok (.getfield ix, 3)) (h : G X (pc + 3) L (.ref (X.B + 22) :: S) s o) : G X pc L (.ref (X.B + k) :: S) s o := by exact g_get K hk (ci := 2) rfl tX2 (ce_2 hkd) 0 (by decide) rfl hl hd h
theorem gg_2_1 (K : Ok X cc own nL d) {k ix : Nat} (hk : k < 80) (hkd : kd k = 2) (hl : lk own ix "ScytheKeepers$History" "next" "I") (hd : decode cc pc = .ok (.getfield ix, 3)) (h : G X (pc + 3) L (.int (s.1 k 1) :: S) s o) : G X pc L (.ref (X.B + k) :: S) s o := by exact g_get K hk (ci := 2) rfl tX2 (ce_2 hkd) 1 (by decide) rfl hl hd h
theorem gp_2_1 (K : Ok X cc own nL d) {k ix : Nat} {v : Int32} (hk : k < 80) (hkd : kd k = 2) (hl : lk own ix "ScytheKeepers$History" "next" "I") (hd : decode cc pc = .ok (.putfield ix, 3)) {c : St → Option (Int32 × St)} (h : ∀ s1, G X (pc + 3) L S s1 (c s1)) : G X pc L (.int v :: .ref (X.B + k) :: S) s (pu s k 1 v c) :=
  g_putv K hk (ci := 2) rfl tX2 tyX2 tyX2_ok nmX2 (ce_2 hkd) 1 (by decide) rfl (Nat.le_of_ble_eq_true rfl) rfl rfl (s1 := up s k 1 v) (by rw [ce_2 hkd]; simp [up, va_up, upd, f_2]) (fun j hj => ⟨by simp [up, va_up, hj], rfl⟩) hl hd (h _)
theorem gg_2_2 (K : Ok X cc own nL d) {k ix : Nat} (hk : k < 80) (hkd : kd k = 2) (hl : lk own ix "ScytheKeepers$History" "size" "I") (hd : decode cc pc = .ok (.getfield ix, 3)) (h : G X (pc + 3) L (.int (s.1 k 2) :: S) s o) : G X pc L (.ref (X.B + k) :: S) s o := by exact g_get K hk (ci := 2) rfl tX2 (ce_2 hkd) 2 (by decide) rfl hl hd h
theorem gp_2_2 (K : Ok X cc own nL d) {k ix : Nat} {v : Int32} (hk : k < 80) (hkd : kd k = 2) (hl : lk own ix "ScytheKeepers$History" "size" "I") (hd : decode cc pc = .ok (.putfield ix, 3)) {c : St → Option (Int32 × St)} (h : ∀ s1, G X (pc + 3) L S s1 (c s1)) : G X pc L (.int v :: .ref (X.B + k) :: S) s (pu s k 2 v c) :=
  g_putv K hk (ci := 2) rfl tX2 tyX2 tyX2_ok nmX2 (ce_2 hkd) 2 (by decide) rfl (Nat.le_of_ble_eq_true rfl) rfl rfl (s1 := up s k 2 v) (by rw [ce_2 hkd]; simp [up, va_up, upd, f_2]) (fun j hj => ⟨by simp [up, va_up, hj], rfl⟩) hl hd (h _)
theorem gg_3_0 (K : Ok X cc own nL d) {k ix : Nat} (hk : k < 80) (hkd : kd k = 3) (hl : lk own ix "ScytheKeepers$Scene" "farms" "LScytheKeepers$Farms;") (hd : decode cc pc = .ok (.getfield ix, 3)) (h : G X (pc + 3) L (.ref (X.B + 9) :: S) s o) : G X pc L (.ref (X.B + k) :: S) s o := by exact g_get K hk (ci := 3) rfl tX3 (ce_3 hkd) 0 (by decide) rfl hl hd h
theorem gg_3_1 (K : Ok X cc own nL d) {k ix : Nat} (hk : k < 80) (hkd : kd k = 3) (hl : lk own ix "ScytheKeepers$Scene" "date" "I") (hd : decode cc pc = .ok (.getfield ix, 3)) (h : G X (pc + 3) L (.int (s.1 k 1) :: S) s o) : G X pc L (.ref (X.B + k) :: S) s o := by exact g_get K hk (ci := 3) rfl tX3 (ce_3 hkd) 1 (by decide) rfl hl hd h
theorem gp_3_1 (K : Ok X cc own nL d) {k ix : Nat} {v : Int32} (hk : k < 80) (hkd : kd k = 3) (hl : lk own ix "ScytheKeepers$Scene" "date" "I") (hd : decode cc pc = .ok (.putfield ix, 3)) {c : St → Option (Int32 × St)} (h : ∀ s1, G X (pc + 3) L S s1 (c s1)) : G X pc L (.int v :: .ref (X.B + k) :: S) s (pu s k 1 v c) :=
  g_putv K hk (ci := 3) rfl tX3 tyX3 tyX3_ok nmX3 (ce_3 hkd) 1 (by decide) rfl (Nat.le_of_ble_eq_true rfl) rfl rfl (s1 := up s k 1 v) (by rw [ce_3 hkd]; simp [up, va_up, upd, f_3]) (fun j hj => ⟨by simp [up, va_up, hj], rfl⟩) hl hd (h _)
theorem gg_3_2 (K : Ok X cc own nL d) {k ix : Nat} (hk : k < 80) (hkd : kd k = 3) (hl : lk own ix "ScytheKeepers$Scene" "asked" "I") (hd : decode cc pc = .ok (.getfield ix, 3)) (h : G X (pc + 3) L (.int (s.1 k 2) :: S) s o) : G X pc L (.ref (X.B + k) :: S) s o := by exact g_get K hk (ci := 3) rfl tX3 (ce_3 hkd) 2 (by decide) rfl hl hd h
theorem gp_3_2 (K : Ok X cc own nL d) {k ix : Nat} {v : Int32} (hk : k < 80) (hkd : kd k = 3) (hl : lk own ix "ScytheKeepers$Scene" "asked" "I") (hd : decode cc pc = .ok (.putfield ix, 3)) {c : St → Option (Int32 × St)} (h : ∀ s1, G X (pc + 3) L S s1 (c s1)) : G X pc L (.int v :: .ref (X.B + k) :: S) s (pu s k 2 v c) :=
  g_putv K hk (ci := 3) rfl tX3 tyX3 tyX3_ok nmX3 (ce_3 hkd) 2 (by decide) rfl (Nat.le_of_ble_eq_true rfl) rfl rfl (s1 := up s k 2 v) (by rw [ce_3 hkd]; simp [up, va_up, upd, f_3]) (fun j hj => ⟨by simp [up, va_up, hj], rfl⟩) hl hd (h _)
theorem gg_3_3 (K : Ok X cc own nL d) {k ix : Nat} (hk : k < 80) (hkd : kd k = 3) (hl : lk own ix "ScytheKeepers$Scene" "left" "[I") (hd : decode cc pc = .ok (.getfield ix, 3)) (j : Nat) (hj : k + 1 = j) (h : G X (pc + 3) L (.ref (X.B + j) :: S) s o) : G X pc L (.ref (X.B + k) :: S) s o := by subst hj; exact g_get K hk (ci := 3) rfl tX3 (ce_3 hkd) 3 (by decide) rfl hl hd h
theorem gg_3_4 (K : Ok X cc own nL d) {k ix : Nat} (hk : k < 80) (hkd : kd k = 3) (hl : lk own ix "ScytheKeepers$Scene" "keeper" "[I") (hd : decode cc pc = .ok (.getfield ix, 3)) (j : Nat) (hj : k + 2 = j) (h : G X (pc + 3) L (.ref (X.B + j) :: S) s o) : G X pc L (.ref (X.B + k) :: S) s o := by subst hj; exact g_get K hk (ci := 3) rfl tX3 (ce_3 hkd) 4 (by decide) rfl hl hd h
theorem gg_4_0 (K : Ok X cc own nL d) {k ix : Nat} (hk : k < 80) (hkd : kd k = 4) (hl : lk own ix "ScytheKeepers$Stranger" "seen" "I") (hd : decode cc pc = .ok (.getfield ix, 3)) (h : G X (pc + 3) L (.int (s.1 k 0) :: S) s o) : G X pc L (.ref (X.B + k) :: S) s o := by exact g_get K hk (ci := 4) rfl tX4 (ce_4 hkd) 0 (by decide) rfl hl hd h
theorem gp_4_0 (K : Ok X cc own nL d) {k ix : Nat} {v : Int32} (hk : k < 80) (hkd : kd k = 4) (hl : lk own ix "ScytheKeepers$Stranger" "seen" "I") (hd : decode cc pc = .ok (.putfield ix, 3)) {c : St → Option (Int32 × St)} (h : ∀ s1, G X (pc + 3) L S s1 (c s1)) : G X pc L (.int v :: .ref (X.B + k) :: S) s (pu s k 0 v c) :=
  g_putv K hk (ci := 4) rfl tX4 tyX4 tyX4_ok nmX4 (ce_4 hkd) 0 (by decide) rfl (Nat.le_of_ble_eq_true rfl) rfl rfl (s1 := up s k 0 v) (by rw [ce_4 hkd]; simp [up, va_up, upd, f_4]) (fun j hj => ⟨by simp [up, va_up, hj], rfl⟩) hl hd (h _)
theorem gg_4_1 (K : Ok X cc own nL d) {k ix : Nat} (hk : k < 80) (hkd : kd k = 4) (hl : lk own ix "ScytheKeepers$Stranger" "ruledOut" "[Z") (hd : decode cc pc = .ok (.getfield ix, 3)) (h : G X (pc + 3) L (.ref (X.B + 65) :: S) s o) : G X pc L (.ref (X.B + k) :: S) s o := by exact g_get K hk (ci := 4) rfl tX4 (ce_4 hkd) 1 (by decide) rfl hl hd h
theorem gg_5_0 (K : Ok X cc own nL d) {k ix : Nat} (hk : k < 80) (hkd : kd k = 5) (hl : lk own ix "ScytheKeepers$Text" "letters" "[C") (hd : decode cc pc = .ok (.getfield ix, 3)) (h : G X (pc + 3) L (.ref (X.B + 2) :: S) s o) : G X pc L (.ref (X.B + k) :: S) s o := by exact g_get K hk (ci := 5) rfl tX5 (ce_5 hkd) 0 (by decide) rfl hl hd h
theorem gg_5_1 (K : Ok X cc own nL d) {k ix : Nat} (hk : k < 80) (hkd : kd k = 5) (hl : lk own ix "ScytheKeepers$Text" "length" "I") (hd : decode cc pc = .ok (.getfield ix, 3)) (h : G X (pc + 3) L (.int (s.1 k 1) :: S) s o) : G X pc L (.ref (X.B + k) :: S) s o := by exact g_get K hk (ci := 5) rfl tX5 (ce_5 hkd) 1 (by decide) rfl hl hd h
theorem gp_5_1 (K : Ok X cc own nL d) {k ix : Nat} {v : Int32} (hk : k < 80) (hkd : kd k = 5) (hl : lk own ix "ScytheKeepers$Text" "length" "I") (hd : decode cc pc = .ok (.putfield ix, 3)) {c : St → Option (Int32 × St)} (h : ∀ s1, G X (pc + 3) L S s1 (c s1)) : G X pc L (.int v :: .ref (X.B + k) :: S) s (pu s k 1 v c) :=
  g_putv K hk (ci := 5) rfl tX5 tyX5 tyX5_ok nmX5 (ce_5 hkd) 1 (by decide) rfl (Nat.le_of_ble_eq_true rfl) rfl rfl (s1 := up s k 1 v) (by rw [ce_5 hkd]; simp [up, va_up, upd, f_5]) (fun j hj => ⟨by simp [up, va_up, hj], rfl⟩) hl hd (h _)
theorem gg_5_2 (K : Ok X cc own nL d) {k ix : Nat} (hk : k < 80) (hkd : kd k = 5) (hl : lk own ix "ScytheKeepers$Text" "next" "I") (hd : decode cc pc = .ok (.getfield ix, 3)) (h : G X (pc + 3) L (.int (s.1 k 2) :: S) s o) : G X pc L (.ref (X.B + k) :: S) s o := by exact g_get K hk (ci := 5) rfl tX5 (ce_5 hkd) 2 (by decide) rfl hl hd h
theorem gp_5_2 (K : Ok X cc own nL d) {k ix : Nat} {v : Int32} (hk : k < 80) (hkd : kd k = 5) (hl : lk own ix "ScytheKeepers$Text" "next" "I") (hd : decode cc pc = .ok (.putfield ix, 3)) {c : St → Option (Int32 × St)} (h : ∀ s1, G X (pc + 3) L S s1 (c s1)) : G X pc L (.int v :: .ref (X.B + k) :: S) s (pu s k 2 v c) :=
  g_putv K hk (ci := 5) rfl tX5 tyX5 tyX5_ok nmX5 (ce_5 hkd) 2 (by decide) rfl (Nat.le_of_ble_eq_true rfl) rfl rfl (s1 := up s k 2 v) (by rw [ce_5 hkd]; simp [up, va_up, upd, f_5]) (fun j hj => ⟨by simp [up, va_up, hj], rfl⟩) hl hd (h _)
theorem gg_5_3 (K : Ok X cc own nL d) {k ix : Nat} (hk : k < 80) (hkd : kd k = 5) (hl : lk own ix "ScytheKeepers$Text" "place" "I") (hd : decode cc pc = .ok (.getfield ix, 3)) (h : G X (pc + 3) L (.int (s.1 k 3) :: S) s o) : G X pc L (.ref (X.B + k) :: S) s o := by exact g_get K hk (ci := 5) rfl tX5 (ce_5 hkd) 3 (by decide) rfl hl hd h
theorem gp_5_3 (K : Ok X cc own nL d) {k ix : Nat} {v : Int32} (hk : k < 80) (hkd : kd k = 5) (hl : lk own ix "ScytheKeepers$Text" "place" "I") (hd : decode cc pc = .ok (.putfield ix, 3)) {c : St → Option (Int32 × St)} (h : ∀ s1, G X (pc + 3) L S s1 (c s1)) : G X pc L (.int v :: .ref (X.B + k) :: S) s (pu s k 3 v c) :=
  g_putv K hk (ci := 5) rfl tX5 tyX5 tyX5_ok nmX5 (ce_5 hkd) 3 (by decide) rfl (Nat.le_of_ble_eq_true rfl) rfl rfl (s1 := up s k 3 v) (by rw [ce_5 hkd]; simp [up, va_up, upd, f_5]) (fun j hj => ⟨by simp [up, va_up, hj], rfl⟩) hl hd (h _)
theorem gg_5_4 (K : Ok X cc own nL d) {k ix : Nat} (hk : k < 80) (hkd : kd k = 5) (hl : lk own ix "ScytheKeepers$Text" "token" "I") (hd : decode cc pc = .ok (.getfield ix, 3)) (h : G X (pc + 3) L (.int (s.1 k 4) :: S) s o) : G X pc L (.ref (X.B + k) :: S) s o := by exact g_get K hk (ci := 5) rfl tX5 (ce_5 hkd) 4 (by decide) rfl hl hd h
theorem gp_5_4 (K : Ok X cc own nL d) {k ix : Nat} {v : Int32} (hk : k < 80) (hkd : kd k = 5) (hl : lk own ix "ScytheKeepers$Text" "token" "I") (hd : decode cc pc = .ok (.putfield ix, 3)) {c : St → Option (Int32 × St)} (h : ∀ s1, G X (pc + 3) L S s1 (c s1)) : G X pc L (.int v :: .ref (X.B + k) :: S) s (pu s k 4 v c) :=
  g_putv K hk (ci := 5) rfl tX5 tyX5 tyX5_ok nmX5 (ce_5 hkd) 4 (by decide) rfl (Nat.le_of_ble_eq_true rfl) rfl rfl (s1 := up s k 4 v) (by rw [ce_5 hkd]; simp [up, va_up, upd, f_5]) (fun j hj => ⟨by simp [up, va_up, hj], rfl⟩) hl hd (h _)
theorem gg_5_5 (K : Ok X cc own nL d) {k ix : Nat} (hk : k < 80) (hkd : kd k = 5) (hl : lk own ix "ScytheKeepers$Text" "number" "I") (hd : decode cc pc = .ok (.getfield ix, 3)) (h : G X (pc + 3) L (.int (s.1 k 5) :: S) s o) : G X pc L (.ref (X.B + k) :: S) s o := by exact g_get K hk (ci := 5) rfl tX5 (ce_5 hkd) 5 (by decide) rfl hl hd h
theorem gp_5_5 (K : Ok X cc own nL d) {k ix : Nat} {v : Int32} (hk : k < 80) (hkd : kd k = 5) (hl : lk own ix "ScytheKeepers$Text" "number" "I") (hd : decode cc pc = .ok (.putfield ix, 3)) {c : St → Option (Int32 × St)} (h : ∀ s1, G X (pc + 3) L S s1 (c s1)) : G X pc L (.int v :: .ref (X.B + k) :: S) s (pu s k 5 v c) :=
  g_putv K hk (ci := 5) rfl tX5 tyX5 tyX5_ok nmX5 (ce_5 hkd) 5 (by decide) rfl (Nat.le_of_ble_eq_true rfl) rfl rfl (s1 := up s k 5 v) (by rw [ce_5 hkd]; simp [up, va_up, upd, f_5]) (fun j hj => ⟨by simp [up, va_up, hj], rfl⟩) hl hd (h _)
theorem gg_6_0 (K : Ok X cc own nL d) {k ix : Nat} (hk : k < 80) (hkd : kd k = 6) (hl : lk own ix "ScytheKeepers" "text" "LScytheKeepers$Text;") (hd : decode cc pc = .ok (.getfield ix, 3)) (h : G X (pc + 3) L (.ref (X.B + 1) :: S) s o) : G X pc L (.ref (X.B + k) :: S) s o := by exact g_get K hk (ci := 6) rfl tX6 (ce_6 hkd) 0 (by decide) rfl hl hd h
theorem gg_6_1 (K : Ok X cc own nL d) {k ix : Nat} (hk : k < 80) (hkd : kd k = 6) (hl : lk own ix "ScytheKeepers" "draft" "LScytheKeepers$Farms;") (hd : decode cc pc = .ok (.getfield ix, 3)) (h : G X (pc + 3) L (.ref (X.B + 3) :: S) s o) : G X pc L (.ref (X.B + k) :: S) s o := by exact g_get K hk (ci := 6) rfl tX6 (ce_6 hkd) 1 (by decide) rfl hl hd h
theorem gg_6_2 (K : Ok X cc own nL d) {k ix : Nat} (hk : k < 80) (hkd : kd k = 6) (hl : lk own ix "ScytheKeepers" "farms" "LScytheKeepers$Farms;") (hd : decode cc pc = .ok (.getfield ix, 3)) (h : G X (pc + 3) L (.ref (X.B + 9) :: S) s o) : G X pc L (.ref (X.B + k) :: S) s o := by exact g_get K hk (ci := 6) rfl tX6 (ce_6 hkd) 2 (by decide) rfl hl hd h
theorem gg_6_3 (K : Ok X cc own nL d) {k ix : Nat} (hk : k < 80) (hkd : kd k = 6) (hl : lk own ix "ScytheKeepers" "scene" "LScytheKeepers$Scene;") (hd : decode cc pc = .ok (.getfield ix, 3)) (h : G X (pc + 3) L (.ref (X.B + 15) :: S) s o) : G X pc L (.ref (X.B + k) :: S) s o := by exact g_get K hk (ci := 6) rfl tX6 (ce_6 hkd) 3 (by decide) rfl hl hd h
theorem gg_6_4 (K : Ok X cc own nL d) {k ix : Nat} (hk : k < 80) (hkd : kd k = 6) (hl : lk own ix "ScytheKeepers" "trial" "LScytheKeepers$Scene;") (hd : decode cc pc = .ok (.getfield ix, 3)) (h : G X (pc + 3) L (.ref (X.B + 18) :: S) s o) : G X pc L (.ref (X.B + k) :: S) s o := by exact g_get K hk (ci := 6) rfl tX6 (ce_6 hkd) 4 (by decide) rfl hl hd h
theorem gg_6_5 (K : Ok X cc own nL d) {k ix : Nat} (hk : k < 80) (hkd : kd k = 6) (hl : lk own ix "ScytheKeepers" "history" "LScytheKeepers$History;") (hd : decode cc pc = .ok (.getfield ix, 3)) (h : G X (pc + 3) L (.ref (X.B + 21) :: S) s o) : G X pc L (.ref (X.B + k) :: S) s o := by exact g_get K hk (ci := 6) rfl tX6 (ce_6 hkd) 5 (by decide) rfl hl hd h
theorem gg_6_6 (K : Ok X cc own nL d) {k ix : Nat} (hk : k < 80) (hkd : kd k = 6) (hl : lk own ix "ScytheKeepers" "images" "[LScytheKeepers$Scene;") (hd : decode cc pc = .ok (.getfield ix, 3)) (h : G X (pc + 3) L (.ref (X.B + 53) :: S) s o) : G X pc L (.ref (X.B + k) :: S) s o := by exact g_get K hk (ci := 6) rfl tX6 (ce_6 hkd) 6 (by decide) rfl hl hd h
theorem gg_6_7 (K : Ok X cc own nL d) {k ix : Nat} (hk : k < 80) (hkd : kd k = 6) (hl : lk own ix "ScytheKeepers" "imageKept" "[Z") (hd : decode cc pc = .ok (.getfield ix, 3)) (h : G X (pc + 3) L (.ref (X.B + 60) :: S) s o) : G X pc L (.ref (X.B + k) :: S) s o := by exact g_get K hk (ci := 6) rfl tX6 (ce_6 hkd) 7 (by decide) rfl hl hd h
theorem gg_6_8 (K : Ok X cc own nL d) {k ix : Nat} (hk : k < 80) (hkd : kd k = 6) (hl : lk own ix "ScytheKeepers" "barns" "LScytheKeepers$Barns;") (hd : decode cc pc = .ok (.getfield ix, 3)) (h : G X (pc + 3) L (.ref (X.B + 61) :: S) s o) : G X pc L (.ref (X.B + k) :: S) s o := by exact g_get K hk (ci := 6) rfl tX6 (ce_6 hkd) 8 (by decide) rfl hl hd h
theorem gg_6_9 (K : Ok X cc own nL d) {k ix : Nat} (hk : k < 80) (hkd : kd k = 6) (hl : lk own ix "ScytheKeepers" "stranger" "LScytheKeepers$Stranger;") (hd : decode cc pc = .ok (.getfield ix, 3)) (h : G X (pc + 3) L (.ref (X.B + 64) :: S) s o) : G X pc L (.ref (X.B + k) :: S) s o := by exact g_get K hk (ci := 6) rfl tX6 (ce_6 hkd) 9 (by decide) rfl hl hd h
theorem gg_6_10 (K : Ok X cc own nL d) {k ix : Nat} (hk : k < 80) (hkd : kd k = 6) (hl : lk own ix "ScytheKeepers" "weights" "[I") (hd : decode cc pc = .ok (.getfield ix, 3)) (h : G X (pc + 3) L (.ref (X.B + 66) :: S) s o) : G X pc L (.ref (X.B + k) :: S) s o := by exact g_get K hk (ci := 6) rfl tX6 (ce_6 hkd) 10 (by decide) rfl hl hd h
theorem gg_6_11 (K : Ok X cc own nL d) {k ix : Nat} (hk : k < 80) (hkd : kd k = 6) (hl : lk own ix "ScytheKeepers" "traced" "J") (hd : decode cc pc = .ok (.getfield ix, 3)) (h : G X (pc + 3) L (.long (s.2 k) :: S) s o) : G X pc L (.ref (X.B + k) :: S) s o := by exact g_get K hk (ci := 6) rfl tX6 (ce_6 hkd) 11 (by decide) rfl hl hd h
theorem gp_6_11 (K : Ok X cc own nL d) {k ix : Nat} {v : Int64} (hk : k < 80) (hkd : kd k = 6) (hl : lk own ix "ScytheKeepers" "traced" "J") (hd : decode cc pc = .ok (.putfield ix, 3)) {c : St → Option (Int32 × St)} (h : ∀ s1, G X (pc + 3) L S s1 (c s1)) : G X pc L (.long v :: .ref (X.B + k) :: S) s (puL s k v c) :=
  g_putv K hk (ci := 6) rfl tX6 tyX6 tyX6_ok nmX6 (ce_6 hkd) 11 (by decide) rfl (Nat.le_of_ble_eq_true rfl) rfl rfl (s1 := upL s k v) (by rw [ce_6 hkd]; simp [upL, va_up, f_6]) (fun j hj => ⟨rfl, by simp [upL, va_up, hj]⟩) hl hd (h _)
theorem gg_7_0 (K : Ok X cc own nL d) {k ix : Nat} (hk : k < 80) (hkd : kd k = 7) (hl : lk own ix "ScytheKeepersModel" "farmers" "I") (hd : decode cc pc = .ok (.getfield ix, 3)) (h : G X (pc + 3) L (.int (s.1 k 0) :: S) s o) : G X pc L (.ref (X.B + k) :: S) s o := by exact g_get K hk (ci := 7) rfl tX7 (ce_7 hkd) 0 (by decide) rfl hl hd h
theorem gp_7_0 (K : Ok X cc own nL d) {k ix : Nat} {v : Int32} (hk : k < 80) (hkd : kd k = 7) (hl : lk own ix "ScytheKeepersModel" "farmers" "I") (hd : decode cc pc = .ok (.putfield ix, 3)) {c : St → Option (Int32 × St)} (h : ∀ s1, G X (pc + 3) L S s1 (c s1)) : G X pc L (.int v :: .ref (X.B + k) :: S) s (pu s k 0 v c) :=
  g_putv K hk (ci := 7) rfl tX7 tyX7 tyX7_ok nmX7 (ce_7 hkd) 0 (by decide) rfl (Nat.le_of_ble_eq_true rfl) rfl rfl (s1 := up s k 0 v) (by rw [ce_7 hkd]; simp [up, va_up, upd, f_7]) (fun j hj => ⟨by simp [up, va_up, hj], rfl⟩) hl hd (h _)
theorem gg_7_1 (K : Ok X cc own nL d) {k ix : Nat} (hk : k < 80) (hkd : kd k = 7) (hl : lk own ix "ScytheKeepersModel" "farms" "[I") (hd : decode cc pc = .ok (.getfield ix, 3)) (h : G X (pc + 3) L (.ref (X.B + 68) :: S) s o) : G X pc L (.ref (X.B + k) :: S) s o := by exact g_get K hk (ci := 7) rfl tX7 (ce_7 hkd) 1 (by decide) rfl hl hd h
theorem gg_7_2 (K : Ok X cc own nL d) {k ix : Nat} (hk : k < 80) (hkd : kd k = 7) (hl : lk own ix "ScytheKeepersModel" "shames" "[I") (hd : decode cc pc = .ok (.getfield ix, 3)) (h : G X (pc + 3) L (.ref (X.B + 69) :: S) s o) : G X pc L (.ref (X.B + k) :: S) s o := by exact g_get K hk (ci := 7) rfl tX7 (ce_7 hkd) 2 (by decide) rfl hl hd h
theorem gg_7_3 (K : Ok X cc own nL d) {k ix : Nat} (hk : k < 80) (hkd : kd k = 7) (hl : lk own ix "ScytheKeepersModel" "nerves" "[I") (hd : decode cc pc = .ok (.getfield ix, 3)) (h : G X (pc + 3) L (.ref (X.B + 70) :: S) s o) : G X pc L (.ref (X.B + k) :: S) s o := by exact g_get K hk (ci := 7) rfl tX7 (ce_7 hkd) 3 (by decide) rfl hl hd h
theorem gg_7_4 (K : Ok X cc own nL d) {k ix : Nat} (hk : k < 80) (hkd : kd k = 7) (hl : lk own ix "ScytheKeepersModel" "st" "[I") (hd : decode cc pc = .ok (.getfield ix, 3)) (h : G X (pc + 3) L (.ref (X.B + 71) :: S) s o) : G X pc L (.ref (X.B + k) :: S) s o := by exact g_get K hk (ci := 7) rfl tX7 (ce_7 hkd) 4 (by decide) rfl hl hd h
theorem gg_7_5 (K : Ok X cc own nL d) {k ix : Nat} (hk : k < 80) (hkd : kd k = 7) (hl : lk own ix "ScytheKeepersModel" "was" "[I") (hd : decode cc pc = .ok (.getfield ix, 3)) (h : G X (pc + 3) L (.ref (X.B + 72) :: S) s o) : G X pc L (.ref (X.B + k) :: S) s o := by exact g_get K hk (ci := 7) rfl tX7 (ce_7 hkd) 5 (by decide) rfl hl hd h
theorem gg_7_6 (K : Ok X cc own nL d) {k ix : Nat} (hk : k < 80) (hkd : kd k = 7) (hl : lk own ix "ScytheKeepersModel" "known" "I") (hd : decode cc pc = .ok (.getfield ix, 3)) (h : G X (pc + 3) L (.int (s.1 k 6) :: S) s o) : G X pc L (.ref (X.B + k) :: S) s o := by exact g_get K hk (ci := 7) rfl tX7 (ce_7 hkd) 6 (by decide) rfl hl hd h
theorem gp_7_6 (K : Ok X cc own nL d) {k ix : Nat} {v : Int32} (hk : k < 80) (hkd : kd k = 7) (hl : lk own ix "ScytheKeepersModel" "known" "I") (hd : decode cc pc = .ok (.putfield ix, 3)) {c : St → Option (Int32 × St)} (h : ∀ s1, G X (pc + 3) L S s1 (c s1)) : G X pc L (.int v :: .ref (X.B + k) :: S) s (pu s k 6 v c) :=
  g_putv K hk (ci := 7) rfl tX7 tyX7 tyX7_ok nmX7 (ce_7 hkd) 6 (by decide) rfl (Nat.le_of_ble_eq_true rfl) rfl rfl (s1 := up s k 6 v) (by rw [ce_7 hkd]; simp [up, va_up, upd, f_7]) (fun j hj => ⟨by simp [up, va_up, hj], rfl⟩) hl hd (h _)
theorem gg_7_7 (K : Ok X cc own nL d) {k ix : Nat} (hk : k < 80) (hkd : kd k = 7) (hl : lk own ix "ScytheKeepersModel" "images" "[I") (hd : decode cc pc = .ok (.getfield ix, 3)) (h : G X (pc + 3) L (.ref (X.B + 73) :: S) s o) : G X pc L (.ref (X.B + k) :: S) s o := by exact g_get K hk (ci := 7) rfl tX7 (ce_7 hkd) 7 (by decide) rfl hl hd h
theorem gg_7_8 (K : Ok X cc own nL d) {k ix : Nat} (hk : k < 80) (hkd : kd k = 7) (hl : lk own ix "ScytheKeepersModel" "isKept" "[Z") (hd : decode cc pc = .ok (.getfield ix, 3)) (h : G X (pc + 3) L (.ref (X.B + 74) :: S) s o) : G X pc L (.ref (X.B + k) :: S) s o := by exact g_get K hk (ci := 7) rfl tX7 (ce_7 hkd) 8 (by decide) rfl hl hd h
theorem gg_7_9 (K : Ok X cc own nL d) {k ix : Nat} (hk : k < 80) (hkd : kd k = 7) (hl : lk own ix "ScytheKeepersModel" "toldMany" "I") (hd : decode cc pc = .ok (.getfield ix, 3)) (h : G X (pc + 3) L (.int (s.1 k 9) :: S) s o) : G X pc L (.ref (X.B + k) :: S) s o := by exact g_get K hk (ci := 7) rfl tX7 (ce_7 hkd) 9 (by decide) rfl hl hd h
theorem gp_7_9 (K : Ok X cc own nL d) {k ix : Nat} {v : Int32} (hk : k < 80) (hkd : kd k = 7) (hl : lk own ix "ScytheKeepersModel" "toldMany" "I") (hd : decode cc pc = .ok (.putfield ix, 3)) {c : St → Option (Int32 × St)} (h : ∀ s1, G X (pc + 3) L S s1 (c s1)) : G X pc L (.int v :: .ref (X.B + k) :: S) s (pu s k 9 v c) :=
  g_putv K hk (ci := 7) rfl tX7 tyX7 tyX7_ok nmX7 (ce_7 hkd) 9 (by decide) rfl (Nat.le_of_ble_eq_true rfl) rfl rfl (s1 := up s k 9 v) (by rw [ce_7 hkd]; simp [up, va_up, upd, f_7]) (fun j hj => ⟨by simp [up, va_up, hj], rfl⟩) hl hd (h _)
theorem gg_7_10 (K : Ok X cc own nL d) {k ix : Nat} (hk : k < 80) (hkd : kd k = 7) (hl : lk own ix "ScytheKeepersModel" "told" "[I") (hd : decode cc pc = .ok (.getfield ix, 3)) (h : G X (pc + 3) L (.ref (X.B + 75) :: S) s o) : G X pc L (.ref (X.B + k) :: S) s o := by exact g_get K hk (ci := 7) rfl tX7 (ce_7 hkd) 10 (by decide) rfl hl hd h
theorem gg_7_11 (K : Ok X cc own nL d) {k ix : Nat} (hk : k < 80) (hkd : kd k = 7) (hl : lk own ix "ScytheKeepersModel" "trace" "J") (hd : decode cc pc = .ok (.getfield ix, 3)) (h : G X (pc + 3) L (.long (s.2 k) :: S) s o) : G X pc L (.ref (X.B + k) :: S) s o := by exact g_get K hk (ci := 7) rfl tX7 (ce_7 hkd) 11 (by decide) rfl hl hd h
theorem gp_7_11 (K : Ok X cc own nL d) {k ix : Nat} {v : Int64} (hk : k < 80) (hkd : kd k = 7) (hl : lk own ix "ScytheKeepersModel" "trace" "J") (hd : decode cc pc = .ok (.putfield ix, 3)) {c : St → Option (Int32 × St)} (h : ∀ s1, G X (pc + 3) L S s1 (c s1)) : G X pc L (.long v :: .ref (X.B + k) :: S) s (puL s k v c) :=
  g_putv K hk (ci := 7) rfl tX7 tyX7 tyX7_ok nmX7 (ce_7 hkd) 11 (by decide) rfl (Nat.le_of_ble_eq_true rfl) rfl rfl (s1 := upL s k v) (by rw [ce_7 hkd]; simp [upL, va_up, f_7]) (fun j hj => ⟨rfl, by simp [upL, va_up, hj]⟩) hl hd (h _)
theorem gg_7_12 (K : Ok X cc own nL d) {k ix : Nat} (hk : k < 80) (hkd : kd k = 7) (hl : lk own ix "ScytheKeepersModel" "text" "[I") (hd : decode cc pc = .ok (.getfield ix, 3)) (h : G X (pc + 3) L (.ref (X.B + 76) :: S) s o) : G X pc L (.ref (X.B + k) :: S) s o := by exact g_get K hk (ci := 7) rfl tX7 (ce_7 hkd) 12 (by decide) rfl hl hd h
theorem gg_7_13 (K : Ok X cc own nL d) {k ix : Nat} (hk : k < 80) (hkd : kd k = 7) (hl : lk own ix "ScytheKeepersModel" "texted" "I") (hd : decode cc pc = .ok (.getfield ix, 3)) (h : G X (pc + 3) L (.int (s.1 k 13) :: S) s o) : G X pc L (.ref (X.B + k) :: S) s o := by exact g_get K hk (ci := 7) rfl tX7 (ce_7 hkd) 13 (by decide) rfl hl hd h
theorem gp_7_13 (K : Ok X cc own nL d) {k ix : Nat} {v : Int32} (hk : k < 80) (hkd : kd k = 7) (hl : lk own ix "ScytheKeepersModel" "texted" "I") (hd : decode cc pc = .ok (.putfield ix, 3)) {c : St → Option (Int32 × St)} (h : ∀ s1, G X (pc + 3) L S s1 (c s1)) : G X pc L (.int v :: .ref (X.B + k) :: S) s (pu s k 13 v c) :=
  g_putv K hk (ci := 7) rfl tX7 tyX7 tyX7_ok nmX7 (ce_7 hkd) 13 (by decide) rfl (Nat.le_of_ble_eq_true rfl) rfl rfl (s1 := up s k 13 v) (by rw [ce_7 hkd]; simp [up, va_up, upd, f_7]) (fun j hj => ⟨by simp [up, va_up, hj], rfl⟩) hl hd (h _)
theorem gg_7_14 (K : Ok X cc own nL d) {k ix : Nat} (hk : k < 80) (hkd : kd k = 7) (hl : lk own ix "ScytheKeepersModel" "cursor" "I") (hd : decode cc pc = .ok (.getfield ix, 3)) (h : G X (pc + 3) L (.int (s.1 k 14) :: S) s o) : G X pc L (.ref (X.B + k) :: S) s o := by exact g_get K hk (ci := 7) rfl tX7 (ce_7 hkd) 14 (by decide) rfl hl hd h
theorem gp_7_14 (K : Ok X cc own nL d) {k ix : Nat} {v : Int32} (hk : k < 80) (hkd : kd k = 7) (hl : lk own ix "ScytheKeepersModel" "cursor" "I") (hd : decode cc pc = .ok (.putfield ix, 3)) {c : St → Option (Int32 × St)} (h : ∀ s1, G X (pc + 3) L S s1 (c s1)) : G X pc L (.int v :: .ref (X.B + k) :: S) s (pu s k 14 v c) :=
  g_putv K hk (ci := 7) rfl tX7 tyX7 tyX7_ok nmX7 (ce_7 hkd) 14 (by decide) rfl (Nat.le_of_ble_eq_true rfl) rfl rfl (s1 := up s k 14 v) (by rw [ce_7 hkd]; simp [up, va_up, upd, f_7]) (fun j hj => ⟨by simp [up, va_up, hj], rfl⟩) hl hd (h _)
theorem gg_7_15 (K : Ok X cc own nL d) {k ix : Nat} (hk : k < 80) (hkd : kd k = 7) (hl : lk own ix "ScytheKeepersModel" "start" "I") (hd : decode cc pc = .ok (.getfield ix, 3)) (h : G X (pc + 3) L (.int (s.1 k 15) :: S) s o) : G X pc L (.ref (X.B + k) :: S) s o := by exact g_get K hk (ci := 7) rfl tX7 (ce_7 hkd) 15 (by decide) rfl hl hd h
theorem gp_7_15 (K : Ok X cc own nL d) {k ix : Nat} {v : Int32} (hk : k < 80) (hkd : kd k = 7) (hl : lk own ix "ScytheKeepersModel" "start" "I") (hd : decode cc pc = .ok (.putfield ix, 3)) {c : St → Option (Int32 × St)} (h : ∀ s1, G X (pc + 3) L S s1 (c s1)) : G X pc L (.int v :: .ref (X.B + k) :: S) s (pu s k 15 v c) :=
  g_putv K hk (ci := 7) rfl tX7 tyX7 tyX7_ok nmX7 (ce_7 hkd) 15 (by decide) rfl (Nat.le_of_ble_eq_true rfl) rfl rfl (s1 := up s k 15 v) (by rw [ce_7 hkd]; simp [up, va_up, upd, f_7]) (fun j hj => ⟨by simp [up, va_up, hj], rfl⟩) hl hd (h _)
theorem gg_7_16 (K : Ok X cc own nL d) {k ix : Nat} (hk : k < 80) (hkd : kd k = 7) (hl : lk own ix "ScytheKeepersModel" "token" "I") (hd : decode cc pc = .ok (.getfield ix, 3)) (h : G X (pc + 3) L (.int (s.1 k 16) :: S) s o) : G X pc L (.ref (X.B + k) :: S) s o := by exact g_get K hk (ci := 7) rfl tX7 (ce_7 hkd) 16 (by decide) rfl hl hd h
theorem gp_7_16 (K : Ok X cc own nL d) {k ix : Nat} {v : Int32} (hk : k < 80) (hkd : kd k = 7) (hl : lk own ix "ScytheKeepersModel" "token" "I") (hd : decode cc pc = .ok (.putfield ix, 3)) {c : St → Option (Int32 × St)} (h : ∀ s1, G X (pc + 3) L S s1 (c s1)) : G X pc L (.int v :: .ref (X.B + k) :: S) s (pu s k 16 v c) :=
  g_putv K hk (ci := 7) rfl tX7 tyX7 tyX7_ok nmX7 (ce_7 hkd) 16 (by decide) rfl (Nat.le_of_ble_eq_true rfl) rfl rfl (s1 := up s k 16 v) (by rw [ce_7 hkd]; simp [up, va_up, upd, f_7]) (fun j hj => ⟨by simp [up, va_up, hj], rfl⟩) hl hd (h _)
theorem gg_7_17 (K : Ok X cc own nL d) {k ix : Nat} (hk : k < 80) (hkd : kd k = 7) (hl : lk own ix "ScytheKeepersModel" "number" "I") (hd : decode cc pc = .ok (.getfield ix, 3)) (h : G X (pc + 3) L (.int (s.1 k 17) :: S) s o) : G X pc L (.ref (X.B + k) :: S) s o := by exact g_get K hk (ci := 7) rfl tX7 (ce_7 hkd) 17 (by decide) rfl hl hd h
theorem gp_7_17 (K : Ok X cc own nL d) {k ix : Nat} {v : Int32} (hk : k < 80) (hkd : kd k = 7) (hl : lk own ix "ScytheKeepersModel" "number" "I") (hd : decode cc pc = .ok (.putfield ix, 3)) {c : St → Option (Int32 × St)} (h : ∀ s1, G X (pc + 3) L S s1 (c s1)) : G X pc L (.int v :: .ref (X.B + k) :: S) s (pu s k 17 v c) :=
  g_putv K hk (ci := 7) rfl tX7 tyX7 tyX7_ok nmX7 (ce_7 hkd) 17 (by decide) rfl (Nat.le_of_ble_eq_true rfl) rfl rfl (s1 := up s k 17 v) (by rw [ce_7 hkd]; simp [up, va_up, upd, f_7]) (fun j hj => ⟨by simp [up, va_up, hj], rfl⟩) hl hd (h _)
theorem gg_7_18 (K : Ok X cc own nL d) {k ix : Nat} (hk : k < 80) (hkd : kd k = 7) (hl : lk own ix "ScytheKeepersModel" "isWrong" "Z") (hd : decode cc pc = .ok (.getfield ix, 3)) (h : G X (pc + 3) L (.int (s.1 k 18) :: S) s o) : G X pc L (.ref (X.B + k) :: S) s o := by exact g_get K hk (ci := 7) rfl tX7 (ce_7 hkd) 18 (by decide) rfl hl hd h
theorem gp_7_18 (K : Ok X cc own nL d) {k ix : Nat} {v : Int32} (hk : k < 80) (hkd : kd k = 7) (hl : lk own ix "ScytheKeepersModel" "isWrong" "Z") (hd : decode cc pc = .ok (.putfield ix, 3)) {c : St → Option (Int32 × St)} (h : ∀ s1, G X (pc + 3) L S s1 (c s1)) : G X pc L (.int v :: .ref (X.B + k) :: S) s (puZ s k 18 v c) := by
  unfold puZ
  refine g_if (fun hv => ?_) (fun _ => g_none)
  exact g_putv K hk (ci := 7) rfl tX7 tyX7 tyX7_ok nmX7 (ce_7 hkd) 18 (by decide) rfl (Nat.le_of_ble_eq_true rfl) (by rcases hv with rfl | rfl <;> rfl) (by rcases hv with rfl | rfl <;> rfl) (s1 := up s k 18 v) (by rw [ce_7 hkd]; simp [up, va_up, upd, f_7]) (fun j hj => ⟨by simp [up, va_up, hj], rfl⟩) hl hd (h _)
theorem gg_7_19 (K : Ok X cc own nL d) {k ix : Nat} (hk : k < 80) (hkd : kd k = 7) (hl : lk own ix "ScytheKeepersModel" "items" "I") (hd : decode cc pc = .ok (.getfield ix, 3)) (h : G X (pc + 3) L (.int (s.1 k 19) :: S) s o) : G X pc L (.ref (X.B + k) :: S) s o := by exact g_get K hk (ci := 7) rfl tX7 (ce_7 hkd) 19 (by decide) rfl hl hd h
theorem gp_7_19 (K : Ok X cc own nL d) {k ix : Nat} {v : Int32} (hk : k < 80) (hkd : kd k = 7) (hl : lk own ix "ScytheKeepersModel" "items" "I") (hd : decode cc pc = .ok (.putfield ix, 3)) {c : St → Option (Int32 × St)} (h : ∀ s1, G X (pc + 3) L S s1 (c s1)) : G X pc L (.int v :: .ref (X.B + k) :: S) s (pu s k 19 v c) :=
  g_putv K hk (ci := 7) rfl tX7 tyX7 tyX7_ok nmX7 (ce_7 hkd) 19 (by decide) rfl (Nat.le_of_ble_eq_true rfl) rfl rfl (s1 := up s k 19 v) (by rw [ce_7 hkd]; simp [up, va_up, upd, f_7]) (fun j hj => ⟨by simp [up, va_up, hj], rfl⟩) hl hd (h _)
theorem gg_7_20 (K : Ok X cc own nL d) {k ix : Nat} (hk : k < 80) (hkd : kd k = 7) (hl : lk own ix "ScytheKeepersModel" "saidFarmers" "I") (hd : decode cc pc = .ok (.getfield ix, 3)) (h : G X (pc + 3) L (.int (s.1 k 20) :: S) s o) : G X pc L (.ref (X.B + k) :: S) s o := by exact g_get K hk (ci := 7) rfl tX7 (ce_7 hkd) 20 (by decide) rfl hl hd h
theorem gp_7_20 (K : Ok X cc own nL d) {k ix : Nat} {v : Int32} (hk : k < 80) (hkd : kd k = 7) (hl : lk own ix "ScytheKeepersModel" "saidFarmers" "I") (hd : decode cc pc = .ok (.putfield ix, 3)) {c : St → Option (Int32 × St)} (h : ∀ s1, G X (pc + 3) L S s1 (c s1)) : G X pc L (.int v :: .ref (X.B + k) :: S) s (pu s k 20 v c) :=
  g_putv K hk (ci := 7) rfl tX7 tyX7 tyX7_ok nmX7 (ce_7 hkd) 20 (by decide) rfl (Nat.le_of_ble_eq_true rfl) rfl rfl (s1 := up s k 20 v) (by rw [ce_7 hkd]; simp [up, va_up, upd, f_7]) (fun j hj => ⟨by simp [up, va_up, hj], rfl⟩) hl hd (h _)
theorem gg_7_21 (K : Ok X cc own nL d) {k ix : Nat} (hk : k < 80) (hkd : kd k = 7) (hl : lk own ix "ScytheKeepersModel" "said" "[I") (hd : decode cc pc = .ok (.getfield ix, 3)) (h : G X (pc + 3) L (.ref (X.B + 77) :: S) s o) : G X pc L (.ref (X.B + k) :: S) s o := by exact g_get K hk (ci := 7) rfl tX7 (ce_7 hkd) 21 (by decide) rfl hl hd h
theorem gg_7_22 (K : Ok X cc own nL d) {k ix : Nat} (hk : k < 80) (hkd : kd k = 7) (hl : lk own ix "ScytheKeepersModel" "now" "[I") (hd : decode cc pc = .ok (.getfield ix, 3)) (h : G X (pc + 3) L (.ref (X.B + 78) :: S) s o) : G X pc L (.ref (X.B + k) :: S) s o := by exact g_get K hk (ci := 7) rfl tX7 (ce_7 hkd) 22 (by decide) rfl hl hd h
theorem gg_7_23 (K : Ok X cc own nL d) {k ix : Nat} (hk : k < 80) (hkd : kd k = 7) (hl : lk own ix "ScytheKeepersModel" "bare" "I") (hd : decode cc pc = .ok (.getfield ix, 3)) (h : G X (pc + 3) L (.int (s.1 k 23) :: S) s o) : G X pc L (.ref (X.B + k) :: S) s o := by exact g_get K hk (ci := 7) rfl tX7 (ce_7 hkd) 23 (by decide) rfl hl hd h
theorem gp_7_23 (K : Ok X cc own nL d) {k ix : Nat} {v : Int32} (hk : k < 80) (hkd : kd k = 7) (hl : lk own ix "ScytheKeepersModel" "bare" "I") (hd : decode cc pc = .ok (.putfield ix, 3)) {c : St → Option (Int32 × St)} (h : ∀ s1, G X (pc + 3) L S s1 (c s1)) : G X pc L (.int v :: .ref (X.B + k) :: S) s (pu s k 23 v c) :=
  g_putv K hk (ci := 7) rfl tX7 tyX7 tyX7_ok nmX7 (ce_7 hkd) 23 (by decide) rfl (Nat.le_of_ble_eq_true rfl) rfl rfl (s1 := up s k 23 v) (by rw [ce_7 hkd]; simp [up, va_up, upd, f_7]) (fun j hj => ⟨by simp [up, va_up, hj], rfl⟩) hl hd (h _)
theorem gg_7_24 (K : Ok X cc own nL d) {k ix : Nat} (hk : k < 80) (hkd : kd k = 7) (hl : lk own ix "ScytheKeepersModel" "tried" "[I") (hd : decode cc pc = .ok (.getfield ix, 3)) (h : G X (pc + 3) L (.ref (X.B + 79) :: S) s o) : G X pc L (.ref (X.B + k) :: S) s o := by exact g_get K hk (ci := 7) rfl tX7 (ce_7 hkd) 24 (by decide) rfl hl hd h
end
end
section
theorem wcM_max : Cond.code Lib.Math.max.name Lib.Math.max.code 2 (some .int) ∈ TB := tb_mem 511 (by decide +kernel) (by decide +kernel)
theorem wtM_max : Cond.static Lib.Math.max.name ∈ TB := tb_mem 510 (by decide +kernel) (by decide +kernel)
theorem g_mmax {X : Cx} {cc : ByteArray} {own : String} {nL d pc : Nat} {L S : List Value} {s : St} {o : Option (Int32 × St)} (K : Ok X cc own nL d) (hd0 : 1 ≤ d) {x y : Int32} {ix : Nat} (hl : Cond.methodLink own ix Lib.Math.max.name ∈ TB) (hrm : (S.map fun v => v.category).sum ≤ 8) (hd : decode cc pc = .ok (.invokestatic ix, 3)) (h : G X (pc + 3) L (.int (if x < y then y else x) :: S) s o) : G X pc L (.int y :: .int x :: S) s o := by
  intro r s' e H locs ls hP hS hL
  have h1 := K.2.2.2.2.2.2.2.1
  have h2 := K.2.2.2.2.2.2.2.2
  exact va_mmax K.1 K.2.1 hL.1.symm K.2.2.1 (K.2.2.2.1 _ hl) (K.2.2.2.1 _ wtM_max) (K.2.2.2.1 _ wiJ9) (K.2.2.2.1 _ wcM_max) (by omega) (by omega) (Nat.zero_le _) (Nat.zero_le _) hd (h r s' e H locs ls hP hS hL)
theorem wcM_min : Cond.code Lib.Math.min.name Lib.Math.min.code 2 (some .int) ∈ TB := tb_mem 306 (by decide +kernel) (by decide +kernel)
theorem wtM_min : Cond.static Lib.Math.min.name ∈ TB := tb_mem 305 (by decide +kernel) (by decide +kernel)
theorem g_mmin {X : Cx} {cc : ByteArray} {own : String} {nL d pc : Nat} {L S : List Value} {s : St} {o : Option (Int32 × St)} (K : Ok X cc own nL d) (hd0 : 1 ≤ d) {x y : Int32} {ix : Nat} (hl : Cond.methodLink own ix Lib.Math.min.name ∈ TB) (hrm : (S.map fun v => v.category).sum ≤ 8) (hd : decode cc pc = .ok (.invokestatic ix, 3)) (h : G X (pc + 3) L (.int (if y < x then y else x) :: S) s o) : G X pc L (.int y :: .int x :: S) s o := by
  intro r s' e H locs ls hP hS hL
  have h1 := K.2.2.2.2.2.2.2.1
  have h2 := K.2.2.2.2.2.2.2.2
  exact va_mmin K.1 K.2.1 hL.1.symm K.2.2.1 (K.2.2.2.1 _ hl) (K.2.2.2.1 _ wtM_min) (K.2.2.2.1 _ wiJ9) (K.2.2.2.1 _ wcM_min) (by omega) (by omega) (Nat.zero_le _) (Nat.zero_le _) hd (h r s' e H locs ls hP hS hL)
theorem wcM_abs : Cond.code Lib.Math.abs.name Lib.Math.abs.code 1 (some .int) ∈ TB := tb_mem 456 (by decide +kernel) (by decide +kernel)
theorem wtM_abs : Cond.static Lib.Math.abs.name ∈ TB := tb_mem 455 (by decide +kernel) (by decide +kernel)
theorem g_mabs {X : Cx} {cc : ByteArray} {own : String} {nL d pc : Nat} {L S : List Value} {s : St} {o : Option (Int32 × St)} (K : Ok X cc own nL d) (hd0 : 1 ≤ d) {x : Int32} {ix : Nat} (hl : Cond.methodLink own ix Lib.Math.abs.name ∈ TB) (hrm : (S.map fun v => v.category).sum ≤ 8) (hd : decode cc pc = .ok (.invokestatic ix, 3)) (h : G X (pc + 3) L (.int (if 0 ≤ x then x else 0 - x) :: S) s o) : G X pc L (.int x :: S) s o := by
  intro r s' e H locs ls hP hS hL
  have h1 := K.2.2.2.2.2.2.2.1
  have h2 := K.2.2.2.2.2.2.2.2
  exact va_mabs K.1 K.2.1 hL.1.symm K.2.2.1 (K.2.2.2.1 _ hl) (K.2.2.2.1 _ wtM_abs) (K.2.2.2.1 _ wiJ9) (K.2.2.2.1 _ wcM_abs) (by omega) (by omega) (Nat.zero_le _) (Nat.zero_le _) hd (h r s' e H locs ls hP hS hL)
theorem g_wk {X : Cx} {pc : Nat} {L L' S : List Value} {s : St} {o : Option (Int32 × St)} (h : G X pc L' S s o) (hs : lsub L' L) : G X pc L S s o := g_weak hs h
theorem Con.ofF {E : Ce} {y : MethodName} {cc : ByteArray} {mL : Nat} {ret : Option FieldType} {d : Nat} {as : List Value} {f : St → Option (Int32 × St)} (hy : plainFor y = true) (hc : ∀ v ∈ as, v.category = 1) (hl : (lg_sl as).length ≤ mL) (hret : ret = some .int) (L : List Value) (hL : lsub L (as ++ List.replicate L.length .null))
    (h : ∀ (X : Cx) (s : St), X.E = E → Ok X cc y.cls mL d → (ret = some .int → RI X cc) → G X 0 L [] s (f s)) : Con E y cc mL ret d as f := by
  intro s0 r0 s0' e0
  refine va_MetF (cc := cc) (maxL := mL) (ret := ret) hy rfl ?_
  intro p e s m args below meth c s₁ B hml hv
  obtain ⟨rfl, hP, hK, hN⟩ := hv
  have hx := B.exec
  have hb := B.bytes
  have hr := B.returns
  have hts := atoms_spec (ws := .code y cc mL ret :: TB) B.pre
  have hown : s.vm.findClass y.cls = some m.cls := findClass_of_methodNamed B.named
  have hlocks := B.notSynchronized
  have hS : va_S (AA E) s.heap s.heap [] := va_S.rf
  rw [lg_entry_eq]
  let X : Cx := (E, p, e, rmD d, s, m, as.toArray, below, meth, c, fun r s' => MQ below (Qm E ret r s') as.toArray s 0 0 (AA E))
  have hok : Ok X cc y.cls mL d := ⟨hx, hb, hown, fun w hw => hts w (List.mem_cons_of_mem _ hw), hN, hK, hml, Nat.le_refl _, Nat.le_refl _⟩
  have hg := h X s0 rfl hok
    (fun hre => by
      subst hre
      intro pc v s2 H locs ls hd hP2 hS2
      exact W.iret (v := v) hx hb hr (fun t ht hW => ⟨rfl, by rw [ht]; exact hP2, hS2.F ht⟩) hS2.2.2 hd)
  exact hg r0 s0' e0 s.heap [] _ hP hS (by
    show LH _ c.maxLocals L
    rw [hml]
    exact LH.entry hc hl hL)
theorem plain_bitCount : plainFor yJ6_bitCount_0f7a4 = true := by decide +kernel
end
section
/-! ===== which numbers of cells are what ===== -/
abbrev Ar6 (k : Nat) : Prop := k < 80 ∧ kd k = 8 ∧ ln k = 6
abbrev Arr (k : Nat) : Prop := k < 80 ∧ kd k = 8
abbrev Scn (k : Nat) : Prop := k < 80 ∧ kd k = 3 ∧ Ar6 (k + 1) ∧ Ar6 (k + 2)
abbrev Frm (k : Nat) : Prop := k < 80 ∧ kd k = 1 ∧ Ar6 (k + 1) ∧ Ar6 (k + 2) ∧ Ar6 (k + 3) ∧ Ar6 (k + 4) ∧ Ar6 (k + 5)
theorem scn_15 : Scn 15 := by decide +kernel
theorem scn_18 : Scn 18 := by decide +kernel
theorem frm_3 : Frm 3 := by decide +kernel
theorem frm_9 : Frm 9 := by decide +kernel
theorem arr_68 : Arr 68 := by decide +kernel
theorem arr_69 : Arr 69 := by decide +kernel
theorem arr_70 : Arr 70 := by decide +kernel
theorem arr_71 : Arr 71 := by decide +kernel
theorem arr_72 : Arr 72 := by decide +kernel
theorem arr_73 : Arr 73 := by decide +kernel
theorem arr_78 : Arr 78 := by decide +kernel
theorem arr_79 : Arr 79 := by decide +kernel
theorem sc22 : ∀ j, j < 10 → Scn (22 + 1 + 3 * j) := by decide +kernel
theorem sc53 : ∀ j, j < 2 → Scn (53 + 1 + 3 * j) := by decide +kernel
/-! ===== the methods as functions over the store (printed by wip/gen/p05.py out of the decoded instructions) ===== -/
def M_X0_hangFrom_L50 (x1 : Int32) (x2 : Int32) (x3 : Int32) (rec : Int32 → Int32 → Int32 → St → Option (Int32 × St)) (kk : St → Option (Int32 × St)) : Nat → Int32 → St → Option (Int32 × St)
  | 0, _, _ => none
  | fu + 1, x4, s =>
    if (s.1 9 0) ≤ x4 then (
      kk s) else (
      jn (κ := St → Option (Int32 × St)) (fun s6 =>
        M_X0_hangFrom_L50 x1 x2 x3 rec kk fu (x4 + (1)) s6) fun kj5 =>
        if x4 = x1 then (
          kj5 s) else (
          if ((x2 >>> (x4 &&& 31)) &&& (1)) = 0 then (
            wr s 63 6 x1 x4 fun s7 =>
            rd s7 10 6 x1 fun v8 =>
            rd s7 10 6 x4 fun v9 =>
            cl (rec (x1 + (1)) (x2 ||| ((1) <<< (x4 &&& 31))) (x3 + (if 0 ≤ (v8 - v9) then (v8 - v9) else 0 - (v8 - v9))) s7) fun r10 s11 =>
            kj5 s11) else (
            kj5 s)))
def M_X0_hangFrom : Nat → Int32 → Int32 → Int32 → St → Option (Int32 × St)
  | 0, _, _, _, _ => none
  | fu + 1, a1, a2, a3, s =>
    if a3 < (s.1 61 1) then (
      jn (κ := St → Option (Int32 × St)) (fun s2 =>
        pu s2 61 1 a3 fun s3 =>
        cp s3 63 62 6 fun s4 =>
        some (0, s4)) fun kj1 =>
        if (s.1 9 0) ≤ a1 then (
          kj1 s) else (
          if a1 < (6) then (
            M_X0_hangFrom_L50 a1 a2 a3 (M_X0_hangFrom fu) (fun s12 =>
              some (0, s12)) 400 (0) s) else (
            kj1 s))) else (
      some (0, s))
def M_X0_search (s : St) : Option (Int32 × St) :=
  pu s 61 1 (181) fun s1 =>
  cl (M_X0_hangFrom 9 (0) (0) (0) s1) fun r2 s3 =>
  some (0, s3)
def M_X1_has (k : Nat) (a1 : Int32) (s : St) : Option (Int32 × St) :=
  if a1 < 0 then (
    some (0, s)) else (
    if (s.1 k 0) ≤ a1 then (
      some (0, s)) else (
      some (1, s)))
def M_X1_everyone (k : Nat) (s : St) : Option (Int32 × St) :=
  some ((((1) <<< ((s.1 k 0) &&& 31)) - (1)), s)
def M_X1_copyFrom_L10 (k : Nat) (k1 : Nat) (kk : St → Option (Int32 × St)) : Nat → Int32 → St → Option (Int32 × St)
  | 0, _, _ => none
  | fu + 1, x2, s =>
    if (6) ≤ x2 then (
      kk s) else (
      rd s (k1 + 1) 6 x2 fun v2 =>
      wr s (k + 1) 6 x2 v2 fun s3 =>
      rd s3 (k1 + 2) 6 x2 fun v4 =>
      wr s3 (k + 2) 6 x2 v4 fun s5 =>
      rd s5 (k1 + 3) 6 x2 fun v6 =>
      wr s5 (k + 3) 6 x2 v6 fun s7 =>
      rd s7 (k1 + 4) 6 x2 fun v8 =>
      wr s7 (k + 4) 6 x2 v8 fun s9 =>
      rd s9 (k1 + 5) 6 x2 fun v10 =>
      wr s9 (k + 5) 6 x2 v10 fun s11 =>
      M_X1_copyFrom_L10 k k1 kk fu (x2 + (1)) s11)
def M_X1_copyFrom (k : Nat) (k1 : Nat) (s : St) : Option (Int32 × St) :=
  pu s k 0 (s.1 k1 0) fun s1 =>
  M_X1_copyFrom_L10 k k1 (fun s12 =>
    some (0, s12)) 400 (0) s1
def M_X1_keepersAreThere_L2 (k : Nat) (kk : St → Option (Int32 × St)) : Nat → Int32 → St → Option (Int32 × St)
  | 0, _, _ => none
  | fu + 1, x1, s =>
    if (s.1 k 0) ≤ x1 then (
      kk s) else (
      rd s (k + 5) 6 x1 fun v1 =>
      cl (M_X1_has k v1 s) fun r2 s3 =>
      if r2 = 0 then (
        some (0, s3)) else (
        M_X1_keepersAreThere_L2 k kk fu (x1 + (1)) s3))
def M_X1_keepersAreThere (k : Nat) (s : St) : Option (Int32 × St) :=
  M_X1_keepersAreThere_L2 k (fun s4 =>
    some (1, s4)) 400 (0) s
def M_J6_bitCount_0f7a4 (a0 : Int32) (s : St) : Option (Int32 × St) :=
  some (((((((((a0 - (((a0).toUInt32 >>> (((1) : Int32).toUInt32 &&& Int32.toUInt32 31)).toInt32 &&& (1431655765))) &&& (858993459)) + ((((a0 - (((a0).toUInt32 >>> (((1) : Int32).toUInt32 &&& Int32.toUInt32 31)).toInt32 &&& (1431655765)))).toUInt32 >>> (((2) : Int32).toUInt32 &&& Int32.toUInt32 31)).toInt32 &&& (858993459))) + (((((a0 - (((a0).toUInt32 >>> (((1) : Int32).toUInt32 &&& Int32.toUInt32 31)).toInt32 &&& (1431655765))) &&& (858993459)) + ((((a0 - (((a0).toUInt32 >>> (((1) : Int32).toUInt32 &&& Int32.toUInt32 31)).toInt32 &&& (1431655765)))).toUInt32 >>> (((2) : Int32).toUInt32 &&& Int32.toUInt32 31)).toInt32 &&& (858993459)))).toUInt32 >>> (((4) : Int32).toUInt32 &&& Int32.toUInt32 31)).toInt32) &&& (252645135)) + (((((((a0 - (((a0).toUInt32 >>> (((1) : Int32).toUInt32 &&& Int32.toUInt32 31)).toInt32 &&& (1431655765))) &&& (858993459)) + ((((a0 - (((a0).toUInt32 >>> (((1) : Int32).toUInt32 &&& Int32.toUInt32 31)).toInt32 &&& (1431655765)))).toUInt32 >>> (((2) : Int32).toUInt32 &&& Int32.toUInt32 31)).toInt32 &&& (858993459))) + (((((a0 - (((a0).toUInt32 >>> (((1) : Int32).toUInt32 &&& Int32.toUInt32 31)).toInt32 &&& (1431655765))) &&& (858993459)) + ((((a0 - (((a0).toUInt32 >>> (((1) : Int32).toUInt32 &&& Int32.toUInt32 31)).toInt32 &&& (1431655765)))).toUInt32 >>> (((2) : Int32).toUInt32 &&& Int32.toUInt32 31)).toInt32 &&& (858993459)))).toUInt32 >>> (((4) : Int32).toUInt32 &&& Int32.toUInt32 31)).toInt32) &&& (252645135))).toUInt32 >>> (((8) : Int32).toUInt32 &&& Int32.toUInt32 31)).toInt32) + ((((((((a0 - (((a0).toUInt32 >>> (((1) : Int32).toUInt32 &&& Int32.toUInt32 31)).toInt32 &&& (1431655765))) &&& (858993459)) + ((((a0 - (((a0).toUInt32 >>> (((1) : Int32).toUInt32 &&& Int32.toUInt32 31)).toInt32 &&& (1431655765)))).toUInt32 >>> (((2) : Int32).toUInt32 &&& Int32.toUInt32 31)).toInt32 &&& (858993459))) + (((((a0 - (((a0).toUInt32 >>> (((1) : Int32).toUInt32 &&& Int32.toUInt32 31)).toInt32 &&& (1431655765))) &&& (858993459)) + ((((a0 - (((a0).toUInt32 >>> (((1) : Int32).toUInt32 &&& Int32.toUInt32 31)).toInt32 &&& (1431655765)))).toUInt32 >>> (((2) : Int32).toUInt32 &&& Int32.toUInt32 31)).toInt32 &&& (858993459)))).toUInt32 >>> (((4) : Int32).toUInt32 &&& Int32.toUInt32 31)).toInt32) &&& (252645135)) + (((((((a0 - (((a0).toUInt32 >>> (((1) : Int32).toUInt32 &&& Int32.toUInt32 31)).toInt32 &&& (1431655765))) &&& (858993459)) + ((((a0 - (((a0).toUInt32 >>> (((1) : Int32).toUInt32 &&& Int32.toUInt32 31)).toInt32 &&& (1431655765)))).toUInt32 >>> (((2) : Int32).toUInt32 &&& Int32.toUInt32 31)).toInt32 &&& (858993459))) + (((((a0 - (((a0).toUInt32 >>> (((1) : Int32).toUInt32 &&& Int32.toUInt32 31)).toInt32 &&& (1431655765))) &&& (858993459)) + ((((a0 - (((a0).toUInt32 >>> (((1) : Int32).toUInt32 &&& Int32.toUInt32 31)).toInt32 &&& (1431655765)))).toUInt32 >>> (((2) : Int32).toUInt32 &&& Int32.toUInt32 31)).toInt32 &&& (858993459)))).toUInt32 >>> (((4) : Int32).toUInt32 &&& Int32.toUInt32 31)).toInt32) &&& (252645135))).toUInt32 >>> (((8) : Int32).toUInt32 &&& Int32.toUInt32 31)).toInt32)).toUInt32 >>> (((16) : Int32).toUInt32 &&& Int32.toUInt32 31)).toInt32) &&& (63)), s)
def M_X1_askedBehind_L11 (k : Nat) (x2 : Int32) (x3 : Int32) (kk : Int32 → St → Option (Int32 × St)) : Nat → Int32 → Int32 → St → Option (Int32 × St)
  | 0, _, _, _ => none
  | fu + 1, x4, x5, s =>
    if (s.1 k 0) ≤ x5 then (
      kk x4 s) else (
      rd s (k + 3) 6 x5 fun v3 =>
      jn (κ := Int32 → St → Option (Int32 × St)) (fun v5 s6 =>
        M_X1_askedBehind_L11 k x2 x3 kk fu v5 (x5 + (1)) s6) fun kj4 =>
        jn (κ := St → Option (Int32 × St)) (fun s8 =>
          kj4 (x4 ||| ((1) <<< (x5 &&& 31))) s8) fun kj7 =>
          if v3 ≤ x2 then (
            kj7 s) else (
            rd s (k + 4) 6 x5 fun v9 =>
            if x3 < v9 then (
              kj4 x4 s) else (
              kj7 s)))
def M_X1_askedBehind (k : Nat) (a1 : Int32) (a2 : Int32) (s : St) : Option (Int32 × St) :=
  cl (M_J6_bitCount_0f7a4 a1 s) fun r1 s2 =>
  M_X1_askedBehind_L11 k a2 r1 (fun v10 s11 =>
    some (v10, s11)) 400 a1 (0) s2
def M_X3_copyFrom_L18 (k : Nat) (k1 : Nat) (kk : St → Option (Int32 × St)) : Nat → Int32 → St → Option (Int32 × St)
  | 0, _, _ => none
  | fu + 1, x2, s =>
    if (6) ≤ x2 then (
      kk s) else (
      rd s (k1 + 1) 6 x2 fun v3 =>
      wr s (k + 1) 6 x2 v3 fun s4 =>
      rd s4 (k1 + 2) 6 x2 fun v5 =>
      wr s4 (k + 2) 6 x2 v5 fun s6 =>
      M_X3_copyFrom_L18 k k1 kk fu (x2 + (1)) s6)
def M_X3_copyFrom (k : Nat) (k1 : Nat) (s : St) : Option (Int32 × St) :=
  pu s k 1 (s.1 k1 1) fun s1 =>
  pu s1 k 2 (s1.1 k1 2) fun s2 =>
  M_X3_copyFrom_L18 k k1 (fun s7 =>
    some (0, s7)) 400 (0) s2
def M_X2_push (k1 : Nat) (s : St) : Option (Int32 × St) :=
  ra 22 10 (s.1 21 1) fun j1 =>
  cl (M_X3_copyFrom j1 k1 s) fun r2 s3 =>
  jn (κ := Int32 → St → Option (Int32 × St)) (fun v5 s6 =>
    pu s6 21 1 v5 fun s7 =>
    pu s7 21 2 (if (10) < ((s7.1 21 2) + (1)) then (10) else ((s7.1 21 2) + (1))) fun s8 =>
    some (0, s8)) fun kj4 =>
    if (s3.1 21 1) = (9) then (
      kj4 (0) s3) else (
      kj4 ((s3.1 21 1) + (1)) s3)
def M_X2_pop (k1 : Nat) (s : St) : Option (Int32 × St) :=
  jn (κ := Int32 → St → Option (Int32 × St)) (fun v2 s3 =>
    pu s3 21 1 v2 fun s4 =>
    pu s4 21 2 ((s4.1 21 2) - (1)) fun s5 =>
    ra 22 10 (s5.1 21 1) fun j6 =>
    cl (M_X3_copyFrom k1 j6 s5) fun r7 s8 =>
    some (0, s8)) fun kj1 =>
    if (s.1 21 1) = 0 then (
      kj1 (9) s) else (
      kj1 ((s.1 21 1) - (1)) s)
def M_X3_begin_L12 (k : Nat) (kk : St → Option (Int32 × St)) : Nat → Int32 → St → Option (Int32 × St)
  | 0, _, _ => none
  | fu + 1, x1, s =>
    if (6) ≤ x1 then (
      kk s) else (
      rd s 11 6 x1 fun v3 =>
      wr s (k + 1) 6 x1 v3 fun s4 =>
      rd s4 14 6 x1 fun v5 =>
      wr s4 (k + 2) 6 x1 v5 fun s6 =>
      M_X3_begin_L12 k kk fu (x1 + (1)) s6)
def M_X3_begin (k : Nat) (s : St) : Option (Int32 × St) :=
  pu s k 1 (0) fun s1 =>
  pu s1 k 2 (0) fun s2 =>
  M_X3_begin_L12 k (fun s7 =>
    some (0, s7)) 400 (0) s2
def M_X3_hasAsked (k : Nat) (a1 : Int32) (s : St) : Option (Int32 × St) :=
  if (((s.1 k 2) >>> (a1 &&& 31)) &&& (1)) = (1) then (
    some (1, s)) else (
    some (0, s))
def M_X3_hungWith_L4 (k : Nat) (x1 : Int32) (kk : Int32 → St → Option (Int32 × St)) : Nat → Int32 → Int32 → St → Option (Int32 × St)
  | 0, _, _, _ => none
  | fu + 1, x2, x3, s =>
    if (s.1 9 0) ≤ x3 then (
      kk x2 s) else (
      rd s (k + 2) 6 x3 fun v1 =>
      jn (κ := Int32 → St → Option (Int32 × St)) (fun v3 s4 =>
        M_X3_hungWith_L4 k x1 kk fu v3 (x3 + (1)) s4) fun kj2 =>
        if v1 = x1 then (
          kj2 (x2 ||| ((1) <<< (x3 &&& 31))) s) else (
          kj2 x2 s))
def M_X3_hungWith (k : Nat) (a1 : Int32) (s : St) : Option (Int32 × St) :=
  M_X3_hungWith_L4 k a1 (fun v5 s6 =>
    some (v5, s6)) 400 (0) (0) s
def M_X3_ringOf_L9 (k : Nat) (x1 : Int32) (kk : St → Option (Int32 × St)) : Nat → Int32 → Int32 → St → Option (Int32 × St)
  | 0, _, _, _ => none
  | fu + 1, x2, x3, s =>
    if (s.1 9 0) < x3 then (
      kk s) else (
      cl (M_X1_has 9 x2 s) fun r2 s3 =>
      if r2 = 0 then (
        kk s3) else (
        if x2 = x1 then (
          some (x3, s3)) else (
          rd s3 (k + 2) 6 x2 fun v4 =>
          M_X3_ringOf_L9 k x1 kk fu v4 (x3 + (1)) s3)))
def M_X3_ringOf (k : Nat) (a1 : Int32) (s : St) : Option (Int32 × St) :=
  rd s (k + 2) 6 a1 fun v1 =>
  M_X3_ringOf_L9 k a1 (fun s5 =>
    some ((0), s5)) 400 v1 (1) s
def M_X3_leftTogether_L4 (k : Nat) (kk : Int32 → St → Option (Int32 × St)) : Nat → Int32 → Int32 → St → Option (Int32 × St)
  | 0, _, _, _ => none
  | fu + 1, x1, x2, s =>
    if (s.1 9 0) ≤ x2 then (
      kk x1 s) else (
      rd s (k + 1) 6 x2 fun v1 =>
      M_X3_leftTogether_L4 k kk fu (x1 + v1) (x2 + (1)) s)
def M_X3_leftTogether (k : Nat) (s : St) : Option (Int32 × St) :=
  M_X3_leftTogether_L4 k (fun v2 s3 =>
    some (v2, s3)) 400 (0) (0) s
def M_X3_allMown_L2 (k : Nat) (x1 : Int32) (kk : St → Option (Int32 × St)) : Nat → Int32 → St → Option (Int32 × St)
  | 0, _, _ => none
  | fu + 1, x2, s =>
    if (s.1 9 0) ≤ x2 then (
      kk s) else (
      jn (κ := St → Option (Int32 × St)) (fun s2 =>
        M_X3_allMown_L2 k x1 kk fu (x2 + (1)) s2) fun kj1 =>
        if ((x1 >>> (x2 &&& 31)) &&& (1)) = (1) then (
          rd s (k + 1) 6 x2 fun v3 =>
          if v3 ≤ 0 then (
            kj1 s) else (
            some (0, s))) else (
          kj1 s))
def M_X3_allMown (k : Nat) (a1 : Int32) (s : St) : Option (Int32 × St) :=
  M_X3_allMown_L2 k a1 (fun s4 =>
    some (1, s4)) 400 (0) s
def M_X3_mowsForAnother_L2 (k : Nat) (x1 : Int32) (kk : St → Option (Int32 × St)) : Nat → Int32 → St → Option (Int32 × St)
  | 0, _, _ => none
  | fu + 1, x2, s =>
    if (s.1 9 0) ≤ x2 then (
      kk s) else (
      rd s (k + 2) 6 x2 fun v1 =>
      jn (κ := St → Option (Int32 × St)) (fun s3 =>
        M_X3_mowsForAnother_L2 k x1 kk fu (x2 + (1)) s3) fun kj2 =>
        if v1 = x1 then (
          cl (M_X3_hasAsked k x2 s) fun r4 s5 =>
          if r4 = 0 then (
            kj2 s5) else (
            rd s5 (k + 1) 6 x2 fun v6 =>
            if v6 ≤ 0 then (
              kj2 s5) else (
              rd s5 (k + 1) 6 x2 fun v7 =>
              wr s5 (k + 1) 6 x2 (v7 - (1)) fun s8 =>
              some (1, s8)))) else (
          kj2 s))
def M_X3_mowsForAnother (k : Nat) (a1 : Int32) (s : St) : Option (Int32 × St) :=
  M_X3_mowsForAnother_L2 k a1 (fun s9 =>
    some (0, s9)) 400 (0) s
def M_X3_mowAll_L6 (k : Nat) (kk : Int32 → Int32 → St → Option (Int32 × St)) : Nat → Int32 → Int32 → Int32 → St → Option (Int32 × St)
  | 0, _, _, _, _ => none
  | fu + 1, x1, x2, x3, s =>
    if (s.1 9 0) ≤ x3 then (
      kk x1 x2 s) else (
      cl (M_X3_hasAsked k x3 s) fun r1 s2 =>
      jn (κ := Int32 → Int32 → St → Option (Int32 × St)) (fun v4 v5 s6 =>
        M_X3_mowAll_L6 k kk fu v4 v5 (x3 + (1)) s6) fun kj3 =>
        if r1 = 0 then (
          kj3 x1 x2 s2) else (
          rd s2 (k + 1) 6 x3 fun v7 =>
          if v7 ≤ 0 then (
            kj3 (x1 ||| ((1) <<< (x3 &&& 31))) x2 s2) else (
            rd s2 (k + 1) 6 x3 fun v8 =>
            wr s2 (k + 1) 6 x3 (v8 - (1)) fun s9 =>
            kj3 x1 (x2 + (1)) s9)))
def M_X3_mowAll_L64 (k : Nat) (x1 : Int32) (kk : Int32 → St → Option (Int32 × St)) : Nat → Int32 → Int32 → St → Option (Int32 × St)
  | 0, _, _, _ => none
  | fu + 1, x2, x3, s =>
    if (s.1 9 0) ≤ x3 then (
      kk x2 s) else (
      jn (κ := Int32 → St → Option (Int32 × St)) (fun v14 s15 =>
        M_X3_mowAll_L64 k x1 kk fu v14 (x3 + (1)) s15) fun kj13 =>
        if ((x1 >>> (x3 &&& 31)) &&& (1)) = (1) then (
          cl (M_X3_mowsForAnother k x3 s) fun r16 s17 =>
          if r16 = 0 then (
            kj13 x2 s17) else (
            kj13 (x2 + (1)) s17)) else (
          kj13 x2 s))
def M_X3_mowAll (k : Nat) (s : St) : Option (Int32 × St) :=
  M_X3_mowAll_L6 k (fun v10 v11 s12 =>
    M_X3_mowAll_L64 k v10 (fun v18 s19 =>
      some (v18, s19)) 400 v11 (0) s12) 400 (0) (0) (0) s
def M_X3_pass (k : Nat) (a1 : Int32) (s : St) : Option (Int32 × St) :=
  cl (M_X1_askedBehind 9 (s.1 k 2) (s.1 k 1) s) fun r1 s2 =>
  pu s2 k 2 r1 fun s3 =>
  pu s3 k 1 ((s3.1 k 1) + (1)) fun s4 =>
  if a1 = 0 then (
    some ((0), s4)) else (
    cl (M_X3_mowAll k s4) fun r5 s6 =>
    some (r5, s6))
def M_X4_begin_L7 (kk : St → Option (Int32 × St)) : Nat → Int32 → St → Option (Int32 × St)
  | 0, _, _ => none
  | fu + 1, x1, s =>
    if (147) ≤ x1 then (
      kk s) else (
      wr s 65 147 x1 (vp_nar .boolean (0)) fun s2 =>
      M_X4_begin_L7 kk fu (x1 + (1)) s2)
def M_X4_begin (s : St) : Option (Int32 × St) :=
  pu s 64 0 (0) fun s1 =>
  M_X4_begin_L7  (fun s3 =>
    some (0, s3)) 400 (0) s1
def M_X4_learn_L23 (x1 : Int32) (x2 : Int32) (x3 : Int32) (x4 : Int32) (kk : St → Option (Int32 × St)) : Nat → Int32 → St → Option (Int32 × St)
  | 0, _, _ => none
  | fu + 1, x5, s =>
    if (6) < x5 then (
      kk s) else (
      jn (κ := Int32 → St → Option (Int32 × St)) (fun v3 s4 =>
        jn (κ := St → Option (Int32 × St)) (fun s6 =>
          M_X4_learn_L23 x1 x2 x3 x4 kk fu (x5 + (1)) s6) fun kj5 =>
          if v3 = x3 then (
            kj5 s4) else (
            wr s4 65 147 ((x4 * (7)) + x5) (vp_nar .boolean (1)) fun s7 =>
            kj5 s7)) fun kj2 =>
        if x4 ≤ x1 then (
          kj2 (1) s) else (
          if x2 < x5 then (
            kj2 (0) s) else (
            kj2 (1) s)))
def M_X4_learn_L13 (x1 : Int32) (x2 : Int32) (x3 : Int32) (kk : St → Option (Int32 × St)) : Nat → Int32 → St → Option (Int32 × St)
  | 0, _, _ => none
  | fu + 1, x4, s =>
    if (20) < x4 then (
      kk s) else (
      M_X4_learn_L23 x1 x2 x3 x4 (fun s8 =>
        M_X4_learn_L13 x1 x2 x3 kk fu (x4 + (1)) s8) 400 (0) s)
def M_X4_learn (a1 : Int32) (a2 : Int32) (a3 : Int32) (s : St) : Option (Int32 × St) :=
  pu s 64 0 ((s.1 64 0) + (1)) fun s1 =>
  M_X4_learn_L13 a1 a2 a3 (fun s9 =>
    some (0, s9)) 400 (0) s1
def M_X4_numberOfNerve_L6 (x1 : Int32) (x3 : Int32) (kk : Int32 → St → Option (Int32 × St)) : Nat → Int32 → Int32 → St → Option (Int32 × St)
  | 0, _, _, _ => none
  | fu + 1, x4, x5, s =>
    if x3 < x5 then (
      kk x4 s) else (
      rd s 65 147 ((x5 * (7)) + x1) fun v1 =>
      jn (κ := Int32 → St → Option (Int32 × St)) (fun v3 s4 =>
        M_X4_numberOfNerve_L6 x1 x3 kk fu v3 (x5 + (1)) s4) fun kj2 =>
        if v1 = 0 then (
          kj2 (x4 + (1)) s) else (
          kj2 x4 s))
def M_X4_numberOfNerve (a1 : Int32) (a2 : Int32) (a3 : Int32) (s : St) : Option (Int32 × St) :=
  M_X4_numberOfNerve_L6 a1 a3 (fun v5 s6 =>
    some (v5, s6)) 400 (0) a2 s
def M_X4_number_L5 (x1 : Int32) (x2 : Int32) (kk : Int32 → St → Option (Int32 × St)) : Nat → Int32 → Int32 → St → Option (Int32 × St)
  | 0, _, _, _ => none
  | fu + 1, x3, x4, s =>
    if (6) < x4 then (
      kk x3 s) else (
      cl (M_X4_numberOfNerve x4 x1 x2 s) fun r1 s2 =>
      M_X4_number_L5 x1 x2 kk fu (x3 + r1) (x4 + (1)) s2)
def M_X4_number (a1 : Int32) (a2 : Int32) (s : St) : Option (Int32 × St) :=
  M_X4_number_L5 a1 a2 (fun v3 s4 =>
    some (v3, s4)) 400 (0) (0) s
def M_X4_leastShame_L2 (kk : St → Option (Int32 × St)) : Nat → Int32 → St → Option (Int32 × St)
  | 0, _, _ => none
  | fu + 1, x1, s =>
    if (20) < x1 then (
      kk s) else (
      cl (M_X4_number x1 x1 s) fun r1 s2 =>
      if r1 ≤ 0 then (
        M_X4_leastShame_L2 kk fu (x1 + (1)) s2) else (
        some (x1, s2)))
def M_X4_leastShame (s : St) : Option (Int32 × St) :=
  M_X4_leastShame_L2  (fun s3 =>
    some ((-9), s3)) 400 (0) s
def M_X4_greatestShame_L3 (kk : St → Option (Int32 × St)) : Nat → Int32 → St → Option (Int32 × St)
  | 0, _, _ => none
  | fu + 1, x1, s =>
    if x1 < 0 then (
      kk s) else (
      cl (M_X4_number x1 x1 s) fun r1 s2 =>
      if r1 ≤ 0 then (
        M_X4_greatestShame_L3 kk fu (x1 + (-1)) s2) else (
        some (x1, s2)))
def M_X4_greatestShame (s : St) : Option (Int32 × St) :=
  M_X4_greatestShame_L3  (fun s3 =>
    some ((-9), s3)) 400 (20) s
def M_X4_bestOthers_L34 (x1 : Int32) (x2 : Int32) (kk : Int32 → St → Option (Int32 × St)) : Nat → Int32 → Int32 → Int32 → Int32 → St → Option (Int32 × St)
  | 0, _, _, _, _, _ => none
  | fu + 1, x3, x4, x5, x6, s =>
    if (6) < x6 then (
      kk x3 s) else (
      cl (M_X4_numberOfNerve x6 (x1 + (1)) (20) s) fun r5 s6 =>
      jn (κ := Int32 → Int32 → St → Option (Int32 × St)) (fun v8 v9 s10 =>
        M_X4_bestOthers_L34 x1 x2 kk fu v8 v9 (x5 + r5) (x6 + (1)) s10) fun kj7 =>
        if x4 ≤ (if (x5 + r5) < (x2 - (x5 + r5)) then (x2 - (x5 + r5)) else (x5 + r5)) then (
          kj7 x3 x4 s6) else (
          kj7 x6 (if (x5 + r5) < (x2 - (x5 + r5)) then (x2 - (x5 + r5)) else (x5 + r5)) s6))
def M_X4_bestOthers (a1 : Int32) (s : St) : Option (Int32 × St) :=
  cl (M_X4_number (0) (20) s) fun r1 s2 =>
  if (1) < r1 then (
    cl (M_X4_number (0) a1 s2) fun r3 s4 =>
    M_X4_bestOthers_L34 a1 r1 (fun v11 s12 =>
      some (v11, s12)) 400 (0) (r1 + (1)) r3 (0) s4) else (
    some ((-9), s2))
def M_X5_add (a1 : Int32) (s : St) : Option (Int32 × St) :=
  if (s.1 1 1) < (140) then (
    wr s 2 140 (s.1 1 1) (vp_nar .char (((a1).toUInt32 % 65536).toInt32)) fun s1 =>
    pu s1 1 1 ((s1.1 1 1) + (1)) fun s2 =>
    some (1, s2)) else (
    some (0, s))
def M_X5_isDigit (a0 : Int32) (s : St) : Option (Int32 × St) :=
  if a0 < (48) then (
    some (0, s)) else (
    if (57) < a0 then (
      some (0, s)) else (
      some (1, s)))
def M_X5_stepOverNumber_L5 (kk : St → Option (Int32 × St)) : Nat → St → Option (Int32 × St)
  | 0, _ => none
  | fu + 1, s =>
    if (s.1 1 1) ≤ (s.1 1 2) then (
      kk s) else (
      rd s 2 140 (s.1 1 2) fun v2 =>
      cl (M_X5_isDigit v2 s) fun r3 s4 =>
      if r3 = 0 then (
        kk s4) else (
        rd s4 2 140 (s4.1 1 2) fun v5 =>
        pu s4 1 5 (if (100) < (((s4.1 1 5) * (10)) + (v5 - (48))) then (100) else (((s4.1 1 5) * (10)) + (v5 - (48)))) fun s6 =>
        pu s6 1 2 ((s6.1 1 2) + (1)) fun s7 =>
        M_X5_stepOverNumber_L5 kk fu s7))
def M_X5_stepOverNumber (s : St) : Option (Int32 × St) :=
  pu s 1 5 (0) fun s1 =>
  M_X5_stepOverNumber_L5  (fun s8 =>
    rd s8 2 140 (s8.1 1 3) fun v9 =>
    jn (κ := Int32 → St → Option (Int32 × St)) (fun v11 s12 =>
      jn (κ := Int32 → St → Option (Int32 × St)) (fun v14 s15 =>
        pu s15 1 4 v14 fun s16 =>
        some (0, s16)) fun kj13 =>
        if v11 = 0 then (
          if (s12.1 1 5) ≤ (99) then (
            kj13 (2) s12) else (
            kj13 (4) s12)) else (
          kj13 (4) s12)) fun kj10 =>
      if v9 = (48) then (
        if ((s8.1 1 2) - (s8.1 1 3)) ≤ (1) then (
          kj10 (0) s8) else (
          kj10 (1) s8)) else (
        kj10 (0) s8)) 400  s1
def M_X5_step_L0 (kk : St → Option (Int32 × St)) : Nat → St → Option (Int32 × St)
  | 0, _ => none
  | fu + 1, s =>
    if (s.1 1 1) ≤ (s.1 1 2) then (
      kk s) else (
      rd s 2 140 (s.1 1 2) fun v1 =>
      if v1 = (32) then (
        pu s 1 2 ((s.1 1 2) + (1)) fun s2 =>
        M_X5_step_L0 kk fu s2) else (
        kk s))
def M_X5_step (s : St) : Option (Int32 × St) :=
  M_X5_step_L0  (fun s3 =>
    pu s3 1 3 (s3.1 1 2) fun s4 =>
    if (s4.1 1 2) < (s4.1 1 1) then (
      rd s4 2 140 (s4.1 1 2) fun v5 =>
      cl (M_X5_isDigit v5 s4) fun r6 s7 =>
      if r6 = 0 then (
        rd s7 2 140 (s7.1 1 2) fun v8 =>
        jn (κ := Int32 → St → Option (Int32 × St)) (fun v10 s11 =>
          pu s11 1 4 v10 fun s12 =>
          pu s12 1 2 ((s12.1 1 2) + (1)) fun s13 =>
          some (0, s13)) fun kj9 =>
          if v8 = (102) then (
            kj9 (1) s7) else (
            rd s7 2 140 (s7.1 1 2) fun v14 =>
            if v14 = (59) then (
              kj9 (3) s7) else (
              kj9 (4) s7))) else (
        cl (M_X5_stepOverNumber s7) fun r15 s16 =>
        some (0, s16))) else (
      pu s4 1 4 (0) fun s17 =>
      some (0, s17))) 400  s
def M_X5_tellsNumber (k1 : Nat) (a2 : Int32) (a3 : Int32) (a4 : Int32) (s : St) : Option (Int32 × St) :=
  cl (M_X5_step s) fun r1 s2 =>
  if (s2.1 1 4) = (2) then (
    if (s2.1 1 5) < a3 then (
      some (0, s2)) else (
      if (s2.1 1 5) ≤ a4 then (
        wr s2 k1 6 a2 (s2.1 1 5) fun s3 =>
        some (1, s3)) else (
        some (0, s2)))) else (
    some (0, s2))
def M_X5_tellsOne (k1 : Nat) (a2 : Int32) (s : St) : Option (Int32 × St) :=
  jn (κ := Int32 → St → Option (Int32 × St)) (fun v2 s3 =>
    if v2 = 0 then (
      some (0, s3)) else (
      cl (M_X5_step s3) fun r4 s5 =>
      if (s5.1 1 4) = (3) then (
        some (1, s5)) else (
        some (0, s5)))) fun kj1 =>
    if (s.1 1 4) = (1) then (
      cl (M_X5_tellsNumber (k1 + 1) a2 (0) (30) s) fun r6 s7 =>
      if r6 = 0 then (
        kj1 (0) s7) else (
        cl (M_X5_tellsNumber (k1 + 2) a2 (1) (9) s7) fun r8 s9 =>
        if r8 = 0 then (
          kj1 (0) s9) else (
          cl (M_X5_tellsNumber (k1 + 3) a2 (0) (20) s9) fun r10 s11 =>
          if r10 = 0 then (
            kj1 (0) s11) else (
            cl (M_X5_tellsNumber (k1 + 4) a2 (0) (6) s11) fun r12 s13 =>
            if r12 = 0 then (
              kj1 (0) s13) else (
              cl (M_X5_tellsNumber (k1 + 5) a2 (0) (5) s13) fun r14 s15 =>
              if r14 = 0 then (
                kj1 (0) s15) else (
                rd s15 (k1 + 5) 6 a2 fun v16 =>
                if v16 = a2 then (
                  kj1 (0) s15) else (
                  kj1 (1) s15))))))) else (
      kj1 (0) s)
def M_X5_tells_L16 (k1 : Nat) (kk : St → Option (Int32 × St)) : Nat → Int32 → St → Option (Int32 × St)
  | 0, _, _ => none
  | fu + 1, x2, s =>
    if (140) ≤ x2 then (
      kk s) else (
      if (s.1 1 4) = 0 then (
        kk s) else (
        if (6) ≤ x2 then (
          some (0, s)) else (
          cl (M_X5_tellsOne k1 x2 s) fun r5 s6 =>
          if r5 = 0 then (
            some (0, s6)) else (
            pu s6 k1 0 (x2 + (1)) fun s7 =>
            cl (M_X5_step s7) fun r8 s9 =>
            M_X5_tells_L16 k1 kk fu (x2 + (1)) s9))))
def M_X5_tells (k1 : Nat) (s : St) : Option (Int32 × St) :=
  pu s 1 2 (0) fun s1 =>
  pu s1 k1 0 (0) fun s2 =>
  cl (M_X5_step s2) fun r3 s4 =>
  M_X5_tells_L16 k1 (fun s10 =>
    cl (M_X1_keepersAreThere k1 s10) fun r11 s12 =>
    rz r11 s12) 400 (0) s4
def M_X6_within (a0 : Int32) (a1 : Int32) (a2 : Int32) (s : St) : Option (Int32 × St) :=
  if a0 < a1 then (
    some (0, s)) else (
    if a2 < a0 then (
      some (0, s)) else (
      some (1, s)))
def M_X6_type (a1 : Int32) (s : St) : Option (Int32 × St) :=
  cl (M_X6_within a1 (0) (255) s) fun r1 s2 =>
  if r1 = 0 then (
    some ((-1), s2)) else (
    cl (M_X5_add a1 s2) fun r3 s4 =>
    if r3 = 0 then (
      some ((-3), s4)) else (
      some ((s4.1 1 1), s4)))
def M_X6_clear (s : St) : Option (Int32 × St) :=
  pu s 1 1 (0) fun s1 =>
  some ((s.1 1 1), s1)
def M_X6_valley_L68 (kk : St → Option (Int32 × St)) : Nat → Int32 → St → Option (Int32 × St)
  | 0, _, _ => none
  | fu + 1, x1, s =>
    if (2) ≤ x1 then (
      kk s) else (
      wr s 60 2 x1 (vp_nar .boolean (0)) fun s11 =>
      M_X6_valley_L68 kk fu (x1 + (1)) s11)
def M_X6_valley (s : St) : Option (Int32 × St) :=
  cl (M_X5_tells 3 s) fun r1 s2 =>
  if r1 = 0 then (
    some (((-10) - (s2.1 1 3)), s2)) else (
    pu s2 1 1 (0) fun s3 =>
    cl (M_X1_copyFrom 9 3 s3) fun r4 s5 =>
    cl (M_X3_begin 15 s5) fun r6 s7 =>
    pu s7 21 2 (0) fun s8 =>
    cl (M_X4_begin s8) fun r9 s10 =>
    M_X6_valley_L68  (fun s12 =>
      some ((s12.1 9 0), s12)) 400 (0) s10)
def M_X6_daysTillAsked_L10 (x1 : Int32) (kk : St → Option (Int32 × St)) : Nat → Int32 → Int32 → St → Option (Int32 × St)
  | 0, _, _, _ => none
  | fu + 1, x2, x3, s =>
    if (60) < x3 then (
      kk s) else (
      if ((x2 >>> (x1 &&& 31)) &&& (1)) = (1) then (
        some (x3, s)) else (
        cl (M_X1_askedBehind 9 x2 ((s.1 15 1) + x3) s) fun r1 s2 =>
        M_X6_daysTillAsked_L10 x1 kk fu r1 (x3 + (1)) s2))
def M_X6_daysTillAsked (a1 : Int32) (s : St) : Option (Int32 × St) :=
  M_X6_daysTillAsked_L10 a1 (fun s3 =>
    some ((-9), s3)) 400 (s.1 15 2) (0) s
def M_X6_daysTillMown_L13 (x1 : Int32) (kk : St → Option (Int32 × St)) : Nat → Int32 → St → Option (Int32 × St)
  | 0, _, _ => none
  | fu + 1, x2, s =>
    if (60) < x2 then (
      kk s) else (
      cl (M_X3_allMown 18 x1 s) fun r3 s4 =>
      if r3 = 0 then (
        cl (M_X3_pass 18 (1) s4) fun r5 s6 =>
        M_X6_daysTillMown_L13 x1 kk fu (x2 + (1)) s6) else (
        some (x2, s4)))
def M_X6_daysTillMown (a1 : Int32) (s : St) : Option (Int32 × St) :=
  cl (M_X3_copyFrom 18 15 s) fun r1 s2 =>
  M_X6_daysTillMown_L13 a1 (fun s7 =>
    some ((-9), s7)) 400 (0) s2
def M_X6_farmer (a1 : Int32) (a2 : Int32) (s : St) : Option (Int32 × St) :=
  cl (M_X1_has 9 a1 s) fun r1 s2 =>
  if r1 = 0 then (
    some ((-1), s2)) else (
    if a2 = 0 then (
      rd s2 10 6 a1 fun v3 =>
      some (v3, s2)) else if a2 = 1 then (
      rd s2 16 6 a1 fun v5 =>
      some (v5, s2)) else if a2 = 2 then (
      rd s2 12 6 a1 fun v7 =>
      some (v7, s2)) else if a2 = 3 then (
      rd s2 13 6 a1 fun v9 =>
      some (v9, s2)) else if a2 = 4 then (
      rd s2 17 6 a1 fun v11 =>
      some (v11, s2)) else if a2 = 5 then (
      cl (M_X3_hasAsked 15 a1 s2) fun r13 s14 =>
      if r13 = 0 then (
        some ((0), s14)) else (
        some ((1), s14))) else if a2 = 6 then (
      cl (M_X3_hungWith 15 a1 s2) fun r16 s17 =>
      some (r16, s17)) else if a2 = 7 then (
      cl (M_X3_ringOf 15 a1 s2) fun r19 s20 =>
      some (r19, s20)) else if a2 = 8 then (
      cl (M_X6_daysTillAsked a1 s2) fun r22 s23 =>
      some (r22, s23)) else if a2 = 9 then (
      cl (M_X6_daysTillMown ((1) <<< (a1 &&& 31)) s2) fun r25 s26 =>
      some (r25, s26)) else (
      some ((-1), s2)))
def M_X6_now (a1 : Int32) (s : St) : Option (Int32 × St) :=
  if a1 = 0 then (
    some ((s.1 15 1), s)) else if a1 = 1 then (
    some ((s.1 15 2), s)) else if a1 = 2 then (
    cl (M_X3_leftTogether 15 s) fun r3 s4 =>
    some (r3, s4)) else if a1 = 3 then (
    cl (M_X1_everyone 9 s) fun r6 s7 =>
    cl (M_X6_daysTillMown r6 s7) fun r8 s9 =>
    some (r8, s9)) else if a1 = 4 then (
    some ((s.1 21 2), s)) else (
    some ((-1), s))
def M_X6_day (a1 : Int32) (s : St) : Option (Int32 × St) :=
  cl (M_X6_within a1 (0) (1) s) fun r1 s2 =>
  if r1 = 0 then (
    some ((-1), s2)) else (
    if (s2.1 15 1) < (999) then (
      cl (M_X2_push 15 s2) fun r3 s4 =>
      jn (κ := Int32 → St → Option (Int32 × St)) (fun v6 s7 =>
        cl (M_X3_pass 15 v6 s7) fun r8 s9 =>
        some (r8, s9)) fun kj5 =>
        if a1 = (1) then (
          kj5 (1) s4) else (
          kj5 (0) s4)) else (
      some ((-2), s2)))
def M_X6_brings (a1 : Int32) (s : St) : Option (Int32 × St) :=
  cl (M_X1_has 9 a1 s) fun r1 s2 =>
  if r1 = 0 then (
    some ((-1), s2)) else (
    cl (M_X3_hasAsked 15 a1 s2) fun r3 s4 =>
    if r3 = 0 then (
      cl (M_X2_push 15 s4) fun r5 s6 =>
      pu s6 15 2 ((s6.1 15 2) ||| ((1) <<< (a1 &&& 31))) fun s7 =>
      cl (M_J6_bitCount_0f7a4 (s7.1 15 2) s7) fun r8 s9 =>
      some (r8, s9)) else (
      some ((-2), s4)))
def M_X6_hangs (a1 : Int32) (a2 : Int32) (s : St) : Option (Int32 × St) :=
  cl (M_X1_has 9 a1 s) fun r1 s2 =>
  if r1 = 0 then (
    some ((-1), s2)) else (
    cl (M_X1_has 9 a2 s2) fun r3 s4 =>
    if r3 = 0 then (
      some ((-1), s4)) else (
      if a1 = a2 then (
        some ((-1), s4)) else (
        rd s4 17 6 a1 fun v5 =>
        cl (M_X3_hasAsked 15 a1 s4) fun r6 s7 =>
        if r6 = 0 then (
          if v5 = a2 then (
            some ((-2), s7)) else (
            cl (M_X2_push 15 s7) fun r8 s9 =>
            wr s9 17 6 a1 a2 fun s10 =>
            some (v5, s10))) else (
          some ((-2), s7)))))
def M_X6_undo (s : St) : Option (Int32 × St) :=
  if (s.1 21 2) = 0 then (
    some ((-2), s)) else (
    cl (M_X2_pop 15 s) fun r1 s2 =>
    some ((s2.1 21 2), s2))
def M_X6_allAskBehind_L13 (x1 : Int32) (kk : Int32 → St → Option (Int32 × St)) : Nat → Int32 → Int32 → St → Option (Int32 × St)
  | 0, _, _, _ => none
  | fu + 1, x3, x4, s =>
    if x1 ≤ x4 then (
      kk x3 s) else (
      cl (M_X1_askedBehind 9 x3 ((s.1 15 1) + x4) s) fun r1 s2 =>
      M_X6_allAskBehind_L13 x1 kk fu r1 (x4 + (1)) s2)
def M_X6_allAskBehind (a1 : Int32) (a2 : Int32) (s : St) : Option (Int32 × St) :=
  M_X6_allAskBehind_L13 a1 (fun v3 s4 =>
    cl (M_X1_everyone 9 s4) fun r5 s6 =>
    if v3 = r5 then (
      some (1, s6)) else (
      some (0, s6))) 400 ((s.1 15 2) ||| a2) (0) s
def M_X6_start_L35 (x1 : Int32) (x2 : Int32) (kk : Int32 → St → Option (Int32 × St)) : Nat → Int32 → Int32 → St → Option (Int32 × St)
  | 0, _, _, _ => none
  | fu + 1, x3, x4, s =>
    if x2 < x4 then (
      kk x3 s) else (
      cl (M_J6_bitCount_0f7a4 x4 s) fun r5 s6 =>
      cl (M_J6_bitCount_0f7a4 x3 s6) fun r7 s8 =>
      jn (κ := Int32 → St → Option (Int32 × St)) (fun v10 s11 =>
        jn (κ := Int32 → St → Option (Int32 × St)) (fun v13 s14 =>
          M_X6_start_L35 x1 x2 kk fu v13 (x4 + (1)) s14) fun kj12 =>
          if v10 = 0 then (
            kj12 x3 s11) else (
            if (x4 &&& (s11.1 15 2)) = 0 then (
              cl (M_X6_allAskBehind x1 x4 s11) fun r15 s16 =>
              if r15 = 0 then (
                kj12 x3 s16) else (
                kj12 x4 s16)) else (
              kj12 x3 s11))) fun kj9 =>
        if r7 ≤ r5 then (
          kj9 (0) s8) else (
          kj9 (1) s8))
def M_X6_start (a1 : Int32) (s : St) : Option (Int32 × St) :=
  cl (M_X6_within a1 (0) (20) s) fun r1 s2 =>
  if r1 = 0 then (
    some ((-1), s2)) else (
    cl (M_X1_everyone 9 s2) fun r3 s4 =>
    M_X6_start_L35 a1 r3 (fun v17 s18 =>
      some (v17, s18)) 400 (r3 &&& ((s4.1 15 2) ^^^ (-1))) (0) s4)
def M_X6_hang (a1 : Int32) (s : St) : Option (Int32 × St) :=
  jn (κ := St → Option (Int32 × St)) (fun s2 =>
    if (s2.1 9 0) = 0 then (
      some ((-9), s2)) else (
      cl (M_X0_search s2) fun r3 s4 =>
      if a1 = (-1) then (
        some ((s4.1 61 1), s4)) else (
        rd s4 62 6 a1 fun v5 =>
        some (v5, s4)))) fun kj1 =>
    if a1 = (-1) then (
      kj1 s) else (
      cl (M_X1_has 9 a1 s) fun r6 s7 =>
      if r6 = 0 then (
        some ((-1), s7)) else (
        kj1 s7))
def M_X6_commonDivisor_L7 (kk : Int32 → St → Option (Int32 × St)) : Nat → Int32 → Int32 → Int32 → St → Option (Int32 × St)
  | 0, _, _, _, _ => none
  | fu + 1, x2, x3, x4, s =>
    if (64) ≤ x4 then (
      kk x2 s) else (
      if x3 = 0 then (
        kk x2 s) else (
        dv x3 <|
        M_X6_commonDivisor_L7 kk fu x3 (x2 - x2 / x3 * x3) (x4 + (1)) s))
def M_X6_commonDivisor (a0 : Int32) (a1 : Int32) (s : St) : Option (Int32 × St) :=
  M_X6_commonDivisor_L7  (fun v1 s2 =>
    if v1 = 0 then (
      some ((1), s2)) else (
      some (v1, s2))) 400 a0 a1 (0) s
def M_X6_weigh_L9 (x1 : Int32) (x2 : Int32) (kk : St → Option (Int32 × St)) : Nat → Int32 → St → Option (Int32 × St)
  | 0, _, _ => none
  | fu + 1, x3, s =>
    if (8) < x3 then (
      kk s) else (
      wr s 66 9 x3 (0) fun s2 =>
      M_X6_weigh_L9 x1 x2 kk fu (x3 + (1)) s2)
def M_X6_weigh_L39 (x1 : Int32) (x2 : Int32) (x3 : Int32) (kk : St → Option (Int32 × St)) : Nat → Int32 → St → Option (Int32 × St)
  | 0, _, _ => none
  | fu + 1, x4, s =>
    if x4 < (1) then (
      kk s) else (
      rd s 66 9 (x4 - (1)) fun v4 =>
      rd s 66 9 x4 fun v5 =>
      wr s 66 9 x4 ((x1 * v4) + (((10) - x1) * v5)) fun s6 =>
      M_X6_weigh_L39 x1 x2 x3 kk fu (x4 + (-1)) s6)
def M_X6_weigh_L30 (x1 : Int32) (x2 : Int32) (kk : St → Option (Int32 × St)) : Nat → Int32 → St → Option (Int32 × St)
  | 0, _, _ => none
  | fu + 1, x3, s =>
    if x2 ≤ x3 then (
      kk s) else (
      M_X6_weigh_L39 x1 x2 x3 (fun s7 =>
        rd s7 66 9 (0) fun v8 =>
        wr s7 66 9 (0) ((10) * v8) fun s9 =>
        M_X6_weigh_L30 x1 x2 kk fu (x3 + (1)) s9) 400 (8) s)
def M_X6_weigh (a1 : Int32) (a2 : Int32) (s : St) : Option (Int32 × St) :=
  wr s 66 9 (0) (1) fun s1 =>
  M_X6_weigh_L9 a1 a2 (fun s3 =>
    M_X6_weigh_L30 a1 a2 (fun s10 =>
      some (0, s10)) 400 (0) s3) 400 (1) s1
def M_X6_odds (a1 : Int32) (a2 : Int32) (a3 : Int32) (a4 : Int32) (s : St) : Option (Int32 × St) :=
  cl (M_X1_has 9 a1 s) fun r1 s2 =>
  if r1 = 0 then (
    some ((-1), s2)) else (
    cl (M_X6_within a2 (0) (10) s2) fun r3 s4 =>
    if r3 = 0 then (
      some ((-1), s4)) else (
      cl (M_X6_within a3 (0) (8) s4) fun r5 s6 =>
      if r5 = 0 then (
        some ((-1), s6)) else (
        cl (M_X6_within a4 (0) (1) s6) fun r7 s8 =>
        if r7 = 0 then (
          some ((-1), s8)) else (
          cl (M_X6_weigh a2 a3 s8) fun r9 s10 =>
          rd s10 16 6 a1 fun v11 =>
          jn (κ := Int32 → St → Option (Int32 × St)) (fun v13 s14 =>
            rd s14 66 9 (0) fun v15 =>
            cl (M_X6_commonDivisor v15 v13 s14) fun r16 s17 =>
            if a4 = 0 then (
              dv r16 <|
              some ((v13 / r16), s17)) else (
              dv r16 <|
              some ((v15 / r16), s17))) fun kj12 =>
            if v11 ≤ a3 then (
              rd s10 66 9 v11 fun v18 =>
              kj12 v18 s10) else (
              kj12 (0) s10)))))
def M_X6_sees (a1 : Int32) (a2 : Int32) (a3 : Int32) (s : St) : Option (Int32 × St) :=
  cl (M_X6_within a1 (0) (20) s) fun r1 s2 =>
  if r1 = 0 then (
    some ((-1), s2)) else (
    cl (M_X6_within a2 (0) (6) s2) fun r3 s4 =>
    if r3 = 0 then (
      some ((-1), s4)) else (
      cl (M_X6_within a3 (0) (1) s4) fun r5 s6 =>
      if r5 = 0 then (
        some ((-1), s6)) else (
        if (s6.1 64 0) < (6) then (
          jn (κ := Int32 → St → Option (Int32 × St)) (fun v8 s9 =>
            cl (M_X4_learn a1 a2 v8 s9) fun r10 s11 =>
            some ((s11.1 64 0), s11)) fun kj7 =>
            if a3 = (1) then (
              kj7 (1) s6) else (
              kj7 (0) s6)) else (
          some ((-3), s6)))))
def M_X6_forget (s : St) : Option (Int32 × St) :=
  cl (M_X4_begin s) fun r1 s2 =>
  some ((s.1 64 0), s2)
def M_X6_ones (a1 : Int32) (s : St) : Option (Int32 × St) :=
  if a1 = 0 then (
    cl (M_X4_number (0) (20) s) fun r1 s2 =>
    some (r1, s2)) else if a1 = 1 then (
    cl (M_X4_leastShame s) fun r4 s5 =>
    some (r4, s5)) else if a1 = 2 then (
    cl (M_X4_greatestShame s) fun r7 s8 =>
    some (r7, s8)) else (
    some ((-1), s))
def M_X6_look (a1 : Int32) (s : St) : Option (Int32 × St) :=
  cl (M_X6_within a1 (0) (20) s) fun r1 s2 =>
  if r1 = 0 then (
    some ((-1), s2)) else (
    cl (M_X4_bestOthers a1 s2) fun r3 s4 =>
    some (r3, s4))
def M_X6_asFarmer (a1 : Int32) (s : St) : Option (Int32 × St) :=
  puL s 0 ((s.2 0) + (1)) fun s1 =>
  rd s1 16 6 a1 fun v2 =>
  some (v2, s1)
def M_X6_asLate (a1 : Int32) (s : St) : Option (Int32 × St) :=
  puL s 0 ((s.2 0) + (100)) fun s1 =>
  cl (M_X6_asFarmer a1 s1) fun r2 s3 =>
  rd s3 12 6 a1 fun v4 =>
  some ((r2 - v4), s3)
def M_X6_asCousin (a1 : Int32) (s : St) : Option (Int32 × St) :=
  puL s 0 ((s.2 0) + (10000)) fun s1 =>
  cl (M_X6_asLate a1 s1) fun r2 s3 =>
  some ((r2 + a1), s3)
def M_X6_asMower (a1 : Int32) (s : St) : Option (Int32 × St) :=
  puL s 0 ((s.2 0) + (10)) fun s1 =>
  cl (M_X6_asFarmer a1 s1) fun r2 s3 =>
  cl (M_X3_hungWith 15 a1 s3) fun r4 s5 =>
  cl (M_J6_bitCount_0f7a4 r4 s5) fun r6 s7 =>
  some ((r2 + r6), s7)
def M_X6_asSnow (a1 : Int32) (s : St) : Option (Int32 × St) :=
  puL s 0 ((s.2 0) + (100000)) fun s1 =>
  cl (M_X6_asFarmer a1 s1) fun r2 s3 =>
  some ((r2 + (s3.1 15 1)), s3)
def M_X6_asSon (a1 : Int32) (s : St) : Option (Int32 × St) :=
  puL s 0 ((s.2 0) + (1000)) fun s1 =>
  cl (M_X6_asMower a1 s1) fun r2 s3 =>
  some (((2) * r2), s3)
def M_X6_rate (a1 : Int32) (a2 : Int32) (s : St) : Option (Int32 × St) :=
  cl (M_X1_has 9 a2 s) fun r1 s2 =>
  if r1 = 0 then (
    some ((-1000000), s2)) else (
    if a1 = 0 then (
      cl (M_X6_asFarmer a2 s2) fun r3 s4 =>
      some (r3, s4)) else if a1 = 1 then (
      cl (M_X6_asMower a2 s2) fun r6 s7 =>
      some (r6, s7)) else if a1 = 2 then (
      cl (M_X6_asLate a2 s2) fun r9 s10 =>
      some (r9, s10)) else if a1 = 3 then (
      cl (M_X6_asSon a2 s2) fun r12 s13 =>
      some (r12, s13)) else if a1 = 4 then (
      cl (M_X6_asCousin a2 s2) fun r15 s16 =>
      some (r15, s16)) else if a1 = 5 then (
      cl (M_X6_asSnow a2 s2) fun r18 s19 =>
      some (r18, s19)) else (
      some ((-1000000), s2)))
def M_X6_keep (a1 : Int32) (s : St) : Option (Int32 × St) :=
  cl (M_X6_within a1 (0) (1) s) fun r1 s2 =>
  if r1 = 0 then (
    some ((-1), s2)) else (
    ra 53 2 a1 fun j3 =>
    cl (M_X3_copyFrom j3 15 s2) fun r4 s5 =>
    wr s5 60 2 a1 (vp_nar .boolean (1)) fun s6 =>
    some ((s6.1 15 1), s6))
def M_X6_back (a1 : Int32) (s : St) : Option (Int32 × St) :=
  cl (M_X6_within a1 (0) (1) s) fun r1 s2 =>
  if r1 = 0 then (
    some ((-1), s2)) else (
    rd s2 60 2 a1 fun v3 =>
    if v3 = 0 then (
      some ((-2), s2)) else (
      ra 53 2 a1 fun j4 =>
      cl (M_X3_copyFrom 15 j4 s2) fun r5 s6 =>
      pu s6 21 2 (0) fun s7 =>
      some ((s7.1 15 1), s7)))
def M_X6_count (a1 : Int32) (s : St) : Option (Int32 × St) :=
  if a1 = 0 then (
    some ((s.1 9 0), s)) else if a1 = 1 then (
    some ((s.1 64 0), s)) else if a1 = 2 then (
    some ((s.1 1 1), s)) else (
    some ((-1), s))
def M_X7_in (a0 : Int32) (a1 : Int32) (a2 : Int32) (s : St) : Option (Int32 × St) :=
  if a0 < a1 then (
    some (0, s)) else (
    if a2 < a0 then (
      some (0, s)) else (
      some (1, s)))
def M_X7_has (a0 : Int32) (a1 : Int32) (s : St) : Option (Int32 × St) :=
  if ((a0 >>> (a1 &&& 31)) &&& (1)) = (1) then (
    some (1, s)) else (
    some (0, s))
def M_X7_bits_L4 (x0 : Int32) (kk : Int32 → St → Option (Int32 × St)) : Nat → Int32 → Int32 → St → Option (Int32 × St)
  | 0, _, _, _ => none
  | fu + 1, x1, x2, s =>
    if (8) ≤ x2 then (
      kk x1 s) else (
      M_X7_bits_L4 x0 kk fu (x1 + ((x0 >>> (x2 &&& 31)) &&& (1))) (x2 + (1)) s)
def M_X7_bits (a0 : Int32) (s : St) : Option (Int32 × St) :=
  M_X7_bits_L4 a0 (fun v1 s2 =>
    some (v1, s2)) 400 (0) (0) s
def M_X7_isFarmer (a1 : Int32) (s : St) : Option (Int32 × St) :=
  cl (M_X7_in a1 (0) ((s.1 67 0) - (1)) s) fun r1 s2 =>
  rz r1 s2
def M_X7_copy_L3 (k0 : Nat) (k2 : Nat) (x1 : Int32) (x3 : Int32) (kk : St → Option (Int32 × St)) : Nat → Int32 → St → Option (Int32 × St)
  | 0, _, _ => none
  | fu + 1, x4, s =>
    if (14) ≤ x4 then (
      kk s) else (
      rd s k2 (ln k2) (x3 + x4) fun v1 =>
      wr s k0 (ln k0) (x1 + x4) v1 fun s2 =>
      M_X7_copy_L3 k0 k2 x1 x3 kk fu (x4 + (1)) s2)
def M_X7_copy (k0 : Nat) (k2 : Nat) (a1 : Int32) (a3 : Int32) (s : St) : Option (Int32 × St) :=
  M_X7_copy_L3 k0 k2 a1 a3 (fun s3 =>
    some (0, s3)) 400 (0) s
def M_X7_type (a1 : Int32) (s : St) : Option (Int32 × St) :=
  cl (M_X7_in a1 (0) (255) s) fun r1 s2 =>
  if r1 = 0 then (
    some ((-1), s2)) else (
    if (s2.1 67 13) = (140) then (
      some ((-3), s2)) else (
      wr s2 76 140 (s2.1 67 13) a1 fun s3 =>
      pu s3 67 13 ((s3.1 67 13) + (1)) fun s4 =>
      some ((s4.1 67 13), s4)))
def M_X7_clear (s : St) : Option (Int32 × St) :=
  pu s 67 13 (0) fun s1 =>
  some ((s.1 67 13), s1)
def M_X7_letterAt (a1 : Int32) (s : St) : Option (Int32 × St) :=
  if (s.1 67 13) ≤ a1 then (
    some ((-1), s)) else (
    rd s 76 140 a1 fun v1 =>
    some (v1, s))
def M_X7_isFigure (a0 : Int32) (s : St) : Option (Int32 × St) :=
  cl (M_X7_in a0 (48) (57) s) fun r1 s2 =>
  rz r1 s2
def M_X7_next_L0 (kk : St → Option (Int32 × St)) : Nat → St → Option (Int32 × St)
  | 0, _ => none
  | fu + 1, s =>
    cl (M_X7_letterAt (s.1 67 14) s) fun r1 s2 =>
    if r1 = (32) then (
      pu s2 67 14 ((s2.1 67 14) + (1)) fun s3 =>
      M_X7_next_L0 kk fu s3) else (
      kk s2)
def M_X7_next_L67 (x1 : Int32) (kk : St → Option (Int32 × St)) : Nat → St → Option (Int32 × St)
  | 0, _ => none
  | fu + 1, s =>
    cl (M_X7_letterAt (s.1 67 14) s) fun r17 s18 =>
    cl (M_X7_isFigure r17 s18) fun r19 s20 =>
    if r19 = 0 then (
      kk s20) else (
      jn (κ := Int32 → St → Option (Int32 × St)) (fun v22 s23 =>
        pu s23 67 17 v22 fun s24 =>
        pu s24 67 14 ((s24.1 67 14) + (1)) fun s25 =>
        M_X7_next_L67 x1 kk fu s25) fun kj21 =>
        if (s20.1 67 17) ≤ (99) then (
          cl (M_X7_letterAt (s20.1 67 14) s20) fun r26 s27 =>
          kj21 ((((10) * (s20.1 67 17)) + r26) - (48)) s27) else (
          kj21 (s20.1 67 17) s20))
def M_X7_next (s : St) : Option (Int32 × St) :=
  M_X7_next_L0  (fun s4 =>
    pu s4 67 15 (s4.1 67 14) fun s5 =>
    cl (M_X7_letterAt (s5.1 67 14) s5) fun r6 s7 =>
    pu s7 67 17 (0) fun s8 =>
    if 0 ≤ r6 then (
      cl (M_X7_isFigure r6 s8) fun r9 s10 =>
      if r9 = 0 then (
        jn (κ := Int32 → St → Option (Int32 × St)) (fun v12 s13 =>
          pu s13 67 16 v12 fun s14 =>
          pu s14 67 17 r6 fun s15 =>
          pu s15 67 14 ((s15.1 67 14) + (1)) fun s16 =>
          some (0, s16)) fun kj11 =>
          if r6 = (102) then (
            kj11 (1) s10) else (
            if r6 = (59) then (
              kj11 (3) s10) else (
              kj11 (4) s10))) else (
        M_X7_next_L67 r6 (fun s28 =>
          jn (κ := Int32 → St → Option (Int32 × St)) (fun v30 s31 =>
            pu s31 67 16 v30 fun s32 =>
            some (0, s32)) fun kj29 =>
            if (99) < (s28.1 67 17) then (
              kj29 (4) s28) else (
              if r6 = (48) then (
                if ((s28.1 67 14) - (s28.1 67 15)) ≤ (1) then (
                  kj29 (2) s28) else (
                  kj29 (4) s28)) else (
                kj29 (2) s28))) 400  s10)) else (
      pu s8 67 16 (0) fun s33 =>
      some (0, s33))) 400  s
def M_X7_takesNumber (a1 : Int32) (a2 : Int32) (s : St) : Option (Int32 × St) :=
  jn (κ := Int32 → St → Option (Int32 × St)) (fun v2 s3 =>
    jn (κ := Int32 → St → Option (Int32 × St)) (fun v5 s6 =>
      puZ s6 67 18 v5 fun s7 =>
      jn (κ := St → Option (Int32 × St)) (fun s9 =>
        if v2 = 0 then (
          some ((0), s9)) else (
          some ((s7.1 67 17), s9))) fun kj8 =>
        if v2 = 0 then (
          kj8 s7) else (
          cl (M_X7_next s7) fun r10 s11 =>
          kj8 s11)) fun kj4 =>
      if v2 = 0 then (
        kj4 (1) s3) else (
        kj4 (0) s3)) fun kj1 =>
    if (s.1 67 18) = 0 then (
      if (s.1 67 16) = (2) then (
        cl (M_X7_in (s.1 67 17) a1 a2 s) fun r12 s13 =>
        if r12 = 0 then (
          kj1 (0) s13) else (
          kj1 (1) s13)) else (
        kj1 (0) s)) else (
      kj1 (0) s)
def M_X7_readFarmer (s : St) : Option (Int32 × St) :=
  cl (M_X7_takesNumber (0) (30) s) fun r1 s2 =>
  wr s2 77 30 ((5) * (s.1 67 20)) r1 fun s3 =>
  cl (M_X7_takesNumber (1) (9) s3) fun r4 s5 =>
  wr s5 77 30 (((5) * (s.1 67 20)) + (1)) r4 fun s6 =>
  cl (M_X7_takesNumber (0) (20) s6) fun r7 s8 =>
  wr s8 77 30 (((5) * (s.1 67 20)) + (2)) r7 fun s9 =>
  cl (M_X7_takesNumber (0) (6) s9) fun r10 s11 =>
  wr s11 77 30 (((5) * (s.1 67 20)) + (3)) r10 fun s12 =>
  jn (κ := Int32 → St → Option (Int32 × St)) (fun v14 s15 =>
    puZ s15 67 18 v14 fun s16 =>
    cl (M_X7_takesNumber (0) (5) s16) fun r17 s18 =>
    wr s18 77 30 (((5) * (s.1 67 20)) + (4)) r17 fun s19 =>
    pu s19 67 20 ((s19.1 67 20) + (1)) fun s20 =>
    some (0, s20)) fun kj13 =>
    if (s12.1 67 18) = 0 then (
      if (s12.1 67 16) = (2) then (
        if (s12.1 67 17) = (s12.1 67 20) then (
          kj13 (1) s12) else (
          kj13 (0) s12)) else (
        kj13 (0) s12)) else (
      kj13 (1) s12)
def M_X7_readItem (s : St) : Option (Int32 × St) :=
  jn (κ := St → Option (Int32 × St)) (fun s2 =>
    puZ s2 67 18 (1) fun s3 =>
    some (0, s3)) fun kj1 =>
    if (s.1 67 16) = (1) then (
      if (s.1 67 20) = (6) then (
        kj1 s) else (
        cl (M_X7_next s) fun r4 s5 =>
        cl (M_X7_readFarmer s5) fun r6 s7 =>
        jn (κ := Int32 → St → Option (Int32 × St)) (fun v9 s10 =>
          puZ s10 67 18 v9 fun s11 =>
          if (s11.1 67 18) = 0 then (
            cl (M_X7_next s11) fun r12 s13 =>
            some (0, s13)) else (
            some (0, s11))) fun kj8 =>
          if (s7.1 67 18) = 0 then (
            if (s7.1 67 16) = (3) then (
              kj8 (0) s7) else (
              kj8 (1) s7)) else (
            kj8 (1) s7))) else (
      kj1 s)
def M_X7_settles_L10 (kk : St → Option (Int32 × St)) : Nat → Int32 → St → Option (Int32 × St)
  | 0, _, _ => none
  | fu + 1, x1, s =>
    if (14) ≤ x1 then (
      kk s) else (
      wr s 71 14 x1 (0) fun s2 =>
      M_X7_settles_L10 kk fu (x1 + (1)) s2)
def M_X7_settles_L31 (kk : St → Option (Int32 × St)) : Nat → Int32 → St → Option (Int32 × St)
  | 0, _, _ => none
  | fu + 1, x1, s =>
    if (s.1 67 0) ≤ x1 then (
      kk s) else (
      rd s 77 30 ((5) * x1) fun v4 =>
      wr s 68 6 x1 v4 fun s5 =>
      rd s5 77 30 (((5) * x1) + (2)) fun v6 =>
      wr s5 69 6 x1 v6 fun s7 =>
      rd s7 77 30 (((5) * x1) + (3)) fun v8 =>
      wr s7 70 6 x1 v8 fun s9 =>
      rd s9 77 30 (((5) * x1) + (1)) fun v10 =>
      wr s9 71 14 ((2) + x1) v10 fun s11 =>
      rd s11 77 30 (((5) * x1) + (4)) fun v12 =>
      wr s11 71 14 ((8) + x1) v12 fun s13 =>
      M_X7_settles_L31 kk fu (x1 + (1)) s13)
def M_X7_settles (s : St) : Option (Int32 × St) :=
  pu s 67 0 (s.1 67 20) fun s1 =>
  M_X7_settles_L10  (fun s3 =>
    M_X7_settles_L31  (fun s14 =>
      pu s14 67 6 (0) fun s15 =>
      pu s15 67 9 (0) fun s16 =>
      wr s16 74 2 (0) (vp_nar .boolean (0)) fun s17 =>
      wr s17 74 2 (1) (vp_nar .boolean (0)) fun s18 =>
      pu s18 67 13 (0) fun s19 =>
      some (0, s19)) 400 (0) s3) 400 (0) s1
def M_X7_valley_L24 (kk : St → Option (Int32 × St)) : Nat → St → Option (Int32 × St)
  | 0, _ => none
  | fu + 1, s =>
    if (s.1 67 16) = 0 then (
      kk s) else (
      if (s.1 67 18) = 0 then (
        cl (M_X7_readItem s) fun r7 s8 =>
        pu s8 67 19 ((s8.1 67 19) + (1)) fun s9 =>
        M_X7_valley_L24 kk fu s9) else (
        kk s))
def M_X7_valley_L57 (kk : St → Option (Int32 × St)) : Nat → Int32 → St → Option (Int32 × St)
  | 0, _, _ => none
  | fu + 1, x1, s =>
    if (s.1 67 20) ≤ x1 then (
      kk s) else (
      if (s.1 67 18) = 0 then (
        rd s 77 30 (((5) * x1) + (4)) fun v11 =>
        jn (κ := Int32 → St → Option (Int32 × St)) (fun v13 s14 =>
          puZ s14 67 18 v13 fun s15 =>
          M_X7_valley_L57 kk fu (x1 + (1)) s15) fun kj12 =>
          if v11 < (s.1 67 20) then (
            kj12 (0) s) else (
            kj12 (1) s)) else (
        kk s))
def M_X7_valley (s : St) : Option (Int32 × St) :=
  pu s 67 14 (0) fun s1 =>
  puZ s1 67 18 (0) fun s2 =>
  pu s2 67 19 (0) fun s3 =>
  pu s3 67 20 (0) fun s4 =>
  cl (M_X7_next s4) fun r5 s6 =>
  M_X7_valley_L24  (fun s10 =>
    M_X7_valley_L57  (fun s16 =>
      if (s16.1 67 18) = 0 then (
        cl (M_X7_settles s16) fun r17 s18 =>
        some ((s18.1 67 19), s18)) else (
        some (((-10) - (s16.1 67 15)), s16))) 400 (0) s10) 400  s6
def M_X7_asItIs (s : St) : Option (Int32 × St) :=
  cl (M_X7_copy 78 71 (0) (0) s) fun r1 s2 =>
  some (0, s2)
def M_X7_asks_L9 (x1 : Int32) (kk : St → Option (Int32 × St)) : Nat → Int32 → St → Option (Int32 × St)
  | 0, _, _ => none
  | fu + 1, x2, s =>
    if (s.1 67 0) ≤ x2 then (
      kk s) else (
      rd s 69 6 x2 fun v2 =>
      rd s 78 14 (0) fun v3 =>
      jn (κ := Int32 → St → Option (Int32 × St)) (fun v5 s6 =>
        rd s6 78 14 (1) fun v7 =>
        jn (κ := Int32 → St → Option (Int32 × St)) (fun v9 s10 =>
          wr s10 78 14 (1) (v7 ||| v9) fun s11 =>
          M_X7_asks_L9 x1 kk fu (x2 + (1)) s11) fun kj8 =>
          if v5 = 0 then (
            kj8 (0) s6) else (
            kj8 ((1) <<< (x2 &&& 31)) s6)) fun kj4 =>
        if v2 ≤ v3 then (
          kj4 (1) s) else (
          cl (M_X7_bits x1 s) fun r12 s13 =>
          rd s13 70 6 x2 fun v14 =>
          if r12 < v14 then (
            kj4 (0) s13) else (
            kj4 (1) s13)))
def M_X7_asks (s : St) : Option (Int32 × St) :=
  rd s 78 14 (1) fun v1 =>
  M_X7_asks_L9 v1 (fun s15 =>
    some (0, s15)) 400 (0) s
def M_X7_mowsOwn (a1 : Int32) (s : St) : Option (Int32 × St) :=
  rd s 78 14 (1) fun v1 =>
  cl (M_X7_has v1 a1 s) fun r2 s3 =>
  if r2 = 0 then (
    some ((0), s3)) else (
    rd s3 78 14 ((2) + a1) fun v4 =>
    if v4 = 0 then (
      some ((0), s3)) else (
      rd s3 78 14 ((2) + a1) fun v5 =>
      wr s3 78 14 ((2) + a1) (v5 - (1)) fun s6 =>
      some ((1), s6)))
def M_X7_mowsOther_L28 (x1 : Int32) (kk : St → Option (Int32 × St)) : Nat → Int32 → St → Option (Int32 × St)
  | 0, _, _ => none
  | fu + 1, x2, s =>
    if (s.1 67 0) ≤ x2 then (
      kk s) else (
      rd s 78 14 ((8) + x2) fun v6 =>
      jn (κ := St → Option (Int32 × St)) (fun s8 =>
        M_X7_mowsOther_L28 x1 kk fu (x2 + (1)) s8) fun kj7 =>
        if v6 = x1 then (
          rd s 78 14 (1) fun v9 =>
          cl (M_X7_has v9 x2 s) fun r10 s11 =>
          if r10 = 0 then (
            kj7 s11) else (
            rd s11 78 14 ((2) + x2) fun v12 =>
            if v12 ≤ 0 then (
              kj7 s11) else (
              rd s11 78 14 ((2) + x2) fun v13 =>
              wr s11 78 14 ((2) + x2) (v13 - (1)) fun s14 =>
              some ((1), s14)))) else (
          kj7 s))
def M_X7_mowsOther (a1 : Int32) (s : St) : Option (Int32 × St) :=
  rd s 78 14 (1) fun v1 =>
  cl (M_X7_has v1 a1 s) fun r2 s3 =>
  if r2 = 0 then (
    some ((0), s3)) else (
    cl (M_X7_has (s3.1 67 23) a1 s3) fun r4 s5 =>
    if r4 = 0 then (
      some ((0), s5)) else (
      M_X7_mowsOther_L28 a1 (fun s15 =>
        some ((0), s15)) 400 (0) s5))
def M_X7_goesBy_L18 (x2 : Int32) (kk : St → Option (Int32 × St)) : Nat → Int32 → St → Option (Int32 × St)
  | 0, _, _ => none
  | fu + 1, x3, s =>
    if (s.1 67 0) ≤ x3 then (
      kk s) else (
      rd s 78 14 ((2) + x3) fun v9 =>
      jn (κ := Int32 → St → Option (Int32 × St)) (fun v11 s12 =>
        pu s12 67 23 ((s.1 67 23) ||| v11) fun s13 =>
        M_X7_goesBy_L18 x2 kk fu (x3 + (1)) s13) fun kj10 =>
        if v9 = 0 then (
          kj10 ((1) <<< (x3 &&& 31)) s) else (
          kj10 (0) s))
def M_X7_goesBy_L61 (kk : Int32 → St → Option (Int32 × St)) : Nat → Int32 → Int32 → St → Option (Int32 × St)
  | 0, _, _, _ => none
  | fu + 1, x2, x3, s =>
    if (s.1 67 0) ≤ x3 then (
      kk x2 s) else (
      cl (M_X7_mowsOwn x3 s) fun r15 s16 =>
      M_X7_goesBy_L61 kk fu (x2 + r15) (x3 + (1)) s16)
def M_X7_goesBy_L85 (kk : Int32 → St → Option (Int32 × St)) : Nat → Int32 → Int32 → St → Option (Int32 × St)
  | 0, _, _, _ => none
  | fu + 1, x2, x3, s =>
    if (s.1 67 0) ≤ x3 then (
      kk x2 s) else (
      cl (M_X7_mowsOther x3 s) fun r19 s20 =>
      M_X7_goesBy_L85 kk fu (x2 + r19) (x3 + (1)) s20)
def M_X7_goesBy (a1 : Int32) (s : St) : Option (Int32 × St) :=
  cl (M_X7_asks s) fun r1 s2 =>
  jn (κ := Int32 → St → Option (Int32 × St)) (fun v4 s5 =>
    rd s5 78 14 (0) fun v6 =>
    wr s5 78 14 (0) (v6 + (1)) fun s7 =>
    some (v4, s7)) fun kj3 =>
    if a1 = (1) then (
      pu s2 67 23 (0) fun s8 =>
      M_X7_goesBy_L18 (0) (fun s14 =>
        M_X7_goesBy_L61  (fun v17 s18 =>
          M_X7_goesBy_L85  (fun v21 s22 =>
            kj3 v21 s22) 400 v17 (0) s18) 400 (0) (0) s14) 400 (0) s8) else (
      kj3 (0) s2)
def M_X7_leftAll_L4 (kk : Int32 → St → Option (Int32 × St)) : Nat → Int32 → Int32 → St → Option (Int32 × St)
  | 0, _, _, _ => none
  | fu + 1, x1, x2, s =>
    if (s.1 67 0) ≤ x2 then (
      kk x1 s) else (
      rd s 78 14 ((2) + x2) fun v1 =>
      M_X7_leftAll_L4 kk fu (x1 + v1) (x2 + (1)) s)
def M_X7_leftAll (s : St) : Option (Int32 × St) :=
  M_X7_leftAll_L4  (fun v2 s3 =>
    some (v2, s3)) 400 (0) (0) s
def M_X7_daysTillAsked_L6 (x1 : Int32) (kk : St → Option (Int32 × St)) : Nat → Int32 → St → Option (Int32 × St)
  | 0, _, _ => none
  | fu + 1, x2, s =>
    if (60) < x2 then (
      kk s) else (
      rd s 78 14 (1) fun v3 =>
      cl (M_X7_has v3 x1 s) fun r4 s5 =>
      if r4 = 0 then (
        cl (M_X7_goesBy (1) s5) fun r6 s7 =>
        M_X7_daysTillAsked_L6 x1 kk fu (x2 + (1)) s7) else (
        some (x2, s5)))
def M_X7_daysTillAsked (a1 : Int32) (s : St) : Option (Int32 × St) :=
  cl (M_X7_asItIs s) fun r1 s2 =>
  M_X7_daysTillAsked_L6 a1 (fun s8 =>
    some ((-9), s8)) 400 (0) s2
def M_X7_daysTillDone_L6 (x1 : Int32) (kk : St → Option (Int32 × St)) : Nat → Int32 → St → Option (Int32 × St)
  | 0, _, _ => none
  | fu + 1, x2, s =>
    if (60) < x2 then (
      kk s) else (
      jn (κ := Int32 → St → Option (Int32 × St)) (fun v4 s5 =>
        if v4 = 0 then (
          some (x2, s5)) else (
          cl (M_X7_goesBy (1) s5) fun r6 s7 =>
          M_X7_daysTillDone_L6 x1 kk fu (x2 + (1)) s7)) fun kj3 =>
        if 0 ≤ x1 then (
          rd s 78 14 ((2) + x1) fun v8 =>
          kj3 v8 s) else (
          cl (M_X7_leftAll s) fun r9 s10 =>
          kj3 r9 s10))
def M_X7_daysTillDone (a1 : Int32) (s : St) : Option (Int32 × St) :=
  cl (M_X7_asItIs s) fun r1 s2 =>
  M_X7_daysTillDone_L6 a1 (fun s11 =>
    some ((-9), s11)) 400 (0) s2
def M_X7_hangWith_L4 (x1 : Int32) (kk : Int32 → St → Option (Int32 × St)) : Nat → Int32 → Int32 → St → Option (Int32 × St)
  | 0, _, _, _ => none
  | fu + 1, x2, x3, s =>
    if (s.1 67 0) ≤ x3 then (
      kk x2 s) else (
      rd s 71 14 ((8) + x3) fun v1 =>
      jn (κ := Int32 → St → Option (Int32 × St)) (fun v3 s4 =>
        M_X7_hangWith_L4 x1 kk fu (x2 ||| v3) (x3 + (1)) s4) fun kj2 =>
        if v1 = x1 then (
          kj2 ((1) <<< (x3 &&& 31)) s) else (
          kj2 (0) s))
def M_X7_hangWith (a1 : Int32) (s : St) : Option (Int32 × St) :=
  M_X7_hangWith_L4 a1 (fun v5 s6 =>
    some (v5, s6)) 400 (0) (0) s
def M_X7_ring_L4 (x1 : Int32) (kk : St → Option (Int32 × St)) : Nat → Int32 → Int32 → St → Option (Int32 × St)
  | 0, _, _, _ => none
  | fu + 1, x2, x3, s =>
    if (s.1 67 0) < x3 then (
      kk s) else (
      rd s 71 14 ((8) + x2) fun v1 =>
      if v1 = x1 then (
        some (x3, s)) else (
        M_X7_ring_L4 x1 kk fu v1 (x3 + (1)) s))
def M_X7_ring (a1 : Int32) (s : St) : Option (Int32 × St) :=
  M_X7_ring_L4 a1 (fun s2 =>
    some ((0), s2)) 400 a1 (1) s
def M_X7_farmer (a1 : Int32) (a2 : Int32) (s : St) : Option (Int32 × St) :=
  cl (M_X7_isFarmer a1 s) fun r1 s2 =>
  if r1 = 0 then (
    some ((-1), s2)) else (
    if a2 = 0 then (
      rd s2 68 6 a1 fun v3 =>
      some (v3, s2)) else if a2 = 1 then (
      rd s2 71 14 ((2) + a1) fun v5 =>
      some (v5, s2)) else if a2 = 2 then (
      rd s2 69 6 a1 fun v7 =>
      some (v7, s2)) else if a2 = 3 then (
      rd s2 70 6 a1 fun v9 =>
      some (v9, s2)) else if a2 = 4 then (
      rd s2 71 14 ((8) + a1) fun v11 =>
      some (v11, s2)) else if a2 = 5 then (
      rd s2 71 14 (1) fun v13 =>
      some (((v13 >>> (a1 &&& 31)) &&& (1)), s2)) else if a2 = 6 then (
      cl (M_X7_hangWith a1 s2) fun r15 s16 =>
      some (r15, s16)) else if a2 = 7 then (
      cl (M_X7_ring a1 s2) fun r18 s19 =>
      some (r18, s19)) else if a2 = 8 then (
      cl (M_X7_daysTillAsked a1 s2) fun r21 s22 =>
      some (r21, s22)) else if a2 = 9 then (
      cl (M_X7_daysTillDone a1 s2) fun r24 s25 =>
      some (r24, s25)) else (
      some ((-1), s2)))
def M_X7_now (a1 : Int32) (s : St) : Option (Int32 × St) :=
  cl (M_X7_asItIs s) fun r1 s2 =>
  if a1 = 0 then (
    rd s2 71 14 (0) fun v3 =>
    some (v3, s2)) else if a1 = 1 then (
    rd s2 71 14 (1) fun v5 =>
    some (v5, s2)) else if a1 = 2 then (
    cl (M_X7_leftAll s2) fun r7 s8 =>
    some (r7, s8)) else if a1 = 3 then (
    cl (M_X7_daysTillDone (-1) s2) fun r10 s11 =>
    some (r10, s11)) else if a1 = 4 then (
    some ((s2.1 67 6), s2)) else (
    some ((-1), s2))
def M_X7_remembers_L11 (kk : St → Option (Int32 × St)) : Nat → Int32 → St → Option (Int32 × St)
  | 0, _, _ => none
  | fu + 1, x1, s =>
    if (126) ≤ x1 then (
      kk s) else (
      rd s 72 140 (x1 + (14)) fun v6 =>
      wr s 72 140 x1 v6 fun s7 =>
      M_X7_remembers_L11 kk fu (x1 + (1)) s7)
def M_X7_remembers (s : St) : Option (Int32 × St) :=
  jn (κ := St → Option (Int32 × St)) (fun s2 =>
    cl (M_X7_copy 72 71 ((14) * (s2.1 67 6)) (0) s2) fun r3 s4 =>
    pu s4 67 6 ((s4.1 67 6) + (1)) fun s5 =>
    some (0, s5)) fun kj1 =>
    if (s.1 67 6) = (10) then (
      M_X7_remembers_L11  (fun s8 =>
        pu s8 67 6 ((s8.1 67 6) - (1)) fun s9 =>
        kj1 s9) 400 (0) s) else (
      kj1 s)
def M_X7_day (a1 : Int32) (s : St) : Option (Int32 × St) :=
  cl (M_X7_in a1 (0) (1) s) fun r1 s2 =>
  if r1 = 0 then (
    some ((-1), s2)) else (
    rd s2 71 14 (0) fun v3 =>
    if v3 = (999) then (
      some ((-2), s2)) else (
      cl (M_X7_remembers s2) fun r4 s5 =>
      cl (M_X7_asItIs s5) fun r6 s7 =>
      cl (M_X7_goesBy a1 s7) fun r8 s9 =>
      cl (M_X7_copy 71 78 (0) (0) s9) fun r10 s11 =>
      some (r8, s11)))
def M_X7_brings (a1 : Int32) (s : St) : Option (Int32 × St) :=
  cl (M_X7_isFarmer a1 s) fun r1 s2 =>
  if r1 = 0 then (
    some ((-1), s2)) else (
    rd s2 71 14 (1) fun v3 =>
    cl (M_X7_has v3 a1 s2) fun r4 s5 =>
    if r4 = 0 then (
      cl (M_X7_remembers s5) fun r6 s7 =>
      rd s7 71 14 (1) fun v8 =>
      wr s7 71 14 (1) (v8 ||| ((1) <<< (a1 &&& 31))) fun s9 =>
      rd s9 71 14 (1) fun v10 =>
      cl (M_X7_bits v10 s9) fun r11 s12 =>
      some (r11, s12)) else (
      some ((-2), s5)))
def M_X7_hangs (a1 : Int32) (a2 : Int32) (s : St) : Option (Int32 × St) :=
  cl (M_X7_isFarmer a1 s) fun r1 s2 =>
  if r1 = 0 then (
    some ((-1), s2)) else (
    cl (M_X7_isFarmer a2 s2) fun r3 s4 =>
    if r3 = 0 then (
      some ((-1), s4)) else (
      if a1 = a2 then (
        some ((-1), s4)) else (
        rd s4 71 14 ((8) + a1) fun v5 =>
        rd s4 71 14 (1) fun v6 =>
        cl (M_X7_has v6 a1 s4) fun r7 s8 =>
        if r7 = 0 then (
          if v5 = a2 then (
            some ((-2), s8)) else (
            cl (M_X7_remembers s8) fun r9 s10 =>
            wr s10 71 14 ((8) + a1) a2 fun s11 =>
            some (v5, s11))) else (
          some ((-2), s8)))))
def M_X7_undo (s : St) : Option (Int32 × St) :=
  if (s.1 67 6) = 0 then (
    some ((-2), s)) else (
    pu s 67 6 ((s.1 67 6) - (1)) fun s1 =>
    cl (M_X7_copy 71 72 (0) ((14) * (s1.1 67 6)) s1) fun r2 s3 =>
    some ((s3.1 67 6), s3))
def M_X7_allAskedBy_L16 (x2 : Int32) (kk : St → Option (Int32 × St)) : Nat → Int32 → St → Option (Int32 × St)
  | 0, _, _ => none
  | fu + 1, x3, s =>
    if x2 ≤ x3 then (
      kk s) else (
      cl (M_X7_goesBy (1) s) fun r5 s6 =>
      M_X7_allAskedBy_L16 x2 kk fu (x3 + (1)) s6)
def M_X7_allAskedBy (a1 : Int32) (a2 : Int32) (s : St) : Option (Int32 × St) :=
  cl (M_X7_asItIs s) fun r1 s2 =>
  rd s2 78 14 (1) fun v3 =>
  wr s2 78 14 (1) (v3 ||| a1) fun s4 =>
  M_X7_allAskedBy_L16 a2 (fun s7 =>
    rd s7 78 14 (1) fun v8 =>
    if v8 = (((1) <<< ((s7.1 67 0) &&& 31)) - (1)) then (
      some (1, s7)) else (
      some (0, s7))) 400 (0) s4
def M_X7_start_L32 (x1 : Int32) (kk : Int32 → St → Option (Int32 × St)) : Nat → Int32 → Int32 → St → Option (Int32 × St)
  | 0, _, _, _ => none
  | fu + 1, x2, x3, s =>
    if ((1) <<< ((s.1 67 0) &&& 31)) ≤ x3 then (
      kk x2 s) else (
      cl (M_X7_bits x3 s) fun r4 s5 =>
      cl (M_X7_bits x2 s5) fun r6 s7 =>
      jn (κ := Int32 → St → Option (Int32 × St)) (fun v9 s10 =>
        jn (κ := Int32 → St → Option (Int32 × St)) (fun v12 s13 =>
          M_X7_start_L32 x1 kk fu v12 (x3 + (1)) s13) fun kj11 =>
          if v9 = 0 then (
            kj11 x2 s10) else (
            rd s10 71 14 (1) fun v14 =>
            if (x3 &&& v14) = 0 then (
              cl (M_X7_allAskedBy x3 x1 s10) fun r15 s16 =>
              if r15 = 0 then (
                kj11 x2 s16) else (
                kj11 x3 s16)) else (
              kj11 x2 s10))) fun kj8 =>
        if (r4 - r6) < 0 then (
          kj8 (1) s7) else (
          if (r4 - r6) = 0 then (
            if x2 ≤ x3 then (
              kj8 (0) s7) else (
              kj8 (1) s7)) else (
            kj8 (0) s7)))
def M_X7_start (a1 : Int32) (s : St) : Option (Int32 × St) :=
  cl (M_X7_in a1 (0) (20) s) fun r1 s2 =>
  if r1 = 0 then (
    some ((-1), s2)) else (
    rd s2 71 14 (1) fun v3 =>
    M_X7_start_L32 a1 (fun v17 s18 =>
      some (v17, s18)) 400 ((((1) <<< ((s2.1 67 0) &&& 31)) - (1)) &&& (v3 ^^^ (-1))) (0) s2)
def M_X7_far (a0 : Int32) (a1 : Int32) (s : St) : Option (Int32 × St) :=
  if a1 ≤ a0 then (
    some ((a0 - a1), s)) else (
    some ((a1 - a0), s))
def M_X7_farBy_L18 (kk : Int32 → Int32 → St → Option (Int32 × St)) : Nat → Int32 → Int32 → Int32 → Int32 → Int32 → St → Option (Int32 × St)
  | 0, _, _, _, _, _, _ => none
  | fu + 1, x2, x3, x4, x5, x6, s =>
    if x6 < 0 then (
      kk x4 x5 s) else (
      dv (6) <|
      dv (6) <|
      wr s 79 6 x6 (x2 - x2 / (6) * (6)) fun s1 =>
      jn (κ := Int32 → St → Option (Int32 × St)) (fun v3 s4 =>
        jn (κ := Int32 → St → Option (Int32 × St)) (fun v6 s7 =>
          M_X7_farBy_L18 kk fu (x2 / (6)) (x3 ||| ((1) <<< ((x2 - x2 / (6) * (6)) &&& 31))) (x4 + v6) v3 (x6 + (-1)) s7) fun kj5 =>
          if v3 = 0 then (
            kj5 (0) s4) else (
            rd s4 68 6 x6 fun v8 =>
            rd s4 68 6 (x2 - x2 / (6) * (6)) fun v9 =>
            cl (M_X7_far v8 v9 s4) fun r10 s11 =>
            kj5 r10 s11)) fun kj2 =>
        if x5 = 0 then (
          kj2 (0) s1) else (
          cl (M_X7_isFarmer (x2 - x2 / (6) * (6)) s1) fun r12 s13 =>
          if r12 = 0 then (
            kj2 (0) s13) else (
            if (x2 - x2 / (6) * (6)) = x6 then (
              kj2 (0) s13) else (
              cl (M_X7_has x3 (x2 - x2 / (6) * (6)) s13) fun r14 s15 =>
              if r14 = 0 then (
                kj2 (1) s15) else (
                kj2 (0) s15)))))
def M_X7_farBy (a1 : Int32) (s : St) : Option (Int32 × St) :=
  M_X7_farBy_L18  (fun v16 v17 s18 =>
    if v17 = 0 then (
      some ((-1), s18)) else (
      some (v16, s18))) 400 a1 (0) (0) (1) ((s.1 67 0) - (1)) s
def M_X7_hang_L20 (x1 : Int32) (kk : Int32 → St → Option (Int32 × St)) : Nat → Int32 → Int32 → St → Option (Int32 × St)
  | 0, _, _, _ => none
  | fu + 1, x2, x3, s =>
    if (s.1 67 0) ≤ x3 then (
      kk x2 s) else (
      M_X7_hang_L20 x1 kk fu (x2 * (6)) (x3 + (1)) s)
def M_X7_hang_L48 (x1 : Int32) (x2 : Int32) (kk : Int32 → Int32 → St → Option (Int32 × St)) : Nat → Int32 → Int32 → Int32 → St → Option (Int32 × St)
  | 0, _, _, _, _ => none
  | fu + 1, x3, x4, x5, s =>
    if x2 ≤ x5 then (
      kk x3 x4 s) else (
      if (s.1 67 0) ≤ 0 then (
        kk x3 x4 s) else (
        cl (M_X7_farBy x5 s) fun r5 s6 =>
        jn (κ := Int32 → St → Option (Int32 × St)) (fun v8 s9 =>
          jn (κ := Int32 → St → Option (Int32 × St)) (fun v11 s12 =>
            jn (κ := Int32 → St → Option (Int32 × St)) (fun v14 s15 =>
              M_X7_hang_L48 x1 x2 kk fu v14 v11 (x5 + (1)) s15) fun kj13 =>
              if v8 = 0 then (
                kj13 x3 s12) else (
                kj13 r5 s12)) fun kj10 =>
            if v8 = 0 then (
              kj10 x4 s9) else (
              kj10 x5 s9)) fun kj7 =>
          if r5 < 0 then (
            kj7 (0) s6) else (
            if x3 < 0 then (
              kj7 (1) s6) else (
              if x3 ≤ r5 then (
                kj7 (0) s6) else (
                kj7 (1) s6)))))
def M_X7_hang (a1 : Int32) (s : St) : Option (Int32 × St) :=
  cl (M_X7_in a1 (-1) ((s.1 67 0) - (1)) s) fun r1 s2 =>
  if r1 = 0 then (
    some ((-1), s2)) else (
    M_X7_hang_L20 a1 (fun v3 s4 =>
      M_X7_hang_L48 a1 v3 (fun v16 v17 s18 =>
        if 0 ≤ a1 then (
          cl (M_X7_farBy v17 s18) fun r19 s20 =>
          rd s20 79 6 a1 fun v21 =>
          some (v21, s20)) else (
          some (v16, s18))) 50000 (-9) (0) (0) s4) 400 (1) (0) s2)
def M_X7_lowest_L5 (x0 : Int32) (x1 : Int32) (x2 : Int32) (kk : Int32 → St → Option (Int32 × St)) : Nat → Int32 → Int32 → St → Option (Int32 × St)
  | 0, _, _, _ => none
  | fu + 1, x3, x4, s =>
    if x4 ≤ 0 then (
      kk x3 s) else (
      dv x4 <|
      M_X7_lowest_L5 x0 x1 x2 kk fu x4 (x3 - x3 / x4 * x4) s)
def M_X7_lowest (a0 : Int32) (a1 : Int32) (a2 : Int32) (s : St) : Option (Int32 × St) :=
  M_X7_lowest_L5 a0 a1 a2 (fun v1 s2 =>
    if a2 = 0 then (
      dv v1 <|
      some ((a0 / v1), s2)) else (
      dv v1 <|
      some ((a1 / v1), s2))) 400 a0 a1 s
def M_X7_odds_L49 (x1 : Int32) (x2 : Int32) (x3 : Int32) (x4 : Int32) (x5 : Int32) (kk : Int32 → St → Option (Int32 × St)) : Nat → Int32 → Int32 → St → Option (Int32 × St)
  | 0, _, _, _ => none
  | fu + 1, x6, x7, s =>
    if x3 ≤ x7 then (
      kk x6 s) else (
      M_X7_odds_L49 x1 x2 x3 x4 x5 kk fu (x6 * (10)) (x7 + (1)) s)
def M_X7_odds_L85 (x1 : Int32) (x2 : Int32) (x3 : Int32) (x4 : Int32) (x5 : Int32) (x6 : Int32) (x7 : Int32) (kk : Int32 → St → Option (Int32 × St)) : Nat → Int32 → Int32 → St → Option (Int32 × St)
  | 0, _, _, _ => none
  | fu + 1, x8, x9, s =>
    if x3 ≤ x9 then (
      kk x8 s) else (
      cl (M_X7_has x7 x9 s) fun r11 s12 =>
      jn (κ := Int32 → St → Option (Int32 × St)) (fun v14 s15 =>
        M_X7_odds_L85 x1 x2 x3 x4 x5 x6 x7 kk fu (x8 * v14) (x9 + (1)) s15) fun kj13 =>
        if r11 = 0 then (
          kj13 ((10) - x2) s12) else (
          kj13 x2 s12))
def M_X7_odds_L71 (x1 : Int32) (x2 : Int32) (x3 : Int32) (x4 : Int32) (x6 : Int32) (kk : Int32 → St → Option (Int32 × St)) : Nat → Int32 → Int32 → St → Option (Int32 × St)
  | 0, _, _, _ => none
  | fu + 1, x5, x7, s =>
    if ((1) <<< (x3 &&& 31)) ≤ x7 then (
      kk x5 s) else (
      M_X7_odds_L85 x1 x2 x3 x4 x5 x6 x7 (fun v16 s17 =>
        cl (M_X7_bits x7 s17) fun r18 s19 =>
        rd s19 71 14 ((2) + x1) fun v20 =>
        jn (κ := Int32 → St → Option (Int32 × St)) (fun v22 s23 =>
          M_X7_odds_L71 x1 x2 x3 x4 x6 kk fu (x5 + v22) (x7 + (1)) s23) fun kj21 =>
          if r18 < v20 then (
            kj21 (0) s19) else (
            kj21 v16 s19)) 400 (1) (0) s)
def M_X7_odds (a1 : Int32) (a2 : Int32) (a3 : Int32) (a4 : Int32) (s : St) : Option (Int32 × St) :=
  cl (M_X7_isFarmer a1 s) fun r1 s2 =>
  if r1 = 0 then (
    some ((-1), s2)) else (
    cl (M_X7_in a2 (0) (10) s2) fun r3 s4 =>
    if r3 = 0 then (
      some ((-1), s4)) else (
      cl (M_X7_in a3 (0) (8) s4) fun r5 s6 =>
      if r5 = 0 then (
        some ((-1), s6)) else (
        cl (M_X7_in a4 (0) (1) s6) fun r7 s8 =>
        if r7 = 0 then (
          some ((-1), s8)) else (
          M_X7_odds_L49 a1 a2 a3 a4 (0) (fun v9 s10 =>
            M_X7_odds_L71 a1 a2 a3 a4 v9 (fun v24 s25 =>
              cl (M_X7_lowest v24 v9 a4 s25) fun r26 s27 =>
              some (r26, s27)) 400 (0) (0) s10) 400 (1) (0) s8))))
def M_X7_sees (a1 : Int32) (a2 : Int32) (a3 : Int32) (s : St) : Option (Int32 × St) :=
  cl (M_X7_in a1 (0) (20) s) fun r1 s2 =>
  if r1 = 0 then (
    some ((-1), s2)) else (
    cl (M_X7_in a2 (0) (6) s2) fun r3 s4 =>
    if r3 = 0 then (
      some ((-1), s4)) else (
      cl (M_X7_in a3 (0) (1) s4) fun r5 s6 =>
      if r5 = 0 then (
        some ((-1), s6)) else (
        if (s6.1 67 9) = (6) then (
          some ((-3), s6)) else (
          wr s6 75 18 ((3) * (s6.1 67 9)) a1 fun s7 =>
          wr s7 75 18 (((3) * (s7.1 67 9)) + (1)) a2 fun s8 =>
          wr s8 75 18 (((3) * (s8.1 67 9)) + (2)) a3 fun s9 =>
          pu s9 67 9 ((s9.1 67 9) + (1)) fun s10 =>
          some ((s10.1 67 9), s10)))))
def M_X7_forget (s : St) : Option (Int32 × St) :=
  pu s 67 9 (0) fun s1 =>
  some ((s.1 67 9), s1)
def M_X7_hadAsked (a0 : Int32) (a1 : Int32) (a2 : Int32) (a3 : Int32) (s : St) : Option (Int32 × St) :=
  if a0 ≤ a2 then (
    some (1, s)) else (
    if a3 < a1 then (
      some (0, s)) else (
      some (1, s)))
def M_X7_isSo_L5 (x1 : Int32) (x2 : Int32) (kk : Int32 → St → Option (Int32 × St)) : Nat → Int32 → Int32 → St → Option (Int32 × St)
  | 0, _, _, _ => none
  | fu + 1, x3, x4, s =>
    if (s.1 67 9) ≤ x4 then (
      kk x3 s) else (
      jn (κ := Int32 → St → Option (Int32 × St)) (fun v2 s3 =>
        M_X7_isSo_L5 x1 x2 kk fu v2 (x4 + (1)) s3) fun kj1 =>
        if x3 = 0 then (
          kj1 (0) s) else (
          rd s 75 18 ((3) * x4) fun v4 =>
          rd s 75 18 (((3) * x4) + (1)) fun v5 =>
          cl (M_X7_hadAsked x1 x2 v4 v5 s) fun r6 s7 =>
          rd s7 75 18 (((3) * x4) + (2)) fun v8 =>
          jn (κ := Int32 → St → Option (Int32 × St)) (fun v10 s11 =>
            if r6 = v10 then (
              kj1 (1) s11) else (
              kj1 (0) s11)) fun kj9 =>
            if v8 = (1) then (
              kj9 (1) s7) else (
              kj9 (0) s7)))
def M_X7_isSo (a1 : Int32) (a2 : Int32) (s : St) : Option (Int32 × St) :=
  M_X7_isSo_L5 a1 a2 (fun v12 s13 =>
    rz v12 s13) 400 (1) (0) s
def M_X7_ones_L33 (x1 : Int32) (x5 : Int32) (kk : Int32 → Int32 → Int32 → St → Option (Int32 × St)) : Nat → Int32 → Int32 → Int32 → Int32 → St → Option (Int32 × St)
  | 0, _, _, _, _, _ => none
  | fu + 1, x2, x3, x4, x6, s =>
    if (6) < x6 then (
      kk x2 x3 x4 s) else (
      cl (M_X7_isSo x5 x6 s) fun r3 s4 =>
      jn (κ := Int32 → Int32 → Int32 → St → Option (Int32 × St)) (fun v6 v7 v8 s9 =>
        M_X7_ones_L33 x1 x5 kk fu v6 v7 v8 (x6 + (1)) s9) fun kj5 =>
        if r3 = 0 then (
          kj5 x2 x3 x4 s4) else (
          jn (κ := Int32 → St → Option (Int32 × St)) (fun v11 s12 =>
            kj5 (x2 + (1)) v11 x5 s12) fun kj10 =>
            if x2 = 0 then (
              kj10 x5 s4) else (
              kj10 x3 s4)))
def M_X7_ones_L23 (x1 : Int32) (kk : Int32 → Int32 → Int32 → St → Option (Int32 × St)) : Nat → Int32 → Int32 → Int32 → Int32 → St → Option (Int32 × St)
  | 0, _, _, _, _, _ => none
  | fu + 1, x2, x3, x4, x5, s =>
    if (20) < x5 then (
      kk x2 x3 x4 s) else (
      M_X7_ones_L33 x1 x5 (fun v13 v14 v15 s16 =>
        M_X7_ones_L23 x1 kk fu v13 v14 v15 (x5 + (1)) s16) 400 x2 x3 x4 (0) s)
def M_X7_ones (a1 : Int32) (s : St) : Option (Int32 × St) :=
  cl (M_X7_in a1 (0) (2) s) fun r1 s2 =>
  if r1 = 0 then (
    some ((-1), s2)) else (
    M_X7_ones_L23 a1 (fun v17 v18 v19 s20 =>
      if a1 = 0 then (
        some (v17, s20)) else (
        if a1 = (1) then (
          some (v18, s20)) else (
          some (v19, s20)))) 400 (0) (-9) (-9) (0) s2)
def M_X7_look_L57 (x1 : Int32) (x2 : Int32) (x3 : Int32) (x4 : Int32) (x5 : Int32) (x7 : Int32) (kk : Int32 → St → Option (Int32 × St)) : Nat → Int32 → Int32 → St → Option (Int32 × St)
  | 0, _, _, _ => none
  | fu + 1, x6, x8, s =>
    if (6) < x8 then (
      kk x6 s) else (
      cl (M_X7_isSo x7 x8 s) fun r5 s6 =>
      jn (κ := Int32 → St → Option (Int32 × St)) (fun v8 s9 =>
        M_X7_look_L57 x1 x2 x3 x4 x5 x7 kk fu (x6 + v8) (x8 + (1)) s9) fun kj7 =>
        if r5 = 0 then (
          kj7 (0) s6) else (
          cl (M_X7_hadAsked x7 x8 x1 x5 s6) fun r10 s11 =>
          if r10 = 0 then (
            kj7 (0) s11) else (
            kj7 (1) s11)))
def M_X7_look_L47 (x1 : Int32) (x2 : Int32) (x3 : Int32) (x4 : Int32) (x5 : Int32) (kk : Int32 → St → Option (Int32 × St)) : Nat → Int32 → Int32 → St → Option (Int32 × St)
  | 0, _, _, _ => none
  | fu + 1, x6, x7, s =>
    if (20) < x7 then (
      kk x6 s) else (
      M_X7_look_L57 x1 x2 x3 x4 x5 x7 (fun v12 s13 =>
        M_X7_look_L47 x1 x2 x3 x4 x5 kk fu v12 (x7 + (1)) s13) 400 x6 (0) s)
def M_X7_look_L29 (x1 : Int32) (x2 : Int32) (kk : Int32 → St → Option (Int32 × St)) : Nat → Int32 → Int32 → Int32 → St → Option (Int32 × St)
  | 0, _, _, _, _ => none
  | fu + 1, x3, x4, x5, s =>
    if (6) < x5 then (
      kk x3 s) else (
      if x2 ≤ (1) then (
        kk x3 s) else (
        M_X7_look_L47 x1 x2 x3 x4 x5 (fun v14 s15 =>
          jn (κ := Int32 → St → Option (Int32 × St)) (fun v17 s18 =>
            jn (κ := Int32 → St → Option (Int32 × St)) (fun v20 s21 =>
              jn (κ := Int32 → St → Option (Int32 × St)) (fun v23 s24 =>
                M_X7_look_L29 x1 x2 kk fu v20 v23 (x5 + (1)) s24) fun kj22 =>
                if x4 ≤ v17 then (
                  kj22 x4 s21) else (
                  kj22 v17 s21)) fun kj19 =>
              if x4 ≤ v17 then (
                kj19 x3 s18) else (
                kj19 x5 s18)) fun kj16 =>
            if v14 ≤ (x2 - v14) then (
              kj16 (x2 - v14) s15) else (
              kj16 v14 s15)) 400 (0) (0) s))
def M_X7_look (a1 : Int32) (s : St) : Option (Int32 × St) :=
  cl (M_X7_in a1 (0) (20) s) fun r1 s2 =>
  if r1 = 0 then (
    some ((-1), s2)) else (
    cl (M_X7_ones (0) s2) fun r3 s4 =>
    M_X7_look_L29 a1 r3 (fun v25 s26 =>
      some (v25, s26)) 400 (-9) (r3 + (1)) (0) s4)
def M_X7_rate (a1 : Int32) (a2 : Int32) (s : St) : Option (Int32 × St) :=
  cl (M_X7_in a1 (0) (5) s) fun r1 s2 =>
  if r1 = 0 then (
    some ((-1000000), s2)) else (
    cl (M_X7_isFarmer a2 s2) fun r3 s4 =>
    if r3 = 0 then (
      some ((-1000000), s4)) else (
      rd s4 71 14 ((2) + a2) fun v5 =>
      cl (M_X7_hangWith a2 s4) fun r6 s7 =>
      cl (M_X7_bits r6 s7) fun r8 s9 =>
      rd s9 69 6 a2 fun v10 =>
      if a1 = 1 then (
        puL s9 67 ((s9.2 67) + (11)) fun s11 =>
        some ((v5 + r8), s11)) else if a1 = 2 then (
        puL s9 67 ((s9.2 67) + (101)) fun s13 =>
        some ((v5 - v10), s13)) else if a1 = 3 then (
        puL s9 67 ((s9.2 67) + (1011)) fun s15 =>
        some (((2) * (v5 + r8)), s15)) else if a1 = 4 then (
        puL s9 67 ((s9.2 67) + (10101)) fun s17 =>
        some (((v5 - v10) + a2), s17)) else if a1 = 5 then (
        puL s9 67 ((s9.2 67) + (100001)) fun s19 =>
        rd s19 71 14 (0) fun v20 =>
        some ((v5 + v20), s19)) else (
        puL s9 67 ((s9.2 67) + (1)) fun s22 =>
        some (v5, s22))))
def M_X7_keep (a1 : Int32) (s : St) : Option (Int32 × St) :=
  cl (M_X7_in a1 (0) (1) s) fun r1 s2 =>
  if r1 = 0 then (
    some ((-1), s2)) else (
    cl (M_X7_copy 73 71 ((14) * a1) (0) s2) fun r3 s4 =>
    wr s4 74 2 a1 (vp_nar .boolean (1)) fun s5 =>
    rd s5 71 14 (0) fun v6 =>
    some (v6, s5))
def M_X7_back (a1 : Int32) (s : St) : Option (Int32 × St) :=
  cl (M_X7_in a1 (0) (1) s) fun r1 s2 =>
  if r1 = 0 then (
    some ((-1), s2)) else (
    rd s2 74 2 a1 fun v3 =>
    if v3 = 0 then (
      some ((-2), s2)) else (
      cl (M_X7_copy 71 73 (0) ((14) * a1) s2) fun r4 s5 =>
      pu s5 67 6 (0) fun s6 =>
      rd s6 71 14 (0) fun v7 =>
      some (v7, s6)))
def M_X7_count (a1 : Int32) (s : St) : Option (Int32 × St) :=
  if a1 = 0 then (
    some ((s.1 67 0), s)) else (
    if a1 = (1) then (
      some ((s.1 67 9), s)) else (
      if a1 = (2) then (
        some ((s.1 67 13), s)) else (
        some ((-1), s))))
end
section
theorem hyX0_hangFrom : yX0_hangFrom.cls ≠ "java/lang/invoke/MethodHandle" ∧ yX0_hangFrom.cls ≠ "java/lang/invoke/VarHandle" ∧ (parseMethodDescriptor yX0_hangFrom.desc).map (fun d => d.parameters.length) = some 4 := by decide +kernel
set_option maxRecDepth 20000 in
set_option maxHeartbeats 4000000 in
theorem tM_X0_hangFrom_L50 {X : Cx} (dd : Nat) (K : Ok X cX0_hangFrom RX0 6 (dd + 2)) (hR : RV X cX0_hangFrom) (x1 : Int32) (x2 : Int32) (x3 : Int32) (rec : Int32 → Int32 → Int32 → St → Option (Int32 × St)) (hrec : ∀ (a1 : Int32) (a2 : Int32) (a3 : Int32), Con X.E yX0_hangFrom cX0_hangFrom 6 none (dd + 1) [.ref (X.B + 61), .int a1, .int a2, .int a3] (rec a1 a2 a3)) (kk : St → Option (Int32 × St)) (hkk : ∀ (s : St), G X 133 [.null, .null, .null, .null, .null, .null] [] s (kk s)) : ∀ (fu : Nat) (x4 : Int32) (s : St), G X 50 [.ref (X.B + 61), .int x1, .int x2, .int x3, .int x4, .null] [] s (M_X0_hangFrom_L50 x1 x2 x3 rec kk fu x4 s) := by
  intro fu
  induction fu with
  | zero => intro x4 s; exact g_none
  | succ fu ih =>
    intro x4 s
    rw [M_X0_hangFrom_L50]
    refine g_iload (pc := 50) K dX0_hangFrom_50 rfl ?_
    refine g_aload_n (pc := 52) K 0 dX0_hangFrom_52 rfl rfl ?_
    refine gg_0_0 (pc := 53) K (by decide) kd_61 kX0_18 dX0_hangFrom_53 ?_
    refine gg_1_0 (pc := 56) K (by decide) kd_9 kX0_30 dX0_hangFrom_56 ?_
    refine g_icmp_ge (pc := 59) K 133 dX0_hangFrom_59 (by decide) ?_ ?_
    · exact g_wk (hkk  s) trivial
    · refine g_iload (pc := 62) K dX0_hangFrom_62 rfl ?_
      refine g_iload_n (pc := 64) K 1 dX0_hangFrom_64 rfl rfl ?_
      refine g_jn (κ := St → Option (Int32 × St)) (fun kj5 => ∀ (s6 : St), G X 127 [.ref (X.B + 61), .int x1, .int x2, .int x3, .int x4, .null] [] s6 (kj5 s6)) (fun s6 => ?_) (fun kj5 hkj5 => ?_)
      · refine g_iinc (pc := 127) K (1) dX0_hangFrom_127 rfl (by decide) (by decide) ?_
        change G X 130 [.ref (X.B + 61), .int x1, .int x2, .int x3, .int (x4 + (1)), .null] [] s6 _
        refine g_goto (pc := 130) K 50 dX0_hangFrom_130 (by decide) ?_
        exact g_wk (ih (x4 + (1)) s6) ⟨rfl, ⟨rfl, ⟨rfl, ⟨rfl, ⟨rfl, trivial⟩⟩⟩⟩⟩
      · refine g_icmp_eq (pc := 65) K 127 dX0_hangFrom_65 (by decide) ?_ ?_
        · exact g_wk (hkj5  s) ⟨rfl, ⟨rfl, ⟨rfl, ⟨rfl, ⟨rfl, trivial⟩⟩⟩⟩⟩
        · refine g_iload_n (pc := 68) K 2 dX0_hangFrom_68 rfl rfl ?_
          refine g_iload (pc := 69) K dX0_hangFrom_69 rfl ?_
          refine g_ishr (pc := 71) K dX0_hangFrom_71 ?_
          refine g_iconst (pc := 72) K (1) dX0_hangFrom_72 (by decide) ?_
          refine g_iand (pc := 73) K dX0_hangFrom_73 ?_
          refine g_if_ne (pc := 74) K 127 dX0_hangFrom_74 (by decide) ?_ ?_
          · exact g_wk (hkj5  s) ⟨rfl, ⟨rfl, ⟨rfl, ⟨rfl, ⟨rfl, trivial⟩⟩⟩⟩⟩
          · refine g_aload_n (pc := 77) K 0 dX0_hangFrom_77 rfl rfl ?_
            refine gg_0_3 (pc := 78) K (by decide) kd_61 kX0_15 dX0_hangFrom_78 ?_
            refine g_iload_n (pc := 81) K 1 dX0_hangFrom_81 rfl rfl ?_
            refine g_iload (pc := 82) K dX0_hangFrom_82 rfl ?_
            refine g_iastore (pc := 84) K (by decide) kd_63 ln_63 dX0_hangFrom_84 (fun s7 => ?_)
            refine g_aload_n (pc := 85) K 0 dX0_hangFrom_85 rfl rfl ?_
            refine gg_0_0 (pc := 86) K (by decide) kd_61 kX0_18 dX0_hangFrom_86 ?_
            refine gg_1_1 (pc := 89) K (by decide) kd_9 kX0_41 dX0_hangFrom_89 10 rfl ?_
            refine g_iload_n (pc := 92) K 1 dX0_hangFrom_92 rfl rfl ?_
            refine g_iaload (pc := 93) K (by decide) kd_10 ln_10 dX0_hangFrom_93 (fun v8 => ?_)
            refine g_aload_n (pc := 94) K 0 dX0_hangFrom_94 rfl rfl ?_
            refine gg_0_0 (pc := 95) K (by decide) kd_61 kX0_18 dX0_hangFrom_95 ?_
            refine gg_1_1 (pc := 98) K (by decide) kd_9 kX0_41 dX0_hangFrom_98 10 rfl ?_
            refine g_iload (pc := 101) K dX0_hangFrom_101 rfl ?_
            refine g_iaload (pc := 103) K (by decide) kd_10 ln_10 dX0_hangFrom_103 (fun v9 => ?_)
            refine g_isub (pc := 104) K dX0_hangFrom_104 ?_
            refine g_mabs (pc := 105) K (by omega) kX0_44 (Nat.le_of_ble_eq_true rfl) dX0_hangFrom_105 ?_
            refine g_istore (pc := 108) K dX0_hangFrom_108 (by decide) ?_
            change G X 110 [.ref (X.B + 61), .int x1, .int x2, .int x3, .int x4, .int (if 0 ≤ (v8 - v9) then (v8 - v9) else 0 - (v8 - v9))] [] s7 _
            refine g_aload_n (pc := 110) K 0 dX0_hangFrom_110 rfl rfl ?_
            refine g_iload_n (pc := 111) K 1 dX0_hangFrom_111 rfl rfl ?_
            refine g_iconst (pc := 112) K (1) dX0_hangFrom_112 (by decide) ?_
            refine g_iadd (pc := 113) K dX0_hangFrom_113 ?_
            refine g_iload_n (pc := 114) K 2 dX0_hangFrom_114 rfl rfl ?_
            refine g_iconst (pc := 115) K (1) dX0_hangFrom_115 (by decide) ?_
            refine g_iload (pc := 116) K dX0_hangFrom_116 rfl ?_
            refine g_ishl (pc := 118) K dX0_hangFrom_118 ?_
            refine g_ior (pc := 119) K dX0_hangFrom_119 ?_
            refine g_iload_n (pc := 120) K 3 dX0_hangFrom_120 rfl rfl ?_
            refine g_iload (pc := 121) K dX0_hangFrom_121 rfl ?_
            refine g_iadd (pc := 123) K dX0_hangFrom_123 ?_
            refine g_callS (pc := 124) (S := []) K (hrec (x1 + (1)) (x2 ||| ((1) <<< (x4 &&& 31))) (x3 + (if 0 ≤ (v8 - v9) then (v8 - v9) else 0 - (v8 - v9)))) (by omega) (by decide) wcX0_hangFrom wiX0 kX0_26 wtX0_hangFrom hyX0_hangFrom rfl rfl (Nat.le_of_ble_eq_true rfl) dX0_hangFrom_124 (fun r10 s11 => ?_)
            change G X 127 [.ref (X.B + 61), .int x1, .int x2, .int x3, .int x4, .int (if 0 ≤ (v8 - v9) then (v8 - v9) else 0 - (v8 - v9))] [] s11 _
            exact g_wk (hkj5  s11) ⟨rfl, ⟨rfl, ⟨rfl, ⟨rfl, ⟨rfl, trivial⟩⟩⟩⟩⟩
set_option maxRecDepth 20000 in
set_option maxHeartbeats 4000000 in
theorem tX0_hangFrom {X : Cx} (dd : Nat) (K : Ok X cX0_hangFrom RX0 6 (dd + 2)) (hR : RV X cX0_hangFrom) (fu : Nat) (hrec : ∀ (a1 : Int32) (a2 : Int32) (a3 : Int32), Con X.E yX0_hangFrom cX0_hangFrom 6 none (dd + 1) [.ref (X.B + 61), .int a1, .int a2, .int a3] (M_X0_hangFrom fu a1 a2 a3)) (a1 : Int32) (a2 : Int32) (a3 : Int32) (s : St) : G X 0 [.ref (X.B + 61), .int a1, .int a2, .int a3, .null, .null] [] s (M_X0_hangFrom (fu + 1) a1 a2 a3 s) := by
  rw [M_X0_hangFrom]
  refine g_iload_n (pc := 0) K 3 dX0_hangFrom_0 rfl rfl ?_
  refine g_aload_n (pc := 1) K 0 dX0_hangFrom_1 rfl rfl ?_
  refine gg_0_1 (pc := 2) K (by decide) kd_61 kX0_22 dX0_hangFrom_2 ?_
  refine g_icmp_lt (pc := 5) K 9 dX0_hangFrom_5 (by decide) ?_ ?_
  · refine g_iload_n (pc := 9) K 1 dX0_hangFrom_9 rfl rfl ?_
    refine g_aload_n (pc := 10) K 0 dX0_hangFrom_10 rfl rfl ?_
    refine gg_0_0 (pc := 11) K (by decide) kd_61 kX0_18 dX0_hangFrom_11 ?_
    refine gg_1_0 (pc := 14) K (by decide) kd_9 kX0_30 dX0_hangFrom_14 ?_
    refine g_jn (κ := St → Option (Int32 × St)) (fun kj1 => ∀ (s2 : St), G X 26 [.ref (X.B + 61), .null, .null, .int a3, .null, .null] [] s2 (kj1 s2)) (fun s2 => ?_) (fun kj1 hkj1 => ?_)
    · refine g_aload_n (pc := 26) K 0 dX0_hangFrom_26 rfl rfl ?_
      refine g_iload_n (pc := 27) K 3 dX0_hangFrom_27 rfl rfl ?_
      refine gp_0_1 (pc := 28) K (by decide) kd_61 kX0_22 dX0_hangFrom_28 (fun s3 => ?_)
      refine g_aload_n (pc := 31) K 0 dX0_hangFrom_31 rfl rfl ?_
      refine gg_0_3 (pc := 32) K (by decide) kd_61 kX0_15 dX0_hangFrom_32 ?_
      refine g_iconst (pc := 35) K (0) dX0_hangFrom_35 (by decide) ?_
      refine g_aload_n (pc := 36) K 0 dX0_hangFrom_36 rfl rfl ?_
      refine gg_0_2 (pc := 37) K (by decide) kd_61 kX0_9 dX0_hangFrom_37 ?_
      refine g_iconst (pc := 40) K (0) dX0_hangFrom_40 (by decide) ?_
      refine g_bipush (pc := 41) K (6) dX0_hangFrom_41 (by decide) ?_
      refine g_acopy (pc := 43) K (by omega) (by decide) (by decide) kd_63 kd_62 ln_63 ln_62 (by decide) (by decide) (Nat.le_of_ble_eq_true rfl) dX0_hangFrom_43 (fun s4 => ?_)
      exact g_vr (pc := 46) hR dX0_hangFrom_46
    · refine g_icmp_ge (pc := 17) K 26 dX0_hangFrom_17 (by decide) ?_ ?_
      · exact g_wk (hkj1  s) ⟨rfl, ⟨rfl, trivial⟩⟩
      · refine g_iload_n (pc := 20) K 1 dX0_hangFrom_20 rfl rfl ?_
        refine g_bipush (pc := 21) K (6) dX0_hangFrom_21 (by decide) ?_
        refine g_icmp_lt (pc := 23) K 47 dX0_hangFrom_23 (by decide) ?_ ?_
        · refine g_iconst (pc := 47) K (0) dX0_hangFrom_47 (by decide) ?_
          refine g_istore (pc := 48) K dX0_hangFrom_48 (by decide) ?_
          change G X 50 [.ref (X.B + 61), .int a1, .int a2, .int a3, .int (0), .null] [] s _
          refine g_weak (L' := [.ref (X.B + 61), .int a1, .int a2, .int a3, .int (0), .null]) ⟨rfl, ⟨rfl, ⟨rfl, ⟨rfl, ⟨rfl, trivial⟩⟩⟩⟩⟩ ?_
          refine tM_X0_hangFrom_L50 dd K hR a1 a2 a3 (M_X0_hangFrom fu) hrec _ (fun s12 => ?_) 400 (0) s
          exact g_vr (pc := 133) hR dX0_hangFrom_133
        · exact g_wk (hkj1  s) ⟨rfl, ⟨rfl, trivial⟩⟩
  · exact g_vr (pc := 8) hR dX0_hangFrom_8
theorem qX0_hangFrom (E : Ce) : ∀ (fu : Nat) (a1 : Int32) (a2 : Int32) (a3 : Int32), Con E yX0_hangFrom cX0_hangFrom 6 none (fu + 1) [.ref (E.B + 61), .int a1, .int a2, .int a3] (M_X0_hangFrom fu a1 a2 a3)
  | 0, a1, a2, a3 => fun s r s' e => by cases e
  | fu + 1, a1, a2, a3 =>
  Con.of (by decide) (List.forall_mem_cons.mpr ⟨rfl, List.forall_mem_cons.mpr ⟨rfl, List.forall_mem_cons.mpr ⟨rfl, List.forall_mem_cons.mpr ⟨rfl, fun _ h => absurd h List.not_mem_nil⟩⟩⟩⟩) (Nat.le_of_ble_eq_true rfl) (Or.inl rfl) [.ref (E.B + 61), .int a1, .int a2, .int a3, .null, .null] ⟨rfl, ⟨rfl, ⟨rfl, ⟨rfl, trivial⟩⟩⟩⟩ (fun X s hE hok hI hZ hV => by subst hE; exact tX0_hangFrom fu hok (hV rfl) fu (fun a1 a2 a3 => qX0_hangFrom X.E fu a1 a2 a3) a1 a2 a3 s)
theorem hyX0_search : yX0_search.cls ≠ "java/lang/invoke/MethodHandle" ∧ yX0_search.cls ≠ "java/lang/invoke/VarHandle" ∧ (parseMethodDescriptor yX0_search.desc).map (fun d => d.parameters.length) = some 0 := by decide +kernel
set_option maxRecDepth 20000 in
set_option maxHeartbeats 4000000 in
theorem tX0_search {X : Cx} (K : Ok X cX0_search RX0 1 11) (hR : RV X cX0_search) (s : St) : G X 0 [.ref (X.B + 61)] [] s (M_X0_search s) := by
  unfold M_X0_search
  refine g_aload_n (pc := 0) K 0 dX0_search_0 rfl rfl ?_
  refine g_sipush (pc := 1) K (181) dX0_search_1 (by decide) ?_
  refine gp_0_1 (pc := 4) K (by decide) kd_61 kX0_22 dX0_search_4 (fun s1 => ?_)
  refine g_aload_n (pc := 7) K 0 dX0_search_7 rfl rfl ?_
  refine g_iconst (pc := 8) K (0) dX0_search_8 (by decide) ?_
  refine g_iconst (pc := 9) K (0) dX0_search_9 (by decide) ?_
  refine g_iconst (pc := 10) K (0) dX0_search_10 (by decide) ?_
  refine g_callS (pc := 11) (S := []) K (qX0_hangFrom X.E 9 (0) (0) (0)) (by decide) (by decide) wcX0_hangFrom wiX0 kX0_26 wtX0_hangFrom hyX0_hangFrom rfl rfl (Nat.le_of_ble_eq_true rfl) dX0_search_11 (fun r2 s3 => ?_)
  change G X 14 [.ref (X.B + 61)] [] s3 _
  exact g_vr (pc := 14) hR dX0_search_14
theorem qX0_search (E : Ce) : Con E yX0_search cX0_search 1 none 11 [.ref (E.B + 61)] (M_X0_search) :=
  Con.of (by decide) (List.forall_mem_cons.mpr ⟨rfl, fun _ h => absurd h List.not_mem_nil⟩) (Nat.le_of_ble_eq_true rfl) (Or.inl rfl) [.ref (E.B + 61)] ⟨rfl, trivial⟩ (fun X s hE hok hI hZ hV => by subst hE; exact tX0_search hok (hV rfl) s)
theorem hyX1_has : yX1_has.cls ≠ "java/lang/invoke/MethodHandle" ∧ yX1_has.cls ≠ "java/lang/invoke/VarHandle" ∧ (parseMethodDescriptor yX1_has.desc).map (fun d => d.parameters.length) = some 1 := by decide +kernel
set_option maxRecDepth 20000 in
set_option maxHeartbeats 4000000 in
theorem tX1_has {X : Cx} (K : Ok X cX1_has RX1 2 1) (hR : RZ X cX1_has) (k : Nat) (hk : Frm k) (a1 : Int32) (s : St) : G X 0 [.ref (X.B + k), .int a1] [] s (M_X1_has k a1 s) := by
  unfold M_X1_has
  refine g_iload_n (pc := 0) K 1 dX1_has_0 rfl rfl ?_
  refine g_if_lt (pc := 1) K 16 dX1_has_1 (by decide) ?_ ?_
  · refine g_iconst (pc := 16) K (0) dX1_has_16 (by decide) ?_
    exact g_zr0 (pc := 17) hR dX1_has_17
  · refine g_iload_n (pc := 4) K 1 dX1_has_4 rfl rfl ?_
    refine g_aload_n (pc := 5) K 0 dX1_has_5 rfl rfl ?_
    refine gg_1_0 (pc := 6) K hk.1 hk.2.1 kX1_27 dX1_has_6 ?_
    refine g_icmp_ge (pc := 9) K 16 dX1_has_9 (by decide) ?_ ?_
    · refine g_iconst (pc := 16) K (0) dX1_has_16 (by decide) ?_
      exact g_zr0 (pc := 17) hR dX1_has_17
    · refine g_iconst (pc := 12) K (1) dX1_has_12 (by decide) ?_
      refine g_goto (pc := 13) K 17 dX1_has_13 (by decide) ?_
      exact g_zr1 (pc := 17) hR dX1_has_17
theorem qX1_has (E : Ce) (k : Nat) (hk : Frm k) (a1 : Int32) : Con E yX1_has cX1_has 2 (some .boolean) 1 [.ref (E.B + k), .int a1] (M_X1_has k a1) :=
  Con.of (by decide) (List.forall_mem_cons.mpr ⟨rfl, List.forall_mem_cons.mpr ⟨rfl, fun _ h => absurd h List.not_mem_nil⟩⟩) (Nat.le_of_ble_eq_true rfl) (Or.inr (Or.inr rfl)) [.ref (E.B + k), .int a1] ⟨rfl, ⟨rfl, trivial⟩⟩ (fun X s hE hok hI hZ hV => by subst hE; exact tX1_has hok (hZ rfl) k hk a1 s)
theorem hyX1_everyone : yX1_everyone.cls ≠ "java/lang/invoke/MethodHandle" ∧ yX1_everyone.cls ≠ "java/lang/invoke/VarHandle" ∧ (parseMethodDescriptor yX1_everyone.desc).map (fun d => d.parameters.length) = some 0 := by decide +kernel
set_option maxRecDepth 20000 in
set_option maxHeartbeats 4000000 in
theorem tX1_everyone {X : Cx} (K : Ok X cX1_everyone RX1 1 1) (hR : RI X cX1_everyone) (k : Nat) (hk : Frm k) (s : St) : G X 0 [.ref (X.B + k)] [] s (M_X1_everyone k s) := by
  unfold M_X1_everyone
  refine g_iconst (pc := 0) K (1) dX1_everyone_0 (by decide) ?_
  refine g_aload_n (pc := 1) K 0 dX1_everyone_1 rfl rfl ?_
  refine gg_1_0 (pc := 2) K hk.1 hk.2.1 kX1_27 dX1_everyone_2 ?_
  refine g_ishl (pc := 5) K dX1_everyone_5 ?_
  refine g_iconst (pc := 6) K (1) dX1_everyone_6 (by decide) ?_
  refine g_isub (pc := 7) K dX1_everyone_7 ?_
  exact g_ir (pc := 8) hR dX1_everyone_8
theorem qX1_everyone (E : Ce) (k : Nat) (hk : Frm k) : Con E yX1_everyone cX1_everyone 1 (some .int) 1 [.ref (E.B + k)] (M_X1_everyone k) :=
  Con.of (by decide) (List.forall_mem_cons.mpr ⟨rfl, fun _ h => absurd h List.not_mem_nil⟩) (Nat.le_of_ble_eq_true rfl) (Or.inr (Or.inl rfl)) [.ref (E.B + k)] ⟨rfl, trivial⟩ (fun X s hE hok hI hZ hV => by subst hE; exact tX1_everyone hok (hI rfl) k hk s)
theorem hyX1_copyFrom : yX1_copyFrom.cls ≠ "java/lang/invoke/MethodHandle" ∧ yX1_copyFrom.cls ≠ "java/lang/invoke/VarHandle" ∧ (parseMethodDescriptor yX1_copyFrom.desc).map (fun d => d.parameters.length) = some 1 := by decide +kernel
set_option maxRecDepth 20000 in
set_option maxHeartbeats 4000000 in
theorem tM_X1_copyFrom_L10 {X : Cx} (K : Ok X cX1_copyFrom RX1 3 1) (hR : RV X cX1_copyFrom) (k : Nat) (k1 : Nat) (hk : Frm k) (hk1 : Frm k1) (kk : St → Option (Int32 × St)) (hkk : ∀ (s : St), G X 82 [.null, .null, .null] [] s (kk s)) : ∀ (fu : Nat) (x2 : Int32) (s : St), G X 10 [.ref (X.B + k), .ref (X.B + k1), .int x2] [] s (M_X1_copyFrom_L10 k k1 kk fu x2 s) := by
  intro fu
  induction fu with
  | zero => intro x2 s; exact g_none
  | succ fu ih =>
    intro x2 s
    rw [M_X1_copyFrom_L10]
    refine g_iload_n (pc := 10) K 2 dX1_copyFrom_10 rfl rfl ?_
    refine g_bipush (pc := 11) K (6) dX1_copyFrom_11 (by decide) ?_
    refine g_icmp_ge (pc := 13) K 82 dX1_copyFrom_13 (by decide) ?_ ?_
    · exact g_wk (hkk  s) trivial
    · refine g_aload_n (pc := 16) K 0 dX1_copyFrom_16 rfl rfl ?_
      refine gg_1_1 (pc := 17) K hk.1 hk.2.1 kX1_9 dX1_copyFrom_17 (k + 1) rfl ?_
      refine g_iload_n (pc := 20) K 2 dX1_copyFrom_20 rfl rfl ?_
      refine g_aload_n (pc := 21) K 1 dX1_copyFrom_21 rfl rfl ?_
      refine gg_1_1 (pc := 22) K hk1.1 hk1.2.1 kX1_9 dX1_copyFrom_22 (k1 + 1) rfl ?_
      refine g_iload_n (pc := 25) K 2 dX1_copyFrom_25 rfl rfl ?_
      refine g_iaload (pc := 26) K hk1.2.2.1.1 hk1.2.2.1.2.1 hk1.2.2.1.2.2 dX1_copyFrom_26 (fun v2 => ?_)
      refine g_iastore (pc := 27) K hk.2.2.1.1 hk.2.2.1.2.1 hk.2.2.1.2.2 dX1_copyFrom_27 (fun s3 => ?_)
      refine g_aload_n (pc := 28) K 0 dX1_copyFrom_28 rfl rfl ?_
      refine gg_1_2 (pc := 29) K hk.1 hk.2.1 kX1_15 dX1_copyFrom_29 (k + 2) rfl ?_
      refine g_iload_n (pc := 32) K 2 dX1_copyFrom_32 rfl rfl ?_
      refine g_aload_n (pc := 33) K 1 dX1_copyFrom_33 rfl rfl ?_
      refine gg_1_2 (pc := 34) K hk1.1 hk1.2.1 kX1_15 dX1_copyFrom_34 (k1 + 2) rfl ?_
      refine g_iload_n (pc := 37) K 2 dX1_copyFrom_37 rfl rfl ?_
      refine g_iaload (pc := 38) K hk1.2.2.2.1.1 hk1.2.2.2.1.2.1 hk1.2.2.2.1.2.2 dX1_copyFrom_38 (fun v4 => ?_)
      refine g_iastore (pc := 39) K hk.2.2.2.1.1 hk.2.2.2.1.2.1 hk.2.2.2.1.2.2 dX1_copyFrom_39 (fun s5 => ?_)
      refine g_aload_n (pc := 40) K 0 dX1_copyFrom_40 rfl rfl ?_
      refine gg_1_3 (pc := 41) K hk.1 hk.2.1 kX1_18 dX1_copyFrom_41 (k + 3) rfl ?_
      refine g_iload_n (pc := 44) K 2 dX1_copyFrom_44 rfl rfl ?_
      refine g_aload_n (pc := 45) K 1 dX1_copyFrom_45 rfl rfl ?_
      refine gg_1_3 (pc := 46) K hk1.1 hk1.2.1 kX1_18 dX1_copyFrom_46 (k1 + 3) rfl ?_
      refine g_iload_n (pc := 49) K 2 dX1_copyFrom_49 rfl rfl ?_
      refine g_iaload (pc := 50) K hk1.2.2.2.2.1.1 hk1.2.2.2.2.1.2.1 hk1.2.2.2.2.1.2.2 dX1_copyFrom_50 (fun v6 => ?_)
      refine g_iastore (pc := 51) K hk.2.2.2.2.1.1 hk.2.2.2.2.1.2.1 hk.2.2.2.2.1.2.2 dX1_copyFrom_51 (fun s7 => ?_)
      refine g_aload_n (pc := 52) K 0 dX1_copyFrom_52 rfl rfl ?_
      refine gg_1_4 (pc := 53) K hk.1 hk.2.1 kX1_21 dX1_copyFrom_53 (k + 4) rfl ?_
      refine g_iload_n (pc := 56) K 2 dX1_copyFrom_56 rfl rfl ?_
      refine g_aload_n (pc := 57) K 1 dX1_copyFrom_57 rfl rfl ?_
      refine gg_1_4 (pc := 58) K hk1.1 hk1.2.1 kX1_21 dX1_copyFrom_58 (k1 + 4) rfl ?_
      refine g_iload_n (pc := 61) K 2 dX1_copyFrom_61 rfl rfl ?_
      refine g_iaload (pc := 62) K hk1.2.2.2.2.2.1.1 hk1.2.2.2.2.2.1.2.1 hk1.2.2.2.2.2.1.2.2 dX1_copyFrom_62 (fun v8 => ?_)
      refine g_iastore (pc := 63) K hk.2.2.2.2.2.1.1 hk.2.2.2.2.2.1.2.1 hk.2.2.2.2.2.1.2.2 dX1_copyFrom_63 (fun s9 => ?_)
      refine g_aload_n (pc := 64) K 0 dX1_copyFrom_64 rfl rfl ?_
      refine gg_1_5 (pc := 65) K hk.1 hk.2.1 kX1_24 dX1_copyFrom_65 (k + 5) rfl ?_
      refine g_iload_n (pc := 68) K 2 dX1_copyFrom_68 rfl rfl ?_
      refine g_aload_n (pc := 69) K 1 dX1_copyFrom_69 rfl rfl ?_
      refine gg_1_5 (pc := 70) K hk1.1 hk1.2.1 kX1_24 dX1_copyFrom_70 (k1 + 5) rfl ?_
      refine g_iload_n (pc := 73) K 2 dX1_copyFrom_73 rfl rfl ?_
      refine g_iaload (pc := 74) K hk1.2.2.2.2.2.2.1 hk1.2.2.2.2.2.2.2.1 hk1.2.2.2.2.2.2.2.2 dX1_copyFrom_74 (fun v10 => ?_)
      refine g_iastore (pc := 75) K hk.2.2.2.2.2.2.1 hk.2.2.2.2.2.2.2.1 hk.2.2.2.2.2.2.2.2 dX1_copyFrom_75 (fun s11 => ?_)
      refine g_iinc (pc := 76) K (1) dX1_copyFrom_76 rfl (by decide) (by decide) ?_
      change G X 79 [.ref (X.B + k), .ref (X.B + k1), .int (x2 + (1))] [] s11 _
      refine g_goto (pc := 79) K 10 dX1_copyFrom_79 (by decide) ?_
      exact g_wk (ih (x2 + (1)) s11) ⟨rfl, ⟨rfl, ⟨rfl, trivial⟩⟩⟩
set_option maxRecDepth 20000 in
set_option maxHeartbeats 4000000 in
theorem tX1_copyFrom {X : Cx} (K : Ok X cX1_copyFrom RX1 3 1) (hR : RV X cX1_copyFrom) (k : Nat) (k1 : Nat) (hk : Frm k) (hk1 : Frm k1) (s : St) : G X 0 [.ref (X.B + k), .ref (X.B + k1), .null] [] s (M_X1_copyFrom k k1 s) := by
  unfold M_X1_copyFrom
  refine g_aload_n (pc := 0) K 0 dX1_copyFrom_0 rfl rfl ?_
  refine g_aload_n (pc := 1) K 1 dX1_copyFrom_1 rfl rfl ?_
  refine gg_1_0 (pc := 2) K hk1.1 hk1.2.1 kX1_27 dX1_copyFrom_2 ?_
  refine gp_1_0 (pc := 5) K hk.1 hk.2.1 kX1_27 dX1_copyFrom_5 (fun s1 => ?_)
  refine g_iconst (pc := 8) K (0) dX1_copyFrom_8 (by decide) ?_
  refine g_istore_n (pc := 9) K 2 dX1_copyFrom_9 rfl (by decide) ?_
  change G X 10 [.ref (X.B + k), .ref (X.B + k1), .int (0)] [] s1 _
  refine g_weak (L' := [.ref (X.B + k), .ref (X.B + k1), .int (0)]) ⟨rfl, ⟨rfl, ⟨rfl, trivial⟩⟩⟩ ?_
  refine tM_X1_copyFrom_L10 K hR k k1 hk hk1 _ (fun s12 => ?_) 400 (0) s1
  exact g_vr (pc := 82) hR dX1_copyFrom_82
theorem qX1_copyFrom (E : Ce) (k : Nat) (k1 : Nat) (hk : Frm k) (hk1 : Frm k1) : Con E yX1_copyFrom cX1_copyFrom 3 none 1 [.ref (E.B + k), .ref (E.B + k1)] (M_X1_copyFrom k k1) :=
  Con.of (by decide) (List.forall_mem_cons.mpr ⟨rfl, List.forall_mem_cons.mpr ⟨rfl, fun _ h => absurd h List.not_mem_nil⟩⟩) (Nat.le_of_ble_eq_true rfl) (Or.inl rfl) [.ref (E.B + k), .ref (E.B + k1), .null] ⟨rfl, ⟨rfl, trivial⟩⟩ (fun X s hE hok hI hZ hV => by subst hE; exact tX1_copyFrom hok (hV rfl) k k1 hk hk1 s)
theorem hyX1_keepersAreThere : yX1_keepersAreThere.cls ≠ "java/lang/invoke/MethodHandle" ∧ yX1_keepersAreThere.cls ≠ "java/lang/invoke/VarHandle" ∧ (parseMethodDescriptor yX1_keepersAreThere.desc).map (fun d => d.parameters.length) = some 0 := by decide +kernel
set_option maxRecDepth 20000 in
set_option maxHeartbeats 4000000 in
theorem tM_X1_keepersAreThere_L2 {X : Cx} (K : Ok X cX1_keepersAreThere RX1 2 2) (hR : RZ X cX1_keepersAreThere) (k : Nat) (hk : Frm k) (kk : St → Option (Int32 × St)) (hkk : ∀ (s : St), G X 31 [.null, .null] [] s (kk s)) : ∀ (fu : Nat) (x1 : Int32) (s : St), G X 2 [.ref (X.B + k), .int x1] [] s (M_X1_keepersAreThere_L2 k kk fu x1 s) := by
  intro fu
  induction fu with
  | zero => intro x1 s; exact g_none
  | succ fu ih =>
    intro x1 s
    rw [M_X1_keepersAreThere_L2]
    refine g_iload_n (pc := 2) K 1 dX1_keepersAreThere_2 rfl rfl ?_
    refine g_aload_n (pc := 3) K 0 dX1_keepersAreThere_3 rfl rfl ?_
    refine gg_1_0 (pc := 4) K hk.1 hk.2.1 kX1_27 dX1_keepersAreThere_4 ?_
    refine g_icmp_ge (pc := 7) K 31 dX1_keepersAreThere_7 (by decide) ?_ ?_
    · exact g_wk (hkk  s) trivial
    · refine g_aload_n (pc := 10) K 0 dX1_keepersAreThere_10 rfl rfl ?_
      refine g_aload_n (pc := 11) K 0 dX1_keepersAreThere_11 rfl rfl ?_
      refine gg_1_5 (pc := 12) K hk.1 hk.2.1 kX1_24 dX1_keepersAreThere_12 (k + 5) rfl ?_
      refine g_iload_n (pc := 15) K 1 dX1_keepersAreThere_15 rfl rfl ?_
      refine g_iaload (pc := 16) K hk.2.2.2.2.2.2.1 hk.2.2.2.2.2.2.2.1 hk.2.2.2.2.2.2.2.2 dX1_keepersAreThere_16 (fun v1 => ?_)
      refine g_callV (pc := 17) (S := []) K (qX1_has X.E k hk v1) hk.1 (ci := 1) rfl (fun _ => ⟨_, ce_1 hk.2.1⟩) (by decide) (by decide) wcX1_has wiX1 kX1_31 wmX1_has weX1_has hyX1_has rfl rfl (Nat.le_of_ble_eq_true rfl) dX1_keepersAreThere_17 (fun r2 s3 => ?_)
      change G X 20 [.ref (X.B + k), .int x1] [.int r2] s3 _
      refine g_if_ne (pc := 20) K 25 dX1_keepersAreThere_20 (by decide) ?_ ?_
      · refine g_iinc (pc := 25) K (1) dX1_keepersAreThere_25 rfl (by decide) (by decide) ?_
        change G X 28 [.ref (X.B + k), .int (x1 + (1))] [] s3 _
        refine g_goto (pc := 28) K 2 dX1_keepersAreThere_28 (by decide) ?_
        exact g_wk (ih (x1 + (1)) s3) ⟨rfl, ⟨rfl, trivial⟩⟩
      · refine g_iconst (pc := 23) K (0) dX1_keepersAreThere_23 (by decide) ?_
        exact g_zr0 (pc := 24) hR dX1_keepersAreThere_24
set_option maxRecDepth 20000 in
set_option maxHeartbeats 4000000 in
theorem tX1_keepersAreThere {X : Cx} (K : Ok X cX1_keepersAreThere RX1 2 2) (hR : RZ X cX1_keepersAreThere) (k : Nat) (hk : Frm k) (s : St) : G X 0 [.ref (X.B + k), .null] [] s (M_X1_keepersAreThere k s) := by
  unfold M_X1_keepersAreThere
  refine g_iconst (pc := 0) K (0) dX1_keepersAreThere_0 (by decide) ?_
  refine g_istore_n (pc := 1) K 1 dX1_keepersAreThere_1 rfl (by decide) ?_
  change G X 2 [.ref (X.B + k), .int (0)] [] s _
  refine g_weak (L' := [.ref (X.B + k), .int (0)]) ⟨rfl, ⟨rfl, trivial⟩⟩ ?_
  refine tM_X1_keepersAreThere_L2 K hR k hk _ (fun s4 => ?_) 400 (0) s
  refine g_iconst (pc := 31) K (1) dX1_keepersAreThere_31 (by decide) ?_
  exact g_zr1 (pc := 32) hR dX1_keepersAreThere_32
theorem qX1_keepersAreThere (E : Ce) (k : Nat) (hk : Frm k) : Con E yX1_keepersAreThere cX1_keepersAreThere 2 (some .boolean) 2 [.ref (E.B + k)] (M_X1_keepersAreThere k) :=
  Con.of (by decide) (List.forall_mem_cons.mpr ⟨rfl, fun _ h => absurd h List.not_mem_nil⟩) (Nat.le_of_ble_eq_true rfl) (Or.inr (Or.inr rfl)) [.ref (E.B + k), .null] ⟨rfl, trivial⟩ (fun X s hE hok hI hZ hV => by subst hE; exact tX1_keepersAreThere hok (hZ rfl) k hk s)
theorem hyJ6_bitCount_0f7a4 : yJ6_bitCount_0f7a4.cls ≠ "java/lang/invoke/MethodHandle" ∧ yJ6_bitCount_0f7a4.cls ≠ "java/lang/invoke/VarHandle" ∧ (parseMethodDescriptor yJ6_bitCount_0f7a4.desc).map (fun d => d.parameters.length) = some 1 := by decide +kernel
set_option maxRecDepth 20000 in
set_option maxHeartbeats 4000000 in
theorem tJ6_bitCount_0f7a4 {X : Cx} (K : Ok X cJ6_bitCount_0f7a4 RJ6 1 1) (hR : RI X cJ6_bitCount_0f7a4) (a0 : Int32) (s : St) : G X 0 [.int a0] [] s (M_J6_bitCount_0f7a4 a0 s) := by
  unfold M_J6_bitCount_0f7a4
  refine g_iload_n (pc := 0) K 0 dJ6_bitCount_0f7a4_0 rfl rfl ?_
  refine g_iload_n (pc := 1) K 0 dJ6_bitCount_0f7a4_1 rfl rfl ?_
  refine g_iconst (pc := 2) K (1) dJ6_bitCount_0f7a4_2 (by decide) ?_
  refine g_iushr (pc := 3) K dJ6_bitCount_0f7a4_3 ?_
  refine g_ldcw (pc := 4) K kJ6_265 dJ6_bitCount_0f7a4_4 ?_
  refine g_iand (pc := 7) K dJ6_bitCount_0f7a4_7 ?_
  refine g_isub (pc := 8) K dJ6_bitCount_0f7a4_8 ?_
  refine g_istore_n (pc := 9) K 0 dJ6_bitCount_0f7a4_9 rfl (by decide) ?_
  change G X 10 [.int (a0 - (((a0).toUInt32 >>> (((1) : Int32).toUInt32 &&& Int32.toUInt32 31)).toInt32 &&& (1431655765)))] [] s _
  refine g_iload_n (pc := 10) K 0 dJ6_bitCount_0f7a4_10 rfl rfl ?_
  refine g_ldcw (pc := 11) K kJ6_266 dJ6_bitCount_0f7a4_11 ?_
  refine g_iand (pc := 14) K dJ6_bitCount_0f7a4_14 ?_
  refine g_iload_n (pc := 15) K 0 dJ6_bitCount_0f7a4_15 rfl rfl ?_
  refine g_iconst (pc := 16) K (2) dJ6_bitCount_0f7a4_16 (by decide) ?_
  refine g_iushr (pc := 17) K dJ6_bitCount_0f7a4_17 ?_
  refine g_ldcw (pc := 18) K kJ6_266 dJ6_bitCount_0f7a4_18 ?_
  refine g_iand (pc := 21) K dJ6_bitCount_0f7a4_21 ?_
  refine g_iadd (pc := 22) K dJ6_bitCount_0f7a4_22 ?_
  refine g_istore_n (pc := 23) K 0 dJ6_bitCount_0f7a4_23 rfl (by decide) ?_
  change G X 24 [.int (((a0 - (((a0).toUInt32 >>> (((1) : Int32).toUInt32 &&& Int32.toUInt32 31)).toInt32 &&& (1431655765))) &&& (858993459)) + ((((a0 - (((a0).toUInt32 >>> (((1) : Int32).toUInt32 &&& Int32.toUInt32 31)).toInt32 &&& (1431655765)))).toUInt32 >>> (((2) : Int32).toUInt32 &&& Int32.toUInt32 31)).toInt32 &&& (858993459)))] [] s _
  refine g_iload_n (pc := 24) K 0 dJ6_bitCount_0f7a4_24 rfl rfl ?_
  refine g_iload_n (pc := 25) K 0 dJ6_bitCount_0f7a4_25 rfl rfl ?_
  refine g_iconst (pc := 26) K (4) dJ6_bitCount_0f7a4_26 (by decide) ?_
  refine g_iushr (pc := 27) K dJ6_bitCount_0f7a4_27 ?_
  refine g_iadd (pc := 28) K dJ6_bitCount_0f7a4_28 ?_
  refine g_ldcw (pc := 29) K kJ6_267 dJ6_bitCount_0f7a4_29 ?_
  refine g_iand (pc := 32) K dJ6_bitCount_0f7a4_32 ?_
  refine g_istore_n (pc := 33) K 0 dJ6_bitCount_0f7a4_33 rfl (by decide) ?_
  change G X 34 [.int (((((a0 - (((a0).toUInt32 >>> (((1) : Int32).toUInt32 &&& Int32.toUInt32 31)).toInt32 &&& (1431655765))) &&& (858993459)) + ((((a0 - (((a0).toUInt32 >>> (((1) : Int32).toUInt32 &&& Int32.toUInt32 31)).toInt32 &&& (1431655765)))).toUInt32 >>> (((2) : Int32).toUInt32 &&& Int32.toUInt32 31)).toInt32 &&& (858993459))) + (((((a0 - (((a0).toUInt32 >>> (((1) : Int32).toUInt32 &&& Int32.toUInt32 31)).toInt32 &&& (1431655765))) &&& (858993459)) + ((((a0 - (((a0).toUInt32 >>> (((1) : Int32).toUInt32 &&& Int32.toUInt32 31)).toInt32 &&& (1431655765)))).toUInt32 >>> (((2) : Int32).toUInt32 &&& Int32.toUInt32 31)).toInt32 &&& (858993459)))).toUInt32 >>> (((4) : Int32).toUInt32 &&& Int32.toUInt32 31)).toInt32) &&& (252645135))] [] s _
  refine g_iload_n (pc := 34) K 0 dJ6_bitCount_0f7a4_34 rfl rfl ?_
  refine g_iload_n (pc := 35) K 0 dJ6_bitCount_0f7a4_35 rfl rfl ?_
  refine g_bipush (pc := 36) K (8) dJ6_bitCount_0f7a4_36 (by decide) ?_
  refine g_iushr (pc := 38) K dJ6_bitCount_0f7a4_38 ?_
  refine g_iadd (pc := 39) K dJ6_bitCount_0f7a4_39 ?_
  refine g_istore_n (pc := 40) K 0 dJ6_bitCount_0f7a4_40 rfl (by decide) ?_
  change G X 41 [.int ((((((a0 - (((a0).toUInt32 >>> (((1) : Int32).toUInt32 &&& Int32.toUInt32 31)).toInt32 &&& (1431655765))) &&& (858993459)) + ((((a0 - (((a0).toUInt32 >>> (((1) : Int32).toUInt32 &&& Int32.toUInt32 31)).toInt32 &&& (1431655765)))).toUInt32 >>> (((2) : Int32).toUInt32 &&& Int32.toUInt32 31)).toInt32 &&& (858993459))) + (((((a0 - (((a0).toUInt32 >>> (((1) : Int32).toUInt32 &&& Int32.toUInt32 31)).toInt32 &&& (1431655765))) &&& (858993459)) + ((((a0 - (((a0).toUInt32 >>> (((1) : Int32).toUInt32 &&& Int32.toUInt32 31)).toInt32 &&& (1431655765)))).toUInt32 >>> (((2) : Int32).toUInt32 &&& Int32.toUInt32 31)).toInt32 &&& (858993459)))).toUInt32 >>> (((4) : Int32).toUInt32 &&& Int32.toUInt32 31)).toInt32) &&& (252645135)) + (((((((a0 - (((a0).toUInt32 >>> (((1) : Int32).toUInt32 &&& Int32.toUInt32 31)).toInt32 &&& (1431655765))) &&& (858993459)) + ((((a0 - (((a0).toUInt32 >>> (((1) : Int32).toUInt32 &&& Int32.toUInt32 31)).toInt32 &&& (1431655765)))).toUInt32 >>> (((2) : Int32).toUInt32 &&& Int32.toUInt32 31)).toInt32 &&& (858993459))) + (((((a0 - (((a0).toUInt32 >>> (((1) : Int32).toUInt32 &&& Int32.toUInt32 31)).toInt32 &&& (1431655765))) &&& (858993459)) + ((((a0 - (((a0).toUInt32 >>> (((1) : Int32).toUInt32 &&& Int32.toUInt32 31)).toInt32 &&& (1431655765)))).toUInt32 >>> (((2) : Int32).toUInt32 &&& Int32.toUInt32 31)).toInt32 &&& (858993459)))).toUInt32 >>> (((4) : Int32).toUInt32 &&& Int32.toUInt32 31)).toInt32) &&& (252645135))).toUInt32 >>> (((8) : Int32).toUInt32 &&& Int32.toUInt32 31)).toInt32)] [] s _
  refine g_iload_n (pc := 41) K 0 dJ6_bitCount_0f7a4_41 rfl rfl ?_
  refine g_iload_n (pc := 42) K 0 dJ6_bitCount_0f7a4_42 rfl rfl ?_
  refine g_bipush (pc := 43) K (16) dJ6_bitCount_0f7a4_43 (by decide) ?_
  refine g_iushr (pc := 45) K dJ6_bitCount_0f7a4_45 ?_
  refine g_iadd (pc := 46) K dJ6_bitCount_0f7a4_46 ?_
  refine g_istore_n (pc := 47) K 0 dJ6_bitCount_0f7a4_47 rfl (by decide) ?_
  change G X 48 [.int (((((((a0 - (((a0).toUInt32 >>> (((1) : Int32).toUInt32 &&& Int32.toUInt32 31)).toInt32 &&& (1431655765))) &&& (858993459)) + ((((a0 - (((a0).toUInt32 >>> (((1) : Int32).toUInt32 &&& Int32.toUInt32 31)).toInt32 &&& (1431655765)))).toUInt32 >>> (((2) : Int32).toUInt32 &&& Int32.toUInt32 31)).toInt32 &&& (858993459))) + (((((a0 - (((a0).toUInt32 >>> (((1) : Int32).toUInt32 &&& Int32.toUInt32 31)).toInt32 &&& (1431655765))) &&& (858993459)) + ((((a0 - (((a0).toUInt32 >>> (((1) : Int32).toUInt32 &&& Int32.toUInt32 31)).toInt32 &&& (1431655765)))).toUInt32 >>> (((2) : Int32).toUInt32 &&& Int32.toUInt32 31)).toInt32 &&& (858993459)))).toUInt32 >>> (((4) : Int32).toUInt32 &&& Int32.toUInt32 31)).toInt32) &&& (252645135)) + (((((((a0 - (((a0).toUInt32 >>> (((1) : Int32).toUInt32 &&& Int32.toUInt32 31)).toInt32 &&& (1431655765))) &&& (858993459)) + ((((a0 - (((a0).toUInt32 >>> (((1) : Int32).toUInt32 &&& Int32.toUInt32 31)).toInt32 &&& (1431655765)))).toUInt32 >>> (((2) : Int32).toUInt32 &&& Int32.toUInt32 31)).toInt32 &&& (858993459))) + (((((a0 - (((a0).toUInt32 >>> (((1) : Int32).toUInt32 &&& Int32.toUInt32 31)).toInt32 &&& (1431655765))) &&& (858993459)) + ((((a0 - (((a0).toUInt32 >>> (((1) : Int32).toUInt32 &&& Int32.toUInt32 31)).toInt32 &&& (1431655765)))).toUInt32 >>> (((2) : Int32).toUInt32 &&& Int32.toUInt32 31)).toInt32 &&& (858993459)))).toUInt32 >>> (((4) : Int32).toUInt32 &&& Int32.toUInt32 31)).toInt32) &&& (252645135))).toUInt32 >>> (((8) : Int32).toUInt32 &&& Int32.toUInt32 31)).toInt32) + ((((((((a0 - (((a0).toUInt32 >>> (((1) : Int32).toUInt32 &&& Int32.toUInt32 31)).toInt32 &&& (1431655765))) &&& (858993459)) + ((((a0 - (((a0).toUInt32 >>> (((1) : Int32).toUInt32 &&& Int32.toUInt32 31)).toInt32 &&& (1431655765)))).toUInt32 >>> (((2) : Int32).toUInt32 &&& Int32.toUInt32 31)).toInt32 &&& (858993459))) + (((((a0 - (((a0).toUInt32 >>> (((1) : Int32).toUInt32 &&& Int32.toUInt32 31)).toInt32 &&& (1431655765))) &&& (858993459)) + ((((a0 - (((a0).toUInt32 >>> (((1) : Int32).toUInt32 &&& Int32.toUInt32 31)).toInt32 &&& (1431655765)))).toUInt32 >>> (((2) : Int32).toUInt32 &&& Int32.toUInt32 31)).toInt32 &&& (858993459)))).toUInt32 >>> (((4) : Int32).toUInt32 &&& Int32.toUInt32 31)).toInt32) &&& (252645135)) + (((((((a0 - (((a0).toUInt32 >>> (((1) : Int32).toUInt32 &&& Int32.toUInt32 31)).toInt32 &&& (1431655765))) &&& (858993459)) + ((((a0 - (((a0).toUInt32 >>> (((1) : Int32).toUInt32 &&& Int32.toUInt32 31)).toInt32 &&& (1431655765)))).toUInt32 >>> (((2) : Int32).toUInt32 &&& Int32.toUInt32 31)).toInt32 &&& (858993459))) + (((((a0 - (((a0).toUInt32 >>> (((1) : Int32).toUInt32 &&& Int32.toUInt32 31)).toInt32 &&& (1431655765))) &&& (858993459)) + ((((a0 - (((a0).toUInt32 >>> (((1) : Int32).toUInt32 &&& Int32.toUInt32 31)).toInt32 &&& (1431655765)))).toUInt32 >>> (((2) : Int32).toUInt32 &&& Int32.toUInt32 31)).toInt32 &&& (858993459)))).toUInt32 >>> (((4) : Int32).toUInt32 &&& Int32.toUInt32 31)).toInt32) &&& (252645135))).toUInt32 >>> (((8) : Int32).toUInt32 &&& Int32.toUInt32 31)).toInt32)).toUInt32 >>> (((16) : Int32).toUInt32 &&& Int32.toUInt32 31)).toInt32)] [] s _
  refine g_iload_n (pc := 48) K 0 dJ6_bitCount_0f7a4_48 rfl rfl ?_
  refine g_bipush (pc := 49) K (63) dJ6_bitCount_0f7a4_49 (by decide) ?_
  refine g_iand (pc := 51) K dJ6_bitCount_0f7a4_51 ?_
  exact g_ir (pc := 52) hR dJ6_bitCount_0f7a4_52
theorem qJ6_bitCount_0f7a4 (E : Ce) (a0 : Int32) : Con E yJ6_bitCount_0f7a4 cJ6_bitCount_0f7a4 1 (some .int) 1 [.int a0] (M_J6_bitCount_0f7a4 a0) :=
  Con.ofF plain_bitCount (List.forall_mem_cons.mpr ⟨rfl, fun _ h => absurd h List.not_mem_nil⟩) (Nat.le_of_ble_eq_true rfl) rfl [.int a0] ⟨rfl, trivial⟩ (fun X s hE hok hI => by subst hE; exact tJ6_bitCount_0f7a4 hok (hI rfl) a0 s)
theorem hyX1_askedBehind : yX1_askedBehind.cls ≠ "java/lang/invoke/MethodHandle" ∧ yX1_askedBehind.cls ≠ "java/lang/invoke/VarHandle" ∧ (parseMethodDescriptor yX1_askedBehind.desc).map (fun d => d.parameters.length) = some 2 := by decide +kernel
set_option maxRecDepth 20000 in
set_option maxHeartbeats 4000000 in
theorem tM_X1_askedBehind_L11 {X : Cx} (K : Ok X cX1_askedBehind RX1 6 2) (hR : RI X cX1_askedBehind) (k : Nat) (hk : Frm k) (x2 : Int32) (x3 : Int32) (kk : Int32 → St → Option (Int32 × St)) (hkk : ∀ (x4 : Int32) (s : St), G X 57 [.null, .null, .null, .null, .int x4, .null] [] s (kk x4 s)) : ∀ (fu : Nat) (x4 x5 : Int32) (s : St), G X 11 [.ref (X.B + k), .null, .int x2, .int x3, .int x4, .int x5] [] s (M_X1_askedBehind_L11 k x2 x3 kk fu x4 x5 s) := by
  intro fu
  induction fu with
  | zero => intro x4 x5 s; exact g_none
  | succ fu ih =>
    intro x4 x5 s
    rw [M_X1_askedBehind_L11]
    refine g_iload (pc := 11) K dX1_askedBehind_11 rfl ?_
    refine g_aload_n (pc := 13) K 0 dX1_askedBehind_13 rfl rfl ?_
    refine gg_1_0 (pc := 14) K hk.1 hk.2.1 kX1_27 dX1_askedBehind_14 ?_
    refine g_icmp_ge (pc := 17) K 57 dX1_askedBehind_17 (by decide) ?_ ?_
    · exact g_wk (hkk x4 s) ⟨rfl, trivial⟩
    · refine g_aload_n (pc := 20) K 0 dX1_askedBehind_20 rfl rfl ?_
      refine gg_1_3 (pc := 21) K hk.1 hk.2.1 kX1_18 dX1_askedBehind_21 (k + 3) rfl ?_
      refine g_iload (pc := 24) K dX1_askedBehind_24 rfl ?_
      refine g_iaload (pc := 26) K hk.2.2.2.2.1.1 hk.2.2.2.2.1.2.1 hk.2.2.2.2.1.2.2 dX1_askedBehind_26 (fun v3 => ?_)
      refine g_iload_n (pc := 27) K 2 dX1_askedBehind_27 rfl rfl ?_
      refine g_jn (κ := Int32 → St → Option (Int32 × St)) (fun kj4 => ∀ (v5 : Int32) (s6 : St), G X 51 [.ref (X.B + k), .null, .int x2, .int x3, .int v5, .int x5] [] s6 (kj4 v5 s6)) (fun v5 s6 => ?_) (fun kj4 hkj4 => ?_)
      · refine g_iinc (pc := 51) K (1) dX1_askedBehind_51 rfl (by decide) (by decide) ?_
        change G X 54 [.ref (X.B + k), .null, .int x2, .int x3, .int v5, .int (x5 + (1))] [] s6 _
        refine g_goto (pc := 54) K 11 dX1_askedBehind_54 (by decide) ?_
        exact g_wk (ih v5 (x5 + (1)) s6) ⟨rfl, ⟨rfl, ⟨rfl, ⟨rfl, ⟨rfl, trivial⟩⟩⟩⟩⟩
      · refine g_jn (κ := St → Option (Int32 × St)) (fun kj7 => ∀ (s8 : St), G X 42 [.ref (X.B + k), .null, .int x2, .int x3, .int x4, .int x5] [] s8 (kj7 s8)) (fun s8 => ?_) (fun kj7 hkj7 => ?_)
        · refine g_iload (pc := 42) K dX1_askedBehind_42 rfl ?_
          refine g_iconst (pc := 44) K (1) dX1_askedBehind_44 (by decide) ?_
          refine g_iload (pc := 45) K dX1_askedBehind_45 rfl ?_
          refine g_ishl (pc := 47) K dX1_askedBehind_47 ?_
          refine g_ior (pc := 48) K dX1_askedBehind_48 ?_
          refine g_istore (pc := 49) K dX1_askedBehind_49 (by decide) ?_
          change G X 51 [.ref (X.B + k), .null, .int x2, .int x3, .int (x4 ||| ((1) <<< (x5 &&& 31))), .int x5] [] s8 _
          exact g_wk (hkj4 (x4 ||| ((1) <<< (x5 &&& 31))) s8) ⟨rfl, ⟨rfl, ⟨rfl, ⟨rfl, ⟨rfl, trivial⟩⟩⟩⟩⟩
        · refine g_icmp_le (pc := 28) K 42 dX1_askedBehind_28 (by decide) ?_ ?_
          · exact g_wk (hkj7  s) ⟨rfl, ⟨rfl, ⟨rfl, ⟨rfl, ⟨rfl, trivial⟩⟩⟩⟩⟩
          · refine g_aload_n (pc := 31) K 0 dX1_askedBehind_31 rfl rfl ?_
            refine gg_1_4 (pc := 32) K hk.1 hk.2.1 kX1_21 dX1_askedBehind_32 (k + 4) rfl ?_
            refine g_iload (pc := 35) K dX1_askedBehind_35 rfl ?_
            refine g_iaload (pc := 37) K hk.2.2.2.2.2.1.1 hk.2.2.2.2.2.1.2.1 hk.2.2.2.2.2.1.2.2 dX1_askedBehind_37 (fun v9 => ?_)
            refine g_iload_n (pc := 38) K 3 dX1_askedBehind_38 rfl rfl ?_
            refine g_icmp_gt (pc := 39) K 51 dX1_askedBehind_39 (by decide) ?_ ?_
            · exact g_wk (hkj4 x4 s) ⟨rfl, ⟨rfl, ⟨rfl, ⟨rfl, ⟨rfl, trivial⟩⟩⟩⟩⟩
            · exact g_wk (hkj7  s) ⟨rfl, ⟨rfl, ⟨rfl, ⟨rfl, ⟨rfl, trivial⟩⟩⟩⟩⟩
set_option maxRecDepth 20000 in
set_option maxHeartbeats 4000000 in
theorem tX1_askedBehind {X : Cx} (K : Ok X cX1_askedBehind RX1 6 2) (hR : RI X cX1_askedBehind) (k : Nat) (hk : Frm k) (a1 : Int32) (a2 : Int32) (s : St) : G X 0 [.ref (X.B + k), .int a1, .int a2, .null, .null, .null] [] s (M_X1_askedBehind k a1 a2 s) := by
  unfold M_X1_askedBehind
  refine g_iload_n (pc := 0) K 1 dX1_askedBehind_0 rfl rfl ?_
  refine g_callS (pc := 1) (S := []) K (qJ6_bitCount_0f7a4 X.E a1) (by decide) (by decide) wcJ6_bitCount_0f7a4 wiJ6 kX1_35 wtJ6_bitCount_0f7a4 hyJ6_bitCount_0f7a4 rfl rfl (Nat.le_of_ble_eq_true rfl) dX1_askedBehind_1 (fun r1 s2 => ?_)
  change G X 4 [.ref (X.B + k), .int a1, .int a2, .null, .null, .null] [.int r1] s2 _
  refine g_istore_n (pc := 4) K 3 dX1_askedBehind_4 rfl (by decide) ?_
  change G X 5 [.ref (X.B + k), .int a1, .int a2, .int r1, .null, .null] [] s2 _
  refine g_iload_n (pc := 5) K 1 dX1_askedBehind_5 rfl rfl ?_
  refine g_istore (pc := 6) K dX1_askedBehind_6 (by decide) ?_
  change G X 8 [.ref (X.B + k), .int a1, .int a2, .int r1, .int a1, .null] [] s2 _
  refine g_iconst (pc := 8) K (0) dX1_askedBehind_8 (by decide) ?_
  refine g_istore (pc := 9) K dX1_askedBehind_9 (by decide) ?_
  change G X 11 [.ref (X.B + k), .int a1, .int a2, .int r1, .int a1, .int (0)] [] s2 _
  refine g_weak (L' := [.ref (X.B + k), .null, .int a2, .int r1, .int a1, .int (0)]) ⟨rfl, ⟨rfl, ⟨rfl, ⟨rfl, ⟨rfl, trivial⟩⟩⟩⟩⟩ ?_
  refine tM_X1_askedBehind_L11 K hR k hk a2 r1 _ (fun v10 s11 => ?_) 400 a1 (0) s2
  refine g_iload (pc := 57) K dX1_askedBehind_57 rfl ?_
  exact g_ir (pc := 59) hR dX1_askedBehind_59
theorem qX1_askedBehind (E : Ce) (k : Nat) (hk : Frm k) (a1 : Int32) (a2 : Int32) : Con E yX1_askedBehind cX1_askedBehind 6 (some .int) 2 [.ref (E.B + k), .int a1, .int a2] (M_X1_askedBehind k a1 a2) :=
  Con.of (by decide) (List.forall_mem_cons.mpr ⟨rfl, List.forall_mem_cons.mpr ⟨rfl, List.forall_mem_cons.mpr ⟨rfl, fun _ h => absurd h List.not_mem_nil⟩⟩⟩) (Nat.le_of_ble_eq_true rfl) (Or.inr (Or.inl rfl)) [.ref (E.B + k), .int a1, .int a2, .null, .null, .null] ⟨rfl, ⟨rfl, ⟨rfl, trivial⟩⟩⟩ (fun X s hE hok hI hZ hV => by subst hE; exact tX1_askedBehind hok (hI rfl) k hk a1 a2 s)
theorem hyX3_copyFrom : yX3_copyFrom.cls ≠ "java/lang/invoke/MethodHandle" ∧ yX3_copyFrom.cls ≠ "java/lang/invoke/VarHandle" ∧ (parseMethodDescriptor yX3_copyFrom.desc).map (fun d => d.parameters.length) = some 1 := by decide +kernel
set_option maxRecDepth 20000 in
set_option maxHeartbeats 4000000 in
theorem tM_X3_copyFrom_L18 {X : Cx} (K : Ok X cX3_copyFrom RX3 3 1) (hR : RV X cX3_copyFrom) (k : Nat) (k1 : Nat) (hk : Scn k) (hk1 : Scn k1) (kk : St → Option (Int32 × St)) (hkk : ∀ (s : St), G X 54 [.null, .null, .null] [] s (kk s)) : ∀ (fu : Nat) (x2 : Int32) (s : St), G X 18 [.ref (X.B + k), .ref (X.B + k1), .int x2] [] s (M_X3_copyFrom_L18 k k1 kk fu x2 s) := by
  intro fu
  induction fu with
  | zero => intro x2 s; exact g_none
  | succ fu ih =>
    intro x2 s
    rw [M_X3_copyFrom_L18]
    refine g_iload_n (pc := 18) K 2 dX3_copyFrom_18 rfl rfl ?_
    refine g_bipush (pc := 19) K (6) dX3_copyFrom_19 (by decide) ?_
    refine g_icmp_ge (pc := 21) K 54 dX3_copyFrom_21 (by decide) ?_ ?_
    · exact g_wk (hkk  s) trivial
    · refine g_aload_n (pc := 24) K 0 dX3_copyFrom_24 rfl rfl ?_
      refine gg_3_3 (pc := 25) K hk.1 hk.2.1 kX3_9 dX3_copyFrom_25 (k + 1) rfl ?_
      refine g_iload_n (pc := 28) K 2 dX3_copyFrom_28 rfl rfl ?_
      refine g_aload_n (pc := 29) K 1 dX3_copyFrom_29 rfl rfl ?_
      refine gg_3_3 (pc := 30) K hk1.1 hk1.2.1 kX3_9 dX3_copyFrom_30 (k1 + 1) rfl ?_
      refine g_iload_n (pc := 33) K 2 dX3_copyFrom_33 rfl rfl ?_
      refine g_iaload (pc := 34) K hk1.2.2.1.1 hk1.2.2.1.2.1 hk1.2.2.1.2.2 dX3_copyFrom_34 (fun v3 => ?_)
      refine g_iastore (pc := 35) K hk.2.2.1.1 hk.2.2.1.2.1 hk.2.2.1.2.2 dX3_copyFrom_35 (fun s4 => ?_)
      refine g_aload_n (pc := 36) K 0 dX3_copyFrom_36 rfl rfl ?_
      refine gg_3_4 (pc := 37) K hk.1 hk.2.1 kX3_15 dX3_copyFrom_37 (k + 2) rfl ?_
      refine g_iload_n (pc := 40) K 2 dX3_copyFrom_40 rfl rfl ?_
      refine g_aload_n (pc := 41) K 1 dX3_copyFrom_41 rfl rfl ?_
      refine gg_3_4 (pc := 42) K hk1.1 hk1.2.1 kX3_15 dX3_copyFrom_42 (k1 + 2) rfl ?_
      refine g_iload_n (pc := 45) K 2 dX3_copyFrom_45 rfl rfl ?_
      refine g_iaload (pc := 46) K hk1.2.2.2.1 hk1.2.2.2.2.1 hk1.2.2.2.2.2 dX3_copyFrom_46 (fun v5 => ?_)
      refine g_iastore (pc := 47) K hk.2.2.2.1 hk.2.2.2.2.1 hk.2.2.2.2.2 dX3_copyFrom_47 (fun s6 => ?_)
      refine g_iinc (pc := 48) K (1) dX3_copyFrom_48 rfl (by decide) (by decide) ?_
      change G X 51 [.ref (X.B + k), .ref (X.B + k1), .int (x2 + (1))] [] s6 _
      refine g_goto (pc := 51) K 18 dX3_copyFrom_51 (by decide) ?_
      exact g_wk (ih (x2 + (1)) s6) ⟨rfl, ⟨rfl, ⟨rfl, trivial⟩⟩⟩
set_option maxRecDepth 20000 in
set_option maxHeartbeats 4000000 in
theorem tX3_copyFrom {X : Cx} (K : Ok X cX3_copyFrom RX3 3 1) (hR : RV X cX3_copyFrom) (k : Nat) (k1 : Nat) (hk : Scn k) (hk1 : Scn k1) (s : St) : G X 0 [.ref (X.B + k), .ref (X.B + k1), .null] [] s (M_X3_copyFrom k k1 s) := by
  unfold M_X3_copyFrom
  refine g_aload_n (pc := 0) K 0 dX3_copyFrom_0 rfl rfl ?_
  refine g_aload_n (pc := 1) K 1 dX3_copyFrom_1 rfl rfl ?_
  refine gg_3_1 (pc := 2) K hk1.1 hk1.2.1 kX3_22 dX3_copyFrom_2 ?_
  refine gp_3_1 (pc := 5) K hk.1 hk.2.1 kX3_22 dX3_copyFrom_5 (fun s1 => ?_)
  refine g_aload_n (pc := 8) K 0 dX3_copyFrom_8 rfl rfl ?_
  refine g_aload_n (pc := 9) K 1 dX3_copyFrom_9 rfl rfl ?_
  refine gg_3_2 (pc := 10) K hk1.1 hk1.2.1 kX3_26 dX3_copyFrom_10 ?_
  refine gp_3_2 (pc := 13) K hk.1 hk.2.1 kX3_26 dX3_copyFrom_13 (fun s2 => ?_)
  refine g_iconst (pc := 16) K (0) dX3_copyFrom_16 (by decide) ?_
  refine g_istore_n (pc := 17) K 2 dX3_copyFrom_17 rfl (by decide) ?_
  change G X 18 [.ref (X.B + k), .ref (X.B + k1), .int (0)] [] s2 _
  refine g_weak (L' := [.ref (X.B + k), .ref (X.B + k1), .int (0)]) ⟨rfl, ⟨rfl, ⟨rfl, trivial⟩⟩⟩ ?_
  refine tM_X3_copyFrom_L18 K hR k k1 hk hk1 _ (fun s7 => ?_) 400 (0) s2
  exact g_vr (pc := 54) hR dX3_copyFrom_54
theorem qX3_copyFrom (E : Ce) (k : Nat) (k1 : Nat) (hk : Scn k) (hk1 : Scn k1) : Con E yX3_copyFrom cX3_copyFrom 3 none 1 [.ref (E.B + k), .ref (E.B + k1)] (M_X3_copyFrom k k1) :=
  Con.of (by decide) (List.forall_mem_cons.mpr ⟨rfl, List.forall_mem_cons.mpr ⟨rfl, fun _ h => absurd h List.not_mem_nil⟩⟩) (Nat.le_of_ble_eq_true rfl) (Or.inl rfl) [.ref (E.B + k), .ref (E.B + k1), .null] ⟨rfl, ⟨rfl, trivial⟩⟩ (fun X s hE hok hI hZ hV => by subst hE; exact tX3_copyFrom hok (hV rfl) k k1 hk hk1 s)
theorem hyX2_push : yX2_push.cls ≠ "java/lang/invoke/MethodHandle" ∧ yX2_push.cls ≠ "java/lang/invoke/VarHandle" ∧ (parseMethodDescriptor yX2_push.desc).map (fun d => d.parameters.length) = some 1 := by decide +kernel
set_option maxRecDepth 20000 in
set_option maxHeartbeats 4000000 in
theorem tX2_push {X : Cx} (K : Ok X cX2_push RX2 2 2) (hR : RV X cX2_push) (k1 : Nat) (hk1 : Scn k1) (s : St) : G X 0 [.ref (X.B + 21), .ref (X.B + k1)] [] s (M_X2_push k1 s) := by
  unfold M_X2_push
  refine g_aload_n (pc := 0) K 0 dX2_push_0 rfl rfl ?_
  refine gg_2_0 (pc := 1) K (by decide) kd_21 kX2_11 dX2_push_1 ?_
  refine g_aload_n (pc := 4) K 0 dX2_push_4 rfl rfl ?_
  refine gg_2_1 (pc := 5) K (by decide) kd_21 kX2_20 dX2_push_5 ?_
  refine g_aald (pc := 8) K (by decide) kd_22 ln_22 Scn sc22 dX2_push_8 (fun j1 hj1 => ?_)
  refine g_aload_n (pc := 9) K 1 dX2_push_9 rfl rfl ?_
  refine g_callVN (pc := 10) (S := []) K (qX3_copyFrom X.E j1 k1 hj1 hk1) hj1.1 (ci := 3) rfl (fun _ => ⟨_, ce_3 hj1.2.1⟩) (by decide) (by decide) wcX3_copyFrom wiX3 kX2_24 wmX3_copyFrom weX3_copyFrom hyX3_copyFrom rfl rfl (Nat.le_of_ble_eq_true rfl) dX2_push_10 (fun r2 s3 => ?_)
  change G X 13 [.ref (X.B + 21), .ref (X.B + k1)] [] s3 _
  refine g_aload_n (pc := 13) K 0 dX2_push_13 rfl rfl ?_
  refine g_aload_n (pc := 14) K 0 dX2_push_14 rfl rfl ?_
  refine gg_2_1 (pc := 15) K (by decide) kd_21 kX2_20 dX2_push_15 ?_
  refine g_bipush (pc := 18) K (9) dX2_push_18 (by decide) ?_
  refine g_jn (κ := Int32 → St → Option (Int32 × St)) (fun kj4 => ∀ (v5 : Int32) (s6 : St), G X 33 [.ref (X.B + 21), .null] [.int v5, .ref (X.B + 21)] s6 (kj4 v5 s6)) (fun v5 s6 => ?_) (fun kj4 hkj4 => ?_)
  · refine gp_2_1 (pc := 33) K (by decide) kd_21 kX2_20 dX2_push_33 (fun s7 => ?_)
    refine g_aload_n (pc := 36) K 0 dX2_push_36 rfl rfl ?_
    refine g_aload_n (pc := 37) K 0 dX2_push_37 rfl rfl ?_
    refine gg_2_2 (pc := 38) K (by decide) kd_21 kX2_28 dX2_push_38 ?_
    refine g_iconst (pc := 41) K (1) dX2_push_41 (by decide) ?_
    refine g_iadd (pc := 42) K dX2_push_42 ?_
    refine g_bipush (pc := 43) K (10) dX2_push_43 (by decide) ?_
    refine g_mmin (pc := 45) K (by omega) kX2_31 (Nat.le_of_ble_eq_true rfl) dX2_push_45 ?_
    refine gp_2_2 (pc := 48) K (by decide) kd_21 kX2_28 dX2_push_48 (fun s8 => ?_)
    exact g_vr (pc := 51) hR dX2_push_51
  · refine g_icmp_ne (pc := 20) K 27 dX2_push_20 (by decide) ?_ ?_
    · refine g_aload_n (pc := 27) K 0 dX2_push_27 rfl rfl ?_
      refine gg_2_1 (pc := 28) K (by decide) kd_21 kX2_20 dX2_push_28 ?_
      refine g_iconst (pc := 31) K (1) dX2_push_31 (by decide) ?_
      refine g_iadd (pc := 32) K dX2_push_32 ?_
      exact g_wk (hkj4 ((s3.1 21 1) + (1)) s3) ⟨rfl, trivial⟩
    · refine g_iconst (pc := 23) K (0) dX2_push_23 (by decide) ?_
      refine g_goto (pc := 24) K 33 dX2_push_24 (by decide) ?_
      exact g_wk (hkj4 (0) s3) ⟨rfl, trivial⟩
theorem qX2_push (E : Ce) (k1 : Nat) (hk1 : Scn k1) : Con E yX2_push cX2_push 2 none 2 [.ref (E.B + 21), .ref (E.B + k1)] (M_X2_push k1) :=
  Con.of (by decide) (List.forall_mem_cons.mpr ⟨rfl, List.forall_mem_cons.mpr ⟨rfl, fun _ h => absurd h List.not_mem_nil⟩⟩) (Nat.le_of_ble_eq_true rfl) (Or.inl rfl) [.ref (E.B + 21), .ref (E.B + k1)] ⟨rfl, ⟨rfl, trivial⟩⟩ (fun X s hE hok hI hZ hV => by subst hE; exact tX2_push hok (hV rfl) k1 hk1 s)
theorem hyX2_pop : yX2_pop.cls ≠ "java/lang/invoke/MethodHandle" ∧ yX2_pop.cls ≠ "java/lang/invoke/VarHandle" ∧ (parseMethodDescriptor yX2_pop.desc).map (fun d => d.parameters.length) = some 1 := by decide +kernel
set_option maxRecDepth 20000 in
set_option maxHeartbeats 4000000 in
theorem tX2_pop {X : Cx} (K : Ok X cX2_pop RX2 2 2) (hR : RV X cX2_pop) (k1 : Nat) (hk1 : Scn k1) (s : St) : G X 0 [.ref (X.B + 21), .ref (X.B + k1)] [] s (M_X2_pop k1 s) := by
  unfold M_X2_pop
  refine g_aload_n (pc := 0) K 0 dX2_pop_0 rfl rfl ?_
  refine g_aload_n (pc := 1) K 0 dX2_pop_1 rfl rfl ?_
  refine gg_2_1 (pc := 2) K (by decide) kd_21 kX2_20 dX2_pop_2 ?_
  refine g_jn (κ := Int32 → St → Option (Int32 × St)) (fun kj1 => ∀ (v2 : Int32) (s3 : St), G X 19 [.ref (X.B + 21), .ref (X.B + k1)] [.int v2, .ref (X.B + 21)] s3 (kj1 v2 s3)) (fun v2 s3 => ?_) (fun kj1 hkj1 => ?_)
  · refine gp_2_1 (pc := 19) K (by decide) kd_21 kX2_20 dX2_pop_19 (fun s4 => ?_)
    refine g_aload_n (pc := 22) K 0 dX2_pop_22 rfl rfl ?_
    refine g_dup (pc := 23) K dX2_pop_23 rfl ?_
    refine gg_2_2 (pc := 24) K (by decide) kd_21 kX2_28 dX2_pop_24 ?_
    refine g_iconst (pc := 27) K (1) dX2_pop_27 (by decide) ?_
    refine g_isub (pc := 28) K dX2_pop_28 ?_
    refine gp_2_2 (pc := 29) K (by decide) kd_21 kX2_28 dX2_pop_29 (fun s5 => ?_)
    refine g_aload_n (pc := 32) K 1 dX2_pop_32 rfl rfl ?_
    refine g_aload_n (pc := 33) K 0 dX2_pop_33 rfl rfl ?_
    refine gg_2_0 (pc := 34) K (by decide) kd_21 kX2_11 dX2_pop_34 ?_
    refine g_aload_n (pc := 37) K 0 dX2_pop_37 rfl rfl ?_
    refine gg_2_1 (pc := 38) K (by decide) kd_21 kX2_20 dX2_pop_38 ?_
    refine g_aald (pc := 41) K (by decide) kd_22 ln_22 Scn sc22 dX2_pop_41 (fun j6 hj6 => ?_)
    refine g_callVN (pc := 42) (S := []) K (qX3_copyFrom X.E k1 j6 hk1 hj6) hk1.1 (ci := 3) rfl (fun _ => ⟨_, ce_3 hk1.2.1⟩) (by decide) (by decide) wcX3_copyFrom wiX3 kX2_24 wmX3_copyFrom weX3_copyFrom hyX3_copyFrom rfl rfl (Nat.le_of_ble_eq_true rfl) dX2_pop_42 (fun r7 s8 => ?_)
    change G X 45 [.ref (X.B + 21), .ref (X.B + k1)] [] s8 _
    exact g_vr (pc := 45) hR dX2_pop_45
  · refine g_if_ne (pc := 5) K 13 dX2_pop_5 (by decide) ?_ ?_
    · refine g_aload_n (pc := 13) K 0 dX2_pop_13 rfl rfl ?_
      refine gg_2_1 (pc := 14) K (by decide) kd_21 kX2_20 dX2_pop_14 ?_
      refine g_iconst (pc := 17) K (1) dX2_pop_17 (by decide) ?_
      refine g_isub (pc := 18) K dX2_pop_18 ?_
      exact g_wk (hkj1 ((s.1 21 1) - (1)) s) ⟨rfl, ⟨rfl, trivial⟩⟩
    · refine g_bipush (pc := 8) K (9) dX2_pop_8 (by decide) ?_
      refine g_goto (pc := 10) K 19 dX2_pop_10 (by decide) ?_
      exact g_wk (hkj1 (9) s) ⟨rfl, ⟨rfl, trivial⟩⟩
theorem qX2_pop (E : Ce) (k1 : Nat) (hk1 : Scn k1) : Con E yX2_pop cX2_pop 2 none 2 [.ref (E.B + 21), .ref (E.B + k1)] (M_X2_pop k1) :=
  Con.of (by decide) (List.forall_mem_cons.mpr ⟨rfl, List.forall_mem_cons.mpr ⟨rfl, fun _ h => absurd h List.not_mem_nil⟩⟩) (Nat.le_of_ble_eq_true rfl) (Or.inl rfl) [.ref (E.B + 21), .ref (E.B + k1)] ⟨rfl, ⟨rfl, trivial⟩⟩ (fun X s hE hok hI hZ hV => by subst hE; exact tX2_pop hok (hV rfl) k1 hk1 s)
theorem hyX3_begin : yX3_begin.cls ≠ "java/lang/invoke/MethodHandle" ∧ yX3_begin.cls ≠ "java/lang/invoke/VarHandle" ∧ (parseMethodDescriptor yX3_begin.desc).map (fun d => d.parameters.length) = some 0 := by decide +kernel
set_option maxRecDepth 20000 in
set_option maxHeartbeats 4000000 in
theorem tM_X3_begin_L12 {X : Cx} (K : Ok X cX3_begin RX3 2 1) (hR : RV X cX3_begin) (k : Nat) (hk : Scn k) (kk : St → Option (Int32 × St)) (hkk : ∀ (s : St), G X 54 [.null, .null] [] s (kk s)) : ∀ (fu : Nat) (x1 : Int32) (s : St), G X 12 [.ref (X.B + k), .int x1] [] s (M_X3_begin_L12 k kk fu x1 s) := by
  intro fu
  induction fu with
  | zero => intro x1 s; exact g_none
  | succ fu ih =>
    intro x1 s
    rw [M_X3_begin_L12]
    refine g_iload_n (pc := 12) K 1 dX3_begin_12 rfl rfl ?_
    refine g_bipush (pc := 13) K (6) dX3_begin_13 (by decide) ?_
    refine g_icmp_ge (pc := 15) K 54 dX3_begin_15 (by decide) ?_ ?_
    · exact g_wk (hkk  s) trivial
    · refine g_aload_n (pc := 18) K 0 dX3_begin_18 rfl rfl ?_
      refine gg_3_3 (pc := 19) K hk.1 hk.2.1 kX3_9 dX3_begin_19 (k + 1) rfl ?_
      refine g_iload_n (pc := 22) K 1 dX3_begin_22 rfl rfl ?_
      refine g_aload_n (pc := 23) K 0 dX3_begin_23 rfl rfl ?_
      refine gg_3_0 (pc := 24) K hk.1 hk.2.1 kX3_18 dX3_begin_24 ?_
      refine gg_1_2 (pc := 27) K (by decide) kd_9 kX3_29 dX3_begin_27 11 rfl ?_
      refine g_iload_n (pc := 30) K 1 dX3_begin_30 rfl rfl ?_
      refine g_iaload (pc := 31) K (by decide) kd_11 ln_11 dX3_begin_31 (fun v3 => ?_)
      refine g_iastore (pc := 32) K hk.2.2.1.1 hk.2.2.1.2.1 hk.2.2.1.2.2 dX3_begin_32 (fun s4 => ?_)
      refine g_aload_n (pc := 33) K 0 dX3_begin_33 rfl rfl ?_
      refine gg_3_4 (pc := 34) K hk.1 hk.2.1 kX3_15 dX3_begin_34 (k + 2) rfl ?_
      refine g_iload_n (pc := 37) K 1 dX3_begin_37 rfl rfl ?_
      refine g_aload_n (pc := 38) K 0 dX3_begin_38 rfl rfl ?_
      refine gg_3_0 (pc := 39) K hk.1 hk.2.1 kX3_18 dX3_begin_39 ?_
      refine gg_1_5 (pc := 42) K (by decide) kd_9 kX3_34 dX3_begin_42 14 rfl ?_
      refine g_iload_n (pc := 45) K 1 dX3_begin_45 rfl rfl ?_
      refine g_iaload (pc := 46) K (by decide) kd_14 ln_14 dX3_begin_46 (fun v5 => ?_)
      refine g_iastore (pc := 47) K hk.2.2.2.1 hk.2.2.2.2.1 hk.2.2.2.2.2 dX3_begin_47 (fun s6 => ?_)
      refine g_iinc (pc := 48) K (1) dX3_begin_48 rfl (by decide) (by decide) ?_
      change G X 51 [.ref (X.B + k), .int (x1 + (1))] [] s6 _
      refine g_goto (pc := 51) K 12 dX3_begin_51 (by decide) ?_
      exact g_wk (ih (x1 + (1)) s6) ⟨rfl, ⟨rfl, trivial⟩⟩
set_option maxRecDepth 20000 in
set_option maxHeartbeats 4000000 in
theorem tX3_begin {X : Cx} (K : Ok X cX3_begin RX3 2 1) (hR : RV X cX3_begin) (k : Nat) (hk : Scn k) (s : St) : G X 0 [.ref (X.B + k), .null] [] s (M_X3_begin k s) := by
  unfold M_X3_begin
  refine g_aload_n (pc := 0) K 0 dX3_begin_0 rfl rfl ?_
  refine g_iconst (pc := 1) K (0) dX3_begin_1 (by decide) ?_
  refine gp_3_1 (pc := 2) K hk.1 hk.2.1 kX3_22 dX3_begin_2 (fun s1 => ?_)
  refine g_aload_n (pc := 5) K 0 dX3_begin_5 rfl rfl ?_
  refine g_iconst (pc := 6) K (0) dX3_begin_6 (by decide) ?_
  refine gp_3_2 (pc := 7) K hk.1 hk.2.1 kX3_26 dX3_begin_7 (fun s2 => ?_)
  refine g_iconst (pc := 10) K (0) dX3_begin_10 (by decide) ?_
  refine g_istore_n (pc := 11) K 1 dX3_begin_11 rfl (by decide) ?_
  change G X 12 [.ref (X.B + k), .int (0)] [] s2 _
  refine g_weak (L' := [.ref (X.B + k), .int (0)]) ⟨rfl, ⟨rfl, trivial⟩⟩ ?_
  refine tM_X3_begin_L12 K hR k hk _ (fun s7 => ?_) 400 (0) s2
  exact g_vr (pc := 54) hR dX3_begin_54
theorem qX3_begin (E : Ce) (k : Nat) (hk : Scn k) : Con E yX3_begin cX3_begin 2 none 1 [.ref (E.B + k)] (M_X3_begin k) :=
  Con.of (by decide) (List.forall_mem_cons.mpr ⟨rfl, fun _ h => absurd h List.not_mem_nil⟩) (Nat.le_of_ble_eq_true rfl) (Or.inl rfl) [.ref (E.B + k), .null] ⟨rfl, trivial⟩ (fun X s hE hok hI hZ hV => by subst hE; exact tX3_begin hok (hV rfl) k hk s)
theorem hyX3_hasAsked : yX3_hasAsked.cls ≠ "java/lang/invoke/MethodHandle" ∧ yX3_hasAsked.cls ≠ "java/lang/invoke/VarHandle" ∧ (parseMethodDescriptor yX3_hasAsked.desc).map (fun d => d.parameters.length) = some 1 := by decide +kernel
set_option maxRecDepth 20000 in
set_option maxHeartbeats 4000000 in
theorem tX3_hasAsked {X : Cx} (K : Ok X cX3_hasAsked RX3 2 1) (hR : RZ X cX3_hasAsked) (k : Nat) (hk : Scn k) (a1 : Int32) (s : St) : G X 0 [.ref (X.B + k), .int a1] [] s (M_X3_hasAsked k a1 s) := by
  unfold M_X3_hasAsked
  refine g_aload_n (pc := 0) K 0 dX3_hasAsked_0 rfl rfl ?_
  refine gg_3_2 (pc := 1) K hk.1 hk.2.1 kX3_26 dX3_hasAsked_1 ?_
  refine g_iload_n (pc := 4) K 1 dX3_hasAsked_4 rfl rfl ?_
  refine g_ishr (pc := 5) K dX3_hasAsked_5 ?_
  refine g_iconst (pc := 6) K (1) dX3_hasAsked_6 (by decide) ?_
  refine g_iand (pc := 7) K dX3_hasAsked_7 ?_
  refine g_iconst (pc := 8) K (1) dX3_hasAsked_8 (by decide) ?_
  refine g_icmp_ne (pc := 9) K 16 dX3_hasAsked_9 (by decide) ?_ ?_
  · refine g_iconst (pc := 16) K (0) dX3_hasAsked_16 (by decide) ?_
    exact g_zr0 (pc := 17) hR dX3_hasAsked_17
  · refine g_iconst (pc := 12) K (1) dX3_hasAsked_12 (by decide) ?_
    refine g_goto (pc := 13) K 17 dX3_hasAsked_13 (by decide) ?_
    exact g_zr1 (pc := 17) hR dX3_hasAsked_17
theorem qX3_hasAsked (E : Ce) (k : Nat) (hk : Scn k) (a1 : Int32) : Con E yX3_hasAsked cX3_hasAsked 2 (some .boolean) 1 [.ref (E.B + k), .int a1] (M_X3_hasAsked k a1) :=
  Con.of (by decide) (List.forall_mem_cons.mpr ⟨rfl, List.forall_mem_cons.mpr ⟨rfl, fun _ h => absurd h List.not_mem_nil⟩⟩) (Nat.le_of_ble_eq_true rfl) (Or.inr (Or.inr rfl)) [.ref (E.B + k), .int a1] ⟨rfl, ⟨rfl, trivial⟩⟩ (fun X s hE hok hI hZ hV => by subst hE; exact tX3_hasAsked hok (hZ rfl) k hk a1 s)
theorem hyX3_hungWith : yX3_hungWith.cls ≠ "java/lang/invoke/MethodHandle" ∧ yX3_hungWith.cls ≠ "java/lang/invoke/VarHandle" ∧ (parseMethodDescriptor yX3_hungWith.desc).map (fun d => d.parameters.length) = some 1 := by decide +kernel
set_option maxRecDepth 20000 in
set_option maxHeartbeats 4000000 in
theorem tM_X3_hungWith_L4 {X : Cx} (K : Ok X cX3_hungWith RX3 4 1) (hR : RI X cX3_hungWith) (k : Nat) (hk : Scn k) (x1 : Int32) (kk : Int32 → St → Option (Int32 × St)) (hkk : ∀ (x2 : Int32) (s : St), G X 37 [.null, .null, .int x2, .null] [] s (kk x2 s)) : ∀ (fu : Nat) (x2 x3 : Int32) (s : St), G X 4 [.ref (X.B + k), .int x1, .int x2, .int x3] [] s (M_X3_hungWith_L4 k x1 kk fu x2 x3 s) := by
  intro fu
  induction fu with
  | zero => intro x2 x3 s; exact g_none
  | succ fu ih =>
    intro x2 x3 s
    rw [M_X3_hungWith_L4]
    refine g_iload_n (pc := 4) K 3 dX3_hungWith_4 rfl rfl ?_
    refine g_aload_n (pc := 5) K 0 dX3_hungWith_5 rfl rfl ?_
    refine gg_3_0 (pc := 6) K hk.1 hk.2.1 kX3_18 dX3_hungWith_6 ?_
    refine gg_1_0 (pc := 9) K (by decide) kd_9 kX3_35 dX3_hungWith_9 ?_
    refine g_icmp_ge (pc := 12) K 37 dX3_hungWith_12 (by decide) ?_ ?_
    · exact g_wk (hkk x2 s) ⟨rfl, trivial⟩
    · refine g_aload_n (pc := 15) K 0 dX3_hungWith_15 rfl rfl ?_
      refine gg_3_4 (pc := 16) K hk.1 hk.2.1 kX3_15 dX3_hungWith_16 (k + 2) rfl ?_
      refine g_iload_n (pc := 19) K 3 dX3_hungWith_19 rfl rfl ?_
      refine g_iaload (pc := 20) K hk.2.2.2.1 hk.2.2.2.2.1 hk.2.2.2.2.2 dX3_hungWith_20 (fun v1 => ?_)
      refine g_iload_n (pc := 21) K 1 dX3_hungWith_21 rfl rfl ?_
      refine g_jn (κ := Int32 → St → Option (Int32 × St)) (fun kj2 => ∀ (v3 : Int32) (s4 : St), G X 31 [.ref (X.B + k), .int x1, .int v3, .int x3] [] s4 (kj2 v3 s4)) (fun v3 s4 => ?_) (fun kj2 hkj2 => ?_)
      · refine g_iinc (pc := 31) K (1) dX3_hungWith_31 rfl (by decide) (by decide) ?_
        change G X 34 [.ref (X.B + k), .int x1, .int v3, .int (x3 + (1))] [] s4 _
        refine g_goto (pc := 34) K 4 dX3_hungWith_34 (by decide) ?_
        exact g_wk (ih v3 (x3 + (1)) s4) ⟨rfl, ⟨rfl, ⟨rfl, ⟨rfl, trivial⟩⟩⟩⟩
      · refine g_icmp_ne (pc := 22) K 31 dX3_hungWith_22 (by decide) ?_ ?_
        · exact g_wk (hkj2 x2 s) ⟨rfl, ⟨rfl, ⟨rfl, ⟨rfl, trivial⟩⟩⟩⟩
        · refine g_iload_n (pc := 25) K 2 dX3_hungWith_25 rfl rfl ?_
          refine g_iconst (pc := 26) K (1) dX3_hungWith_26 (by decide) ?_
          refine g_iload_n (pc := 27) K 3 dX3_hungWith_27 rfl rfl ?_
          refine g_ishl (pc := 28) K dX3_hungWith_28 ?_
          refine g_ior (pc := 29) K dX3_hungWith_29 ?_
          refine g_istore_n (pc := 30) K 2 dX3_hungWith_30 rfl (by decide) ?_
          change G X 31 [.ref (X.B + k), .int x1, .int (x2 ||| ((1) <<< (x3 &&& 31))), .int x3] [] s _
          exact g_wk (hkj2 (x2 ||| ((1) <<< (x3 &&& 31))) s) ⟨rfl, ⟨rfl, ⟨rfl, ⟨rfl, trivial⟩⟩⟩⟩
set_option maxRecDepth 20000 in
set_option maxHeartbeats 4000000 in
theorem tX3_hungWith {X : Cx} (K : Ok X cX3_hungWith RX3 4 1) (hR : RI X cX3_hungWith) (k : Nat) (hk : Scn k) (a1 : Int32) (s : St) : G X 0 [.ref (X.B + k), .int a1, .null, .null] [] s (M_X3_hungWith k a1 s) := by
  unfold M_X3_hungWith
  refine g_iconst (pc := 0) K (0) dX3_hungWith_0 (by decide) ?_
  refine g_istore_n (pc := 1) K 2 dX3_hungWith_1 rfl (by decide) ?_
  change G X 2 [.ref (X.B + k), .int a1, .int (0), .null] [] s _
  refine g_iconst (pc := 2) K (0) dX3_hungWith_2 (by decide) ?_
  refine g_istore_n (pc := 3) K 3 dX3_hungWith_3 rfl (by decide) ?_
  change G X 4 [.ref (X.B + k), .int a1, .int (0), .int (0)] [] s _
  refine g_weak (L' := [.ref (X.B + k), .int a1, .int (0), .int (0)]) ⟨rfl, ⟨rfl, ⟨rfl, ⟨rfl, trivial⟩⟩⟩⟩ ?_
  refine tM_X3_hungWith_L4 K hR k hk a1 _ (fun v5 s6 => ?_) 400 (0) (0) s
  refine g_iload_n (pc := 37) K 2 dX3_hungWith_37 rfl rfl ?_
  exact g_ir (pc := 38) hR dX3_hungWith_38
theorem qX3_hungWith (E : Ce) (k : Nat) (hk : Scn k) (a1 : Int32) : Con E yX3_hungWith cX3_hungWith 4 (some .int) 1 [.ref (E.B + k), .int a1] (M_X3_hungWith k a1) :=
  Con.of (by decide) (List.forall_mem_cons.mpr ⟨rfl, List.forall_mem_cons.mpr ⟨rfl, fun _ h => absurd h List.not_mem_nil⟩⟩) (Nat.le_of_ble_eq_true rfl) (Or.inr (Or.inl rfl)) [.ref (E.B + k), .int a1, .null, .null] ⟨rfl, ⟨rfl, trivial⟩⟩ (fun X s hE hok hI hZ hV => by subst hE; exact tX3_hungWith hok (hI rfl) k hk a1 s)
theorem hyX3_ringOf : yX3_ringOf.cls ≠ "java/lang/invoke/MethodHandle" ∧ yX3_ringOf.cls ≠ "java/lang/invoke/VarHandle" ∧ (parseMethodDescriptor yX3_ringOf.desc).map (fun d => d.parameters.length) = some 1 := by decide +kernel
set_option maxRecDepth 20000 in
set_option maxHeartbeats 4000000 in
theorem tM_X3_ringOf_L9 {X : Cx} (K : Ok X cX3_ringOf RX3 4 2) (hR : RI X cX3_ringOf) (k : Nat) (hk : Scn k) (x1 : Int32) (kk : St → Option (Int32 × St)) (hkk : ∀ (s : St), G X 51 [.null, .null, .null, .null] [] s (kk s)) : ∀ (fu : Nat) (x2 x3 : Int32) (s : St), G X 9 [.ref (X.B + k), .int x1, .int x2, .int x3] [] s (M_X3_ringOf_L9 k x1 kk fu x2 x3 s) := by
  intro fu
  induction fu with
  | zero => intro x2 x3 s; exact g_none
  | succ fu ih =>
    intro x2 x3 s
    rw [M_X3_ringOf_L9]
    refine g_iload_n (pc := 9) K 3 dX3_ringOf_9 rfl rfl ?_
    refine g_aload_n (pc := 10) K 0 dX3_ringOf_10 rfl rfl ?_
    refine gg_3_0 (pc := 11) K hk.1 hk.2.1 kX3_18 dX3_ringOf_11 ?_
    refine gg_1_0 (pc := 14) K (by decide) kd_9 kX3_35 dX3_ringOf_14 ?_
    refine g_icmp_gt (pc := 17) K 51 dX3_ringOf_17 (by decide) ?_ ?_
    · exact g_wk (hkk  s) trivial
    · refine g_aload_n (pc := 20) K 0 dX3_ringOf_20 rfl rfl ?_
      refine gg_3_0 (pc := 21) K hk.1 hk.2.1 kX3_18 dX3_ringOf_21 ?_
      refine g_iload_n (pc := 24) K 2 dX3_ringOf_24 rfl rfl ?_
      refine g_callVN (pc := 25) (S := []) K (qX1_has X.E 9 frm_9 x2) (by decide) (ci := 1) rfl (fun _ => ⟨_, ce_1 kd_9⟩) (by decide) (by decide) wcX1_has wiX1 kX3_38 wmX1_has weX1_has hyX1_has rfl rfl (Nat.le_of_ble_eq_true rfl) dX3_ringOf_25 (fun r2 s3 => ?_)
      change G X 28 [.ref (X.B + k), .int x1, .int x2, .int x3] [.int r2] s3 _
      refine g_if_eq (pc := 28) K 51 dX3_ringOf_28 (by decide) ?_ ?_
      · exact g_wk (hkk  s3) trivial
      · refine g_iload_n (pc := 31) K 2 dX3_ringOf_31 rfl rfl ?_
        refine g_iload_n (pc := 32) K 1 dX3_ringOf_32 rfl rfl ?_
        refine g_icmp_ne (pc := 33) K 38 dX3_ringOf_33 (by decide) ?_ ?_
        · refine g_aload_n (pc := 38) K 0 dX3_ringOf_38 rfl rfl ?_
          refine gg_3_4 (pc := 39) K hk.1 hk.2.1 kX3_15 dX3_ringOf_39 (k + 2) rfl ?_
          refine g_iload_n (pc := 42) K 2 dX3_ringOf_42 rfl rfl ?_
          refine g_iaload (pc := 43) K hk.2.2.2.1 hk.2.2.2.2.1 hk.2.2.2.2.2 dX3_ringOf_43 (fun v4 => ?_)
          refine g_istore_n (pc := 44) K 2 dX3_ringOf_44 rfl (by decide) ?_
          change G X 45 [.ref (X.B + k), .int x1, .int v4, .int x3] [] s3 _
          refine g_iinc (pc := 45) K (1) dX3_ringOf_45 rfl (by decide) (by decide) ?_
          change G X 48 [.ref (X.B + k), .int x1, .int v4, .int (x3 + (1))] [] s3 _
          refine g_goto (pc := 48) K 9 dX3_ringOf_48 (by decide) ?_
          exact g_wk (ih v4 (x3 + (1)) s3) ⟨rfl, ⟨rfl, ⟨rfl, ⟨rfl, trivial⟩⟩⟩⟩
        · refine g_iload_n (pc := 36) K 3 dX3_ringOf_36 rfl rfl ?_
          exact g_ir (pc := 37) hR dX3_ringOf_37
set_option maxRecDepth 20000 in
set_option maxHeartbeats 4000000 in
theorem tX3_ringOf {X : Cx} (K : Ok X cX3_ringOf RX3 4 2) (hR : RI X cX3_ringOf) (k : Nat) (hk : Scn k) (a1 : Int32) (s : St) : G X 0 [.ref (X.B + k), .int a1, .null, .null] [] s (M_X3_ringOf k a1 s) := by
  unfold M_X3_ringOf
  refine g_aload_n (pc := 0) K 0 dX3_ringOf_0 rfl rfl ?_
  refine gg_3_4 (pc := 1) K hk.1 hk.2.1 kX3_15 dX3_ringOf_1 (k + 2) rfl ?_
  refine g_iload_n (pc := 4) K 1 dX3_ringOf_4 rfl rfl ?_
  refine g_iaload (pc := 5) K hk.2.2.2.1 hk.2.2.2.2.1 hk.2.2.2.2.2 dX3_ringOf_5 (fun v1 => ?_)
  refine g_istore_n (pc := 6) K 2 dX3_ringOf_6 rfl (by decide) ?_
  change G X 7 [.ref (X.B + k), .int a1, .int v1, .null] [] s _
  refine g_iconst (pc := 7) K (1) dX3_ringOf_7 (by decide) ?_
  refine g_istore_n (pc := 8) K 3 dX3_ringOf_8 rfl (by decide) ?_
  change G X 9 [.ref (X.B + k), .int a1, .int v1, .int (1)] [] s _
  refine g_weak (L' := [.ref (X.B + k), .int a1, .int v1, .int (1)]) ⟨rfl, ⟨rfl, ⟨rfl, ⟨rfl, trivial⟩⟩⟩⟩ ?_
  refine tM_X3_ringOf_L9 K hR k hk a1 _ (fun s5 => ?_) 400 v1 (1) s
  refine g_iconst (pc := 51) K (0) dX3_ringOf_51 (by decide) ?_
  exact g_ir (pc := 52) hR dX3_ringOf_52
theorem qX3_ringOf (E : Ce) (k : Nat) (hk : Scn k) (a1 : Int32) : Con E yX3_ringOf cX3_ringOf 4 (some .int) 2 [.ref (E.B + k), .int a1] (M_X3_ringOf k a1) :=
  Con.of (by decide) (List.forall_mem_cons.mpr ⟨rfl, List.forall_mem_cons.mpr ⟨rfl, fun _ h => absurd h List.not_mem_nil⟩⟩) (Nat.le_of_ble_eq_true rfl) (Or.inr (Or.inl rfl)) [.ref (E.B + k), .int a1, .null, .null] ⟨rfl, ⟨rfl, trivial⟩⟩ (fun X s hE hok hI hZ hV => by subst hE; exact tX3_ringOf hok (hI rfl) k hk a1 s)
theorem hyX3_leftTogether : yX3_leftTogether.cls ≠ "java/lang/invoke/MethodHandle" ∧ yX3_leftTogether.cls ≠ "java/lang/invoke/VarHandle" ∧ (parseMethodDescriptor yX3_leftTogether.desc).map (fun d => d.parameters.length) = some 0 := by decide +kernel
set_option maxRecDepth 20000 in
set_option maxHeartbeats 4000000 in
theorem tM_X3_leftTogether_L4 {X : Cx} (K : Ok X cX3_leftTogether RX3 3 1) (hR : RI X cX3_leftTogether) (k : Nat) (hk : Scn k) (kk : Int32 → St → Option (Int32 × St)) (hkk : ∀ (x1 : Int32) (s : St), G X 30 [.null, .int x1, .null] [] s (kk x1 s)) : ∀ (fu : Nat) (x1 x2 : Int32) (s : St), G X 4 [.ref (X.B + k), .int x1, .int x2] [] s (M_X3_leftTogether_L4 k kk fu x1 x2 s) := by
  intro fu
  induction fu with
  | zero => intro x1 x2 s; exact g_none
  | succ fu ih =>
    intro x1 x2 s
    rw [M_X3_leftTogether_L4]
    refine g_iload_n (pc := 4) K 2 dX3_leftTogether_4 rfl rfl ?_
    refine g_aload_n (pc := 5) K 0 dX3_leftTogether_5 rfl rfl ?_
    refine gg_3_0 (pc := 6) K hk.1 hk.2.1 kX3_18 dX3_leftTogether_6 ?_
    refine gg_1_0 (pc := 9) K (by decide) kd_9 kX3_35 dX3_leftTogether_9 ?_
    refine g_icmp_ge (pc := 12) K 30 dX3_leftTogether_12 (by decide) ?_ ?_
    · exact g_wk (hkk x1 s) ⟨rfl, trivial⟩
    · refine g_iload_n (pc := 15) K 1 dX3_leftTogether_15 rfl rfl ?_
      refine g_aload_n (pc := 16) K 0 dX3_leftTogether_16 rfl rfl ?_
      refine gg_3_3 (pc := 17) K hk.1 hk.2.1 kX3_9 dX3_leftTogether_17 (k + 1) rfl ?_
      refine g_iload_n (pc := 20) K 2 dX3_leftTogether_20 rfl rfl ?_
      refine g_iaload (pc := 21) K hk.2.2.1.1 hk.2.2.1.2.1 hk.2.2.1.2.2 dX3_leftTogether_21 (fun v1 => ?_)
      refine g_iadd (pc := 22) K dX3_leftTogether_22 ?_
      refine g_istore_n (pc := 23) K 1 dX3_leftTogether_23 rfl (by decide) ?_
      change G X 24 [.ref (X.B + k), .int (x1 + v1), .int x2] [] s _
      refine g_iinc (pc := 24) K (1) dX3_leftTogether_24 rfl (by decide) (by decide) ?_
      change G X 27 [.ref (X.B + k), .int (x1 + v1), .int (x2 + (1))] [] s _
      refine g_goto (pc := 27) K 4 dX3_leftTogether_27 (by decide) ?_
      exact g_wk (ih (x1 + v1) (x2 + (1)) s) ⟨rfl, ⟨rfl, ⟨rfl, trivial⟩⟩⟩
set_option maxRecDepth 20000 in
set_option maxHeartbeats 4000000 in
theorem tX3_leftTogether {X : Cx} (K : Ok X cX3_leftTogether RX3 3 1) (hR : RI X cX3_leftTogether) (k : Nat) (hk : Scn k) (s : St) : G X 0 [.ref (X.B + k), .null, .null] [] s (M_X3_leftTogether k s) := by
  unfold M_X3_leftTogether
  refine g_iconst (pc := 0) K (0) dX3_leftTogether_0 (by decide) ?_
  refine g_istore_n (pc := 1) K 1 dX3_leftTogether_1 rfl (by decide) ?_
  change G X 2 [.ref (X.B + k), .int (0), .null] [] s _
  refine g_iconst (pc := 2) K (0) dX3_leftTogether_2 (by decide) ?_
  refine g_istore_n (pc := 3) K 2 dX3_leftTogether_3 rfl (by decide) ?_
  change G X 4 [.ref (X.B + k), .int (0), .int (0)] [] s _
  refine g_weak (L' := [.ref (X.B + k), .int (0), .int (0)]) ⟨rfl, ⟨rfl, ⟨rfl, trivial⟩⟩⟩ ?_
  refine tM_X3_leftTogether_L4 K hR k hk _ (fun v2 s3 => ?_) 400 (0) (0) s
  refine g_iload_n (pc := 30) K 1 dX3_leftTogether_30 rfl rfl ?_
  exact g_ir (pc := 31) hR dX3_leftTogether_31
theorem qX3_leftTogether (E : Ce) (k : Nat) (hk : Scn k) : Con E yX3_leftTogether cX3_leftTogether 3 (some .int) 1 [.ref (E.B + k)] (M_X3_leftTogether k) :=
  Con.of (by decide) (List.forall_mem_cons.mpr ⟨rfl, fun _ h => absurd h List.not_mem_nil⟩) (Nat.le_of_ble_eq_true rfl) (Or.inr (Or.inl rfl)) [.ref (E.B + k), .null, .null] ⟨rfl, trivial⟩ (fun X s hE hok hI hZ hV => by subst hE; exact tX3_leftTogether hok (hI rfl) k hk s)
theorem hyX3_allMown : yX3_allMown.cls ≠ "java/lang/invoke/MethodHandle" ∧ yX3_allMown.cls ≠ "java/lang/invoke/VarHandle" ∧ (parseMethodDescriptor yX3_allMown.desc).map (fun d => d.parameters.length) = some 1 := by decide +kernel
set_option maxRecDepth 20000 in
set_option maxHeartbeats 4000000 in
theorem tM_X3_allMown_L2 {X : Cx} (K : Ok X cX3_allMown RX3 3 1) (hR : RZ X cX3_allMown) (k : Nat) (hk : Scn k) (x1 : Int32) (kk : St → Option (Int32 × St)) (hkk : ∀ (s : St), G X 39 [.null, .null, .null] [] s (kk s)) : ∀ (fu : Nat) (x2 : Int32) (s : St), G X 2 [.ref (X.B + k), .int x1, .int x2] [] s (M_X3_allMown_L2 k x1 kk fu x2 s) := by
  intro fu
  induction fu with
  | zero => intro x2 s; exact g_none
  | succ fu ih =>
    intro x2 s
    rw [M_X3_allMown_L2]
    refine g_iload_n (pc := 2) K 2 dX3_allMown_2 rfl rfl ?_
    refine g_aload_n (pc := 3) K 0 dX3_allMown_3 rfl rfl ?_
    refine gg_3_0 (pc := 4) K hk.1 hk.2.1 kX3_18 dX3_allMown_4 ?_
    refine gg_1_0 (pc := 7) K (by decide) kd_9 kX3_35 dX3_allMown_7 ?_
    refine g_icmp_ge (pc := 10) K 39 dX3_allMown_10 (by decide) ?_ ?_
    · exact g_wk (hkk  s) trivial
    · refine g_iload_n (pc := 13) K 1 dX3_allMown_13 rfl rfl ?_
      refine g_iload_n (pc := 14) K 2 dX3_allMown_14 rfl rfl ?_
      refine g_ishr (pc := 15) K dX3_allMown_15 ?_
      refine g_iconst (pc := 16) K (1) dX3_allMown_16 (by decide) ?_
      refine g_iand (pc := 17) K dX3_allMown_17 ?_
      refine g_iconst (pc := 18) K (1) dX3_allMown_18 (by decide) ?_
      refine g_jn (κ := St → Option (Int32 × St)) (fun kj1 => ∀ (s2 : St), G X 33 [.ref (X.B + k), .int x1, .int x2] [] s2 (kj1 s2)) (fun s2 => ?_) (fun kj1 hkj1 => ?_)
      · refine g_iinc (pc := 33) K (1) dX3_allMown_33 rfl (by decide) (by decide) ?_
        change G X 36 [.ref (X.B + k), .int x1, .int (x2 + (1))] [] s2 _
        refine g_goto (pc := 36) K 2 dX3_allMown_36 (by decide) ?_
        exact g_wk (ih (x2 + (1)) s2) ⟨rfl, ⟨rfl, ⟨rfl, trivial⟩⟩⟩
      · refine g_icmp_ne (pc := 19) K 33 dX3_allMown_19 (by decide) ?_ ?_
        · exact g_wk (hkj1  s) ⟨rfl, ⟨rfl, ⟨rfl, trivial⟩⟩⟩
        · refine g_aload_n (pc := 22) K 0 dX3_allMown_22 rfl rfl ?_
          refine gg_3_3 (pc := 23) K hk.1 hk.2.1 kX3_9 dX3_allMown_23 (k + 1) rfl ?_
          refine g_iload_n (pc := 26) K 2 dX3_allMown_26 rfl rfl ?_
          refine g_iaload (pc := 27) K hk.2.2.1.1 hk.2.2.1.2.1 hk.2.2.1.2.2 dX3_allMown_27 (fun v3 => ?_)
          refine g_if_le (pc := 28) K 33 dX3_allMown_28 (by decide) ?_ ?_
          · exact g_wk (hkj1  s) ⟨rfl, ⟨rfl, ⟨rfl, trivial⟩⟩⟩
          · refine g_iconst (pc := 31) K (0) dX3_allMown_31 (by decide) ?_
            exact g_zr0 (pc := 32) hR dX3_allMown_32
set_option maxRecDepth 20000 in
set_option maxHeartbeats 4000000 in
theorem tX3_allMown {X : Cx} (K : Ok X cX3_allMown RX3 3 1) (hR : RZ X cX3_allMown) (k : Nat) (hk : Scn k) (a1 : Int32) (s : St) : G X 0 [.ref (X.B + k), .int a1, .null] [] s (M_X3_allMown k a1 s) := by
  unfold M_X3_allMown
  refine g_iconst (pc := 0) K (0) dX3_allMown_0 (by decide) ?_
  refine g_istore_n (pc := 1) K 2 dX3_allMown_1 rfl (by decide) ?_
  change G X 2 [.ref (X.B + k), .int a1, .int (0)] [] s _
  refine g_weak (L' := [.ref (X.B + k), .int a1, .int (0)]) ⟨rfl, ⟨rfl, ⟨rfl, trivial⟩⟩⟩ ?_
  refine tM_X3_allMown_L2 K hR k hk a1 _ (fun s4 => ?_) 400 (0) s
  refine g_iconst (pc := 39) K (1) dX3_allMown_39 (by decide) ?_
  exact g_zr1 (pc := 40) hR dX3_allMown_40
theorem qX3_allMown (E : Ce) (k : Nat) (hk : Scn k) (a1 : Int32) : Con E yX3_allMown cX3_allMown 3 (some .boolean) 1 [.ref (E.B + k), .int a1] (M_X3_allMown k a1) :=
  Con.of (by decide) (List.forall_mem_cons.mpr ⟨rfl, List.forall_mem_cons.mpr ⟨rfl, fun _ h => absurd h List.not_mem_nil⟩⟩) (Nat.le_of_ble_eq_true rfl) (Or.inr (Or.inr rfl)) [.ref (E.B + k), .int a1, .null] ⟨rfl, ⟨rfl, trivial⟩⟩ (fun X s hE hok hI hZ hV => by subst hE; exact tX3_allMown hok (hZ rfl) k hk a1 s)
theorem hyX3_mowsForAnother : yX3_mowsForAnother.cls ≠ "java/lang/invoke/MethodHandle" ∧ yX3_mowsForAnother.cls ≠ "java/lang/invoke/VarHandle" ∧ (parseMethodDescriptor yX3_mowsForAnother.desc).map (fun d => d.parameters.length) = some 1 := by decide +kernel
set_option maxRecDepth 20000 in
set_option maxHeartbeats 4000000 in
theorem tM_X3_mowsForAnother_L2 {X : Cx} (K : Ok X cX3_mowsForAnother RX3 3 2) (hR : RZ X cX3_mowsForAnother) (k : Nat) (hk : Scn k) (x1 : Int32) (kk : St → Option (Int32 × St)) (hkk : ∀ (s : St), G X 58 [.null, .null, .null] [] s (kk s)) : ∀ (fu : Nat) (x2 : Int32) (s : St), G X 2 [.ref (X.B + k), .int x1, .int x2] [] s (M_X3_mowsForAnother_L2 k x1 kk fu x2 s) := by
  intro fu
  induction fu with
  | zero => intro x2 s; exact g_none
  | succ fu ih =>
    intro x2 s
    rw [M_X3_mowsForAnother_L2]
    refine g_iload_n (pc := 2) K 2 dX3_mowsForAnother_2 rfl rfl ?_
    refine g_aload_n (pc := 3) K 0 dX3_mowsForAnother_3 rfl rfl ?_
    refine gg_3_0 (pc := 4) K hk.1 hk.2.1 kX3_18 dX3_mowsForAnother_4 ?_
    refine gg_1_0 (pc := 7) K (by decide) kd_9 kX3_35 dX3_mowsForAnother_7 ?_
    refine g_icmp_ge (pc := 10) K 58 dX3_mowsForAnother_10 (by decide) ?_ ?_
    · exact g_wk (hkk  s) trivial
    · refine g_aload_n (pc := 13) K 0 dX3_mowsForAnother_13 rfl rfl ?_
      refine gg_3_4 (pc := 14) K hk.1 hk.2.1 kX3_15 dX3_mowsForAnother_14 (k + 2) rfl ?_
      refine g_iload_n (pc := 17) K 2 dX3_mowsForAnother_17 rfl rfl ?_
      refine g_iaload (pc := 18) K hk.2.2.2.1 hk.2.2.2.2.1 hk.2.2.2.2.2 dX3_mowsForAnother_18 (fun v1 => ?_)
      refine g_iload_n (pc := 19) K 1 dX3_mowsForAnother_19 rfl rfl ?_
      refine g_jn (κ := St → Option (Int32 × St)) (fun kj2 => ∀ (s3 : St), G X 52 [.ref (X.B + k), .int x1, .int x2] [] s3 (kj2 s3)) (fun s3 => ?_) (fun kj2 hkj2 => ?_)
      · refine g_iinc (pc := 52) K (1) dX3_mowsForAnother_52 rfl (by decide) (by decide) ?_
        change G X 55 [.ref (X.B + k), .int x1, .int (x2 + (1))] [] s3 _
        refine g_goto (pc := 55) K 2 dX3_mowsForAnother_55 (by decide) ?_
        exact g_wk (ih (x2 + (1)) s3) ⟨rfl, ⟨rfl, ⟨rfl, trivial⟩⟩⟩
      · refine g_icmp_ne (pc := 20) K 52 dX3_mowsForAnother_20 (by decide) ?_ ?_
        · exact g_wk (hkj2  s) ⟨rfl, ⟨rfl, ⟨rfl, trivial⟩⟩⟩
        · refine g_aload_n (pc := 23) K 0 dX3_mowsForAnother_23 rfl rfl ?_
          refine g_iload_n (pc := 24) K 2 dX3_mowsForAnother_24 rfl rfl ?_
          refine g_callV (pc := 25) (S := []) K (qX3_hasAsked X.E k hk x2) hk.1 (ci := 3) rfl (fun _ => ⟨_, ce_3 hk.2.1⟩) (by decide) (by decide) wcX3_hasAsked wiX3 kX3_50 wmX3_hasAsked weX3_hasAsked hyX3_hasAsked rfl rfl (Nat.le_of_ble_eq_true rfl) dX3_mowsForAnother_25 (fun r4 s5 => ?_)
          change G X 28 [.ref (X.B + k), .int x1, .int x2] [.int r4] s5 _
          refine g_if_eq (pc := 28) K 52 dX3_mowsForAnother_28 (by decide) ?_ ?_
          · exact g_wk (hkj2  s5) ⟨rfl, ⟨rfl, ⟨rfl, trivial⟩⟩⟩
          · refine g_aload_n (pc := 31) K 0 dX3_mowsForAnother_31 rfl rfl ?_
            refine gg_3_3 (pc := 32) K hk.1 hk.2.1 kX3_9 dX3_mowsForAnother_32 (k + 1) rfl ?_
            refine g_iload_n (pc := 35) K 2 dX3_mowsForAnother_35 rfl rfl ?_
            refine g_iaload (pc := 36) K hk.2.2.1.1 hk.2.2.1.2.1 hk.2.2.1.2.2 dX3_mowsForAnother_36 (fun v6 => ?_)
            refine g_if_le (pc := 37) K 52 dX3_mowsForAnother_37 (by decide) ?_ ?_
            · exact g_wk (hkj2  s5) ⟨rfl, ⟨rfl, ⟨rfl, trivial⟩⟩⟩
            · refine g_aload_n (pc := 40) K 0 dX3_mowsForAnother_40 rfl rfl ?_
              refine gg_3_3 (pc := 41) K hk.1 hk.2.1 kX3_9 dX3_mowsForAnother_41 (k + 1) rfl ?_
              refine g_iload_n (pc := 44) K 2 dX3_mowsForAnother_44 rfl rfl ?_
              refine g_dup2 (pc := 45) K dX3_mowsForAnother_45 rfl rfl ?_
              refine g_iaload (pc := 46) K hk.2.2.1.1 hk.2.2.1.2.1 hk.2.2.1.2.2 dX3_mowsForAnother_46 (fun v7 => ?_)
              refine g_iconst (pc := 47) K (1) dX3_mowsForAnother_47 (by decide) ?_
              refine g_isub (pc := 48) K dX3_mowsForAnother_48 ?_
              refine g_iastore (pc := 49) K hk.2.2.1.1 hk.2.2.1.2.1 hk.2.2.1.2.2 dX3_mowsForAnother_49 (fun s8 => ?_)
              refine g_iconst (pc := 50) K (1) dX3_mowsForAnother_50 (by decide) ?_
              exact g_zr1 (pc := 51) hR dX3_mowsForAnother_51
set_option maxRecDepth 20000 in
set_option maxHeartbeats 4000000 in
theorem tX3_mowsForAnother {X : Cx} (K : Ok X cX3_mowsForAnother RX3 3 2) (hR : RZ X cX3_mowsForAnother) (k : Nat) (hk : Scn k) (a1 : Int32) (s : St) : G X 0 [.ref (X.B + k), .int a1, .null] [] s (M_X3_mowsForAnother k a1 s) := by
  unfold M_X3_mowsForAnother
  refine g_iconst (pc := 0) K (0) dX3_mowsForAnother_0 (by decide) ?_
  refine g_istore_n (pc := 1) K 2 dX3_mowsForAnother_1 rfl (by decide) ?_
  change G X 2 [.ref (X.B + k), .int a1, .int (0)] [] s _
  refine g_weak (L' := [.ref (X.B + k), .int a1, .int (0)]) ⟨rfl, ⟨rfl, ⟨rfl, trivial⟩⟩⟩ ?_
  refine tM_X3_mowsForAnother_L2 K hR k hk a1 _ (fun s9 => ?_) 400 (0) s
  refine g_iconst (pc := 58) K (0) dX3_mowsForAnother_58 (by decide) ?_
  exact g_zr0 (pc := 59) hR dX3_mowsForAnother_59
theorem qX3_mowsForAnother (E : Ce) (k : Nat) (hk : Scn k) (a1 : Int32) : Con E yX3_mowsForAnother cX3_mowsForAnother 3 (some .boolean) 2 [.ref (E.B + k), .int a1] (M_X3_mowsForAnother k a1) :=
  Con.of (by decide) (List.forall_mem_cons.mpr ⟨rfl, List.forall_mem_cons.mpr ⟨rfl, fun _ h => absurd h List.not_mem_nil⟩⟩) (Nat.le_of_ble_eq_true rfl) (Or.inr (Or.inr rfl)) [.ref (E.B + k), .int a1, .null] ⟨rfl, ⟨rfl, trivial⟩⟩ (fun X s hE hok hI hZ hV => by subst hE; exact tX3_mowsForAnother hok (hZ rfl) k hk a1 s)
theorem hyX3_mowAll : yX3_mowAll.cls ≠ "java/lang/invoke/MethodHandle" ∧ yX3_mowAll.cls ≠ "java/lang/invoke/VarHandle" ∧ (parseMethodDescriptor yX3_mowAll.desc).map (fun d => d.parameters.length) = some 0 := by decide +kernel
set_option maxRecDepth 20000 in
set_option maxHeartbeats 4000000 in
theorem tM_X3_mowAll_L6 {X : Cx} (K : Ok X cX3_mowAll RX3 4 3) (hR : RI X cX3_mowAll) (k : Nat) (hk : Scn k) (kk : Int32 → Int32 → St → Option (Int32 × St)) (hkk : ∀ (x1 x2 : Int32) (s : St), G X 62 [.ref (X.B + k), .int x1, .int x2, .null] [] s (kk x1 x2 s)) : ∀ (fu : Nat) (x1 x2 x3 : Int32) (s : St), G X 6 [.ref (X.B + k), .int x1, .int x2, .int x3] [] s (M_X3_mowAll_L6 k kk fu x1 x2 x3 s) := by
  intro fu
  induction fu with
  | zero => intro x1 x2 x3 s; exact g_none
  | succ fu ih =>
    intro x1 x2 x3 s
    rw [M_X3_mowAll_L6]
    refine g_iload_n (pc := 6) K 3 dX3_mowAll_6 rfl rfl ?_
    refine g_aload_n (pc := 7) K 0 dX3_mowAll_7 rfl rfl ?_
    refine gg_3_0 (pc := 8) K hk.1 hk.2.1 kX3_18 dX3_mowAll_8 ?_
    refine gg_1_0 (pc := 11) K (by decide) kd_9 kX3_35 dX3_mowAll_11 ?_
    refine g_icmp_ge (pc := 14) K 62 dX3_mowAll_14 (by decide) ?_ ?_
    · exact g_wk (hkk x1 x2 s) ⟨rfl, ⟨rfl, ⟨rfl, trivial⟩⟩⟩
    · refine g_aload_n (pc := 17) K 0 dX3_mowAll_17 rfl rfl ?_
      refine g_iload_n (pc := 18) K 3 dX3_mowAll_18 rfl rfl ?_
      refine g_callV (pc := 19) (S := []) K (qX3_hasAsked X.E k hk x3) hk.1 (ci := 3) rfl (fun _ => ⟨_, ce_3 hk.2.1⟩) (by decide) (by decide) wcX3_hasAsked wiX3 kX3_50 wmX3_hasAsked weX3_hasAsked hyX3_hasAsked rfl rfl (Nat.le_of_ble_eq_true rfl) dX3_mowAll_19 (fun r1 s2 => ?_)
      change G X 22 [.ref (X.B + k), .int x1, .int x2, .int x3] [.int r1] s2 _
      refine g_jn (κ := Int32 → Int32 → St → Option (Int32 × St)) (fun kj3 => ∀ (v4 v5 : Int32) (s6 : St), G X 56 [.ref (X.B + k), .int v4, .int v5, .int x3] [] s6 (kj3 v4 v5 s6)) (fun v4 v5 s6 => ?_) (fun kj3 hkj3 => ?_)
      · refine g_iinc (pc := 56) K (1) dX3_mowAll_56 rfl (by decide) (by decide) ?_
        change G X 59 [.ref (X.B + k), .int v4, .int v5, .int (x3 + (1))] [] s6 _
        refine g_goto (pc := 59) K 6 dX3_mowAll_59 (by decide) ?_
        exact g_wk (ih v4 v5 (x3 + (1)) s6) ⟨rfl, ⟨rfl, ⟨rfl, ⟨rfl, trivial⟩⟩⟩⟩
      · refine g_if_eq (pc := 22) K 56 dX3_mowAll_22 (by decide) ?_ ?_
        · exact g_wk (hkj3 x1 x2 s2) ⟨rfl, ⟨rfl, ⟨rfl, ⟨rfl, trivial⟩⟩⟩⟩
        · refine g_aload_n (pc := 25) K 0 dX3_mowAll_25 rfl rfl ?_
          refine gg_3_3 (pc := 26) K hk.1 hk.2.1 kX3_9 dX3_mowAll_26 (k + 1) rfl ?_
          refine g_iload_n (pc := 29) K 3 dX3_mowAll_29 rfl rfl ?_
          refine g_iaload (pc := 30) K hk.2.2.1.1 hk.2.2.1.2.1 hk.2.2.1.2.2 dX3_mowAll_30 (fun v7 => ?_)
          refine g_if_le (pc := 31) K 50 dX3_mowAll_31 (by decide) ?_ ?_
          · refine g_iload_n (pc := 50) K 1 dX3_mowAll_50 rfl rfl ?_
            refine g_iconst (pc := 51) K (1) dX3_mowAll_51 (by decide) ?_
            refine g_iload_n (pc := 52) K 3 dX3_mowAll_52 rfl rfl ?_
            refine g_ishl (pc := 53) K dX3_mowAll_53 ?_
            refine g_ior (pc := 54) K dX3_mowAll_54 ?_
            refine g_istore_n (pc := 55) K 1 dX3_mowAll_55 rfl (by decide) ?_
            change G X 56 [.ref (X.B + k), .int (x1 ||| ((1) <<< (x3 &&& 31))), .int x2, .int x3] [] s2 _
            exact g_wk (hkj3 (x1 ||| ((1) <<< (x3 &&& 31))) x2 s2) ⟨rfl, ⟨rfl, ⟨rfl, ⟨rfl, trivial⟩⟩⟩⟩
          · refine g_aload_n (pc := 34) K 0 dX3_mowAll_34 rfl rfl ?_
            refine gg_3_3 (pc := 35) K hk.1 hk.2.1 kX3_9 dX3_mowAll_35 (k + 1) rfl ?_
            refine g_iload_n (pc := 38) K 3 dX3_mowAll_38 rfl rfl ?_
            refine g_dup2 (pc := 39) K dX3_mowAll_39 rfl rfl ?_
            refine g_iaload (pc := 40) K hk.2.2.1.1 hk.2.2.1.2.1 hk.2.2.1.2.2 dX3_mowAll_40 (fun v8 => ?_)
            refine g_iconst (pc := 41) K (1) dX3_mowAll_41 (by decide) ?_
            refine g_isub (pc := 42) K dX3_mowAll_42 ?_
            refine g_iastore (pc := 43) K hk.2.2.1.1 hk.2.2.1.2.1 hk.2.2.1.2.2 dX3_mowAll_43 (fun s9 => ?_)
            refine g_iinc (pc := 44) K (1) dX3_mowAll_44 rfl (by decide) (by decide) ?_
            change G X 47 [.ref (X.B + k), .int x1, .int (x2 + (1)), .int x3] [] s9 _
            refine g_goto (pc := 47) K 56 dX3_mowAll_47 (by decide) ?_
            exact g_wk (hkj3 x1 (x2 + (1)) s9) ⟨rfl, ⟨rfl, ⟨rfl, ⟨rfl, trivial⟩⟩⟩⟩
set_option maxRecDepth 20000 in
set_option maxHeartbeats 4000000 in
theorem tM_X3_mowAll_L64 {X : Cx} (K : Ok X cX3_mowAll RX3 4 3) (hR : RI X cX3_mowAll) (k : Nat) (hk : Scn k) (x1 : Int32) (kk : Int32 → St → Option (Int32 × St)) (hkk : ∀ (x2 : Int32) (s : St), G X 101 [.null, .null, .int x2, .null] [] s (kk x2 s)) : ∀ (fu : Nat) (x2 x3 : Int32) (s : St), G X 64 [.ref (X.B + k), .int x1, .int x2, .int x3] [] s (M_X3_mowAll_L64 k x1 kk fu x2 x3 s) := by
  intro fu
  induction fu with
  | zero => intro x2 x3 s; exact g_none
  | succ fu ih =>
    intro x2 x3 s
    rw [M_X3_mowAll_L64]
    refine g_iload_n (pc := 64) K 3 dX3_mowAll_64 rfl rfl ?_
    refine g_aload_n (pc := 65) K 0 dX3_mowAll_65 rfl rfl ?_
    refine gg_3_0 (pc := 66) K hk.1 hk.2.1 kX3_18 dX3_mowAll_66 ?_
    refine gg_1_0 (pc := 69) K (by decide) kd_9 kX3_35 dX3_mowAll_69 ?_
    refine g_icmp_ge (pc := 72) K 101 dX3_mowAll_72 (by decide) ?_ ?_
    · exact g_wk (hkk x2 s) ⟨rfl, trivial⟩
    · refine g_iload_n (pc := 75) K 1 dX3_mowAll_75 rfl rfl ?_
      refine g_iload_n (pc := 76) K 3 dX3_mowAll_76 rfl rfl ?_
      refine g_ishr (pc := 77) K dX3_mowAll_77 ?_
      refine g_iconst (pc := 78) K (1) dX3_mowAll_78 (by decide) ?_
      refine g_iand (pc := 79) K dX3_mowAll_79 ?_
      refine g_iconst (pc := 80) K (1) dX3_mowAll_80 (by decide) ?_
      refine g_jn (κ := Int32 → St → Option (Int32 × St)) (fun kj13 => ∀ (v14 : Int32) (s15 : St), G X 95 [.ref (X.B + k), .int x1, .int v14, .int x3] [] s15 (kj13 v14 s15)) (fun v14 s15 => ?_) (fun kj13 hkj13 => ?_)
      · refine g_iinc (pc := 95) K (1) dX3_mowAll_95 rfl (by decide) (by decide) ?_
        change G X 98 [.ref (X.B + k), .int x1, .int v14, .int (x3 + (1))] [] s15 _
        refine g_goto (pc := 98) K 64 dX3_mowAll_98 (by decide) ?_
        exact g_wk (ih v14 (x3 + (1)) s15) ⟨rfl, ⟨rfl, ⟨rfl, ⟨rfl, trivial⟩⟩⟩⟩
      · refine g_icmp_ne (pc := 81) K 95 dX3_mowAll_81 (by decide) ?_ ?_
        · exact g_wk (hkj13 x2 s) ⟨rfl, ⟨rfl, ⟨rfl, ⟨rfl, trivial⟩⟩⟩⟩
        · refine g_aload_n (pc := 84) K 0 dX3_mowAll_84 rfl rfl ?_
          refine g_iload_n (pc := 85) K 3 dX3_mowAll_85 rfl rfl ?_
          refine g_callV (pc := 86) (S := []) K (qX3_mowsForAnother X.E k hk x3) hk.1 (ci := 3) rfl (fun _ => ⟨_, ce_3 hk.2.1⟩) (by decide) (by decide) wcX3_mowsForAnother wiX3 kX3_53 wmX3_mowsForAnother weX3_mowsForAnother hyX3_mowsForAnother rfl rfl (Nat.le_of_ble_eq_true rfl) dX3_mowAll_86 (fun r16 s17 => ?_)
          change G X 89 [.ref (X.B + k), .int x1, .int x2, .int x3] [.int r16] s17 _
          refine g_if_eq (pc := 89) K 95 dX3_mowAll_89 (by decide) ?_ ?_
          · exact g_wk (hkj13 x2 s17) ⟨rfl, ⟨rfl, ⟨rfl, ⟨rfl, trivial⟩⟩⟩⟩
          · refine g_iinc (pc := 92) K (1) dX3_mowAll_92 rfl (by decide) (by decide) ?_
            change G X 95 [.ref (X.B + k), .int x1, .int (x2 + (1)), .int x3] [] s17 _
            exact g_wk (hkj13 (x2 + (1)) s17) ⟨rfl, ⟨rfl, ⟨rfl, ⟨rfl, trivial⟩⟩⟩⟩
set_option maxRecDepth 20000 in
set_option maxHeartbeats 4000000 in
theorem tX3_mowAll {X : Cx} (K : Ok X cX3_mowAll RX3 4 3) (hR : RI X cX3_mowAll) (k : Nat) (hk : Scn k) (s : St) : G X 0 [.ref (X.B + k), .null, .null, .null] [] s (M_X3_mowAll k s) := by
  unfold M_X3_mowAll
  refine g_iconst (pc := 0) K (0) dX3_mowAll_0 (by decide) ?_
  refine g_istore_n (pc := 1) K 1 dX3_mowAll_1 rfl (by decide) ?_
  change G X 2 [.ref (X.B + k), .int (0), .null, .null] [] s _
  refine g_iconst (pc := 2) K (0) dX3_mowAll_2 (by decide) ?_
  refine g_istore_n (pc := 3) K 2 dX3_mowAll_3 rfl (by decide) ?_
  change G X 4 [.ref (X.B + k), .int (0), .int (0), .null] [] s _
  refine g_iconst (pc := 4) K (0) dX3_mowAll_4 (by decide) ?_
  refine g_istore_n (pc := 5) K 3 dX3_mowAll_5 rfl (by decide) ?_
  change G X 6 [.ref (X.B + k), .int (0), .int (0), .int (0)] [] s _
  refine g_weak (L' := [.ref (X.B + k), .int (0), .int (0), .int (0)]) ⟨rfl, ⟨rfl, ⟨rfl, ⟨rfl, trivial⟩⟩⟩⟩ ?_
  refine tM_X3_mowAll_L6 K hR k hk _ (fun v10 v11 s12 => ?_) 400 (0) (0) (0) s
  refine g_iconst (pc := 62) K (0) dX3_mowAll_62 (by decide) ?_
  refine g_istore_n (pc := 63) K 3 dX3_mowAll_63 rfl (by decide) ?_
  change G X 64 [.ref (X.B + k), .int v10, .int v11, .int (0)] [] s12 _
  refine g_weak (L' := [.ref (X.B + k), .int v10, .int v11, .int (0)]) ⟨rfl, ⟨rfl, ⟨rfl, ⟨rfl, trivial⟩⟩⟩⟩ ?_
  refine tM_X3_mowAll_L64 K hR k hk v10 _ (fun v18 s19 => ?_) 400 v11 (0) s12
  refine g_iload_n (pc := 101) K 2 dX3_mowAll_101 rfl rfl ?_
  exact g_ir (pc := 102) hR dX3_mowAll_102
theorem qX3_mowAll (E : Ce) (k : Nat) (hk : Scn k) : Con E yX3_mowAll cX3_mowAll 4 (some .int) 3 [.ref (E.B + k)] (M_X3_mowAll k) :=
  Con.of (by decide) (List.forall_mem_cons.mpr ⟨rfl, fun _ h => absurd h List.not_mem_nil⟩) (Nat.le_of_ble_eq_true rfl) (Or.inr (Or.inl rfl)) [.ref (E.B + k), .null, .null, .null] ⟨rfl, trivial⟩ (fun X s hE hok hI hZ hV => by subst hE; exact tX3_mowAll hok (hI rfl) k hk s)
theorem hyX3_pass : yX3_pass.cls ≠ "java/lang/invoke/MethodHandle" ∧ yX3_pass.cls ≠ "java/lang/invoke/VarHandle" ∧ (parseMethodDescriptor yX3_pass.desc).map (fun d => d.parameters.length) = some 1 := by decide +kernel
set_option maxRecDepth 20000 in
set_option maxHeartbeats 4000000 in
theorem tX3_pass {X : Cx} (K : Ok X cX3_pass RX3 2 4) (hR : RI X cX3_pass) (k : Nat) (hk : Scn k) (a1 : Int32) (s : St) : G X 0 [.ref (X.B + k), .int a1] [] s (M_X3_pass k a1 s) := by
  unfold M_X3_pass
  refine g_aload_n (pc := 0) K 0 dX3_pass_0 rfl rfl ?_
  refine g_aload_n (pc := 1) K 0 dX3_pass_1 rfl rfl ?_
  refine gg_3_0 (pc := 2) K hk.1 hk.2.1 kX3_18 dX3_pass_2 ?_
  refine g_aload_n (pc := 5) K 0 dX3_pass_5 rfl rfl ?_
  refine gg_3_2 (pc := 6) K hk.1 hk.2.1 kX3_26 dX3_pass_6 ?_
  refine g_aload_n (pc := 9) K 0 dX3_pass_9 rfl rfl ?_
  refine gg_3_1 (pc := 10) K hk.1 hk.2.1 kX3_22 dX3_pass_10 ?_
  refine g_callVN (pc := 13) (S := [.ref (X.B + k)]) K (qX1_askedBehind X.E 9 frm_9 (s.1 k 2) (s.1 k 1)) (by decide) (ci := 1) rfl (fun _ => ⟨_, ce_1 kd_9⟩) (by decide) (by decide) wcX1_askedBehind wiX1 kX3_42 wmX1_askedBehind weX1_askedBehind hyX1_askedBehind rfl rfl (Nat.le_of_ble_eq_true rfl) dX3_pass_13 (fun r1 s2 => ?_)
  change G X 16 [.ref (X.B + k), .int a1] [.int r1, .ref (X.B + k)] s2 _
  refine gp_3_2 (pc := 16) K hk.1 hk.2.1 kX3_26 dX3_pass_16 (fun s3 => ?_)
  refine g_aload_n (pc := 19) K 0 dX3_pass_19 rfl rfl ?_
  refine g_dup (pc := 20) K dX3_pass_20 rfl ?_
  refine gg_3_1 (pc := 21) K hk.1 hk.2.1 kX3_22 dX3_pass_21 ?_
  refine g_iconst (pc := 24) K (1) dX3_pass_24 (by decide) ?_
  refine g_iadd (pc := 25) K dX3_pass_25 ?_
  refine gp_3_1 (pc := 26) K hk.1 hk.2.1 kX3_22 dX3_pass_26 (fun s4 => ?_)
  refine g_iload_n (pc := 29) K 1 dX3_pass_29 rfl rfl ?_
  refine g_if_eq (pc := 30) K 40 dX3_pass_30 (by decide) ?_ ?_
  · refine g_iconst (pc := 40) K (0) dX3_pass_40 (by decide) ?_
    exact g_ir (pc := 41) hR dX3_pass_41
  · refine g_aload_n (pc := 33) K 0 dX3_pass_33 rfl rfl ?_
    refine g_callV (pc := 34) (S := []) K (qX3_mowAll X.E k hk) hk.1 (ci := 3) rfl (fun _ => ⟨_, ce_3 hk.2.1⟩) (by decide) (by decide) wcX3_mowAll wiX3 kX3_46 wmX3_mowAll weX3_mowAll hyX3_mowAll rfl rfl (Nat.le_of_ble_eq_true rfl) dX3_pass_34 (fun r5 s6 => ?_)
    change G X 37 [.ref (X.B + k), .int a1] [.int r5] s6 _
    refine g_goto (pc := 37) K 41 dX3_pass_37 (by decide) ?_
    exact g_ir (pc := 41) hR dX3_pass_41
theorem qX3_pass (E : Ce) (k : Nat) (hk : Scn k) (a1 : Int32) : Con E yX3_pass cX3_pass 2 (some .int) 4 [.ref (E.B + k), .int a1] (M_X3_pass k a1) :=
  Con.of (by decide) (List.forall_mem_cons.mpr ⟨rfl, List.forall_mem_cons.mpr ⟨rfl, fun _ h => absurd h List.not_mem_nil⟩⟩) (Nat.le_of_ble_eq_true rfl) (Or.inr (Or.inl rfl)) [.ref (E.B + k), .int a1] ⟨rfl, ⟨rfl, trivial⟩⟩ (fun X s hE hok hI hZ hV => by subst hE; exact tX3_pass hok (hI rfl) k hk a1 s)
theorem hyX4_begin : yX4_begin.cls ≠ "java/lang/invoke/MethodHandle" ∧ yX4_begin.cls ≠ "java/lang/invoke/VarHandle" ∧ (parseMethodDescriptor yX4_begin.desc).map (fun d => d.parameters.length) = some 0 := by decide +kernel
set_option maxRecDepth 20000 in
set_option maxHeartbeats 4000000 in
theorem tM_X4_begin_L7 {X : Cx} (K : Ok X cX4_begin RX4 2 1) (hR : RV X cX4_begin) (kk : St → Option (Int32 × St)) (hkk : ∀ (s : St), G X 29 [.null, .null] [] s (kk s)) : ∀ (fu : Nat) (x1 : Int32) (s : St), G X 7 [.ref (X.B + 64), .int x1] [] s (M_X4_begin_L7 kk fu x1 s) := by
  intro fu
  induction fu with
  | zero => intro x1 s; exact g_none
  | succ fu ih =>
    intro x1 s
    rw [M_X4_begin_L7]
    refine g_iload_n (pc := 7) K 1 dX4_begin_7 rfl rfl ?_
    refine g_aload_n (pc := 8) K 0 dX4_begin_8 rfl rfl ?_
    refine gg_4_1 (pc := 9) K (by decide) kd_64 kX4_11 dX4_begin_9 ?_
    refine g_alenZ (pc := 12) K (147) (by decide) kd_65 ln_65 (by decide) dX4_begin_12 ?_
    refine g_icmp_ge (pc := 13) K 29 dX4_begin_13 (by decide) ?_ ?_
    · exact g_wk (hkk  s) trivial
    · refine g_aload_n (pc := 16) K 0 dX4_begin_16 rfl rfl ?_
      refine gg_4_1 (pc := 17) K (by decide) kd_64 kX4_11 dX4_begin_17 ?_
      refine g_iload_n (pc := 20) K 1 dX4_begin_20 rfl rfl ?_
      refine g_iconst (pc := 21) K (0) dX4_begin_21 (by decide) ?_
      refine g_bastore (pc := 22) K (by decide) kd_65 ln_65 dX4_begin_22 (fun s2 => ?_)
      refine g_iinc (pc := 23) K (1) dX4_begin_23 rfl (by decide) (by decide) ?_
      change G X 26 [.ref (X.B + 64), .int (x1 + (1))] [] s2 _
      refine g_goto (pc := 26) K 7 dX4_begin_26 (by decide) ?_
      exact g_wk (ih (x1 + (1)) s2) ⟨rfl, ⟨rfl, trivial⟩⟩
set_option maxRecDepth 20000 in
set_option maxHeartbeats 4000000 in
theorem tX4_begin {X : Cx} (K : Ok X cX4_begin RX4 2 1) (hR : RV X cX4_begin) (s : St) : G X 0 [.ref (X.B + 64), .null] [] s (M_X4_begin s) := by
  unfold M_X4_begin
  refine g_aload_n (pc := 0) K 0 dX4_begin_0 rfl rfl ?_
  refine g_iconst (pc := 1) K (0) dX4_begin_1 (by decide) ?_
  refine gp_4_0 (pc := 2) K (by decide) kd_64 kX4_15 dX4_begin_2 (fun s1 => ?_)
  refine g_iconst (pc := 5) K (0) dX4_begin_5 (by decide) ?_
  refine g_istore_n (pc := 6) K 1 dX4_begin_6 rfl (by decide) ?_
  change G X 7 [.ref (X.B + 64), .int (0)] [] s1 _
  refine g_weak (L' := [.ref (X.B + 64), .int (0)]) ⟨rfl, ⟨rfl, trivial⟩⟩ ?_
  refine tM_X4_begin_L7 K hR  _ (fun s3 => ?_) 400 (0) s1
  exact g_vr (pc := 29) hR dX4_begin_29
theorem qX4_begin (E : Ce) : Con E yX4_begin cX4_begin 2 none 1 [.ref (E.B + 64)] (M_X4_begin) :=
  Con.of (by decide) (List.forall_mem_cons.mpr ⟨rfl, fun _ h => absurd h List.not_mem_nil⟩) (Nat.le_of_ble_eq_true rfl) (Or.inl rfl) [.ref (E.B + 64), .null] ⟨rfl, trivial⟩ (fun X s hE hok hI hZ hV => by subst hE; exact tX4_begin hok (hV rfl) s)
theorem hyX4_learn : yX4_learn.cls ≠ "java/lang/invoke/MethodHandle" ∧ yX4_learn.cls ≠ "java/lang/invoke/VarHandle" ∧ (parseMethodDescriptor yX4_learn.desc).map (fun d => d.parameters.length) = some 3 := by decide +kernel
set_option maxRecDepth 20000 in
set_option maxHeartbeats 4000000 in
theorem tM_X4_learn_L23 {X : Cx} (K : Ok X cX4_learn RX4 7 1) (hR : RV X cX4_learn) (x1 : Int32) (x2 : Int32) (x3 : Int32) (x4 : Int32) (kk : St → Option (Int32 × St)) (hkk : ∀ (s : St), G X 75 [.ref (X.B + 64), .int x1, .int x2, .int x3, .int x4, .null, .null] [] s (kk s)) : ∀ (fu : Nat) (x5 : Int32) (s : St), G X 23 [.ref (X.B + 64), .int x1, .int x2, .int x3, .int x4, .int x5, .null] [] s (M_X4_learn_L23 x1 x2 x3 x4 kk fu x5 s) := by
  intro fu
  induction fu with
  | zero => intro x5 s; exact g_none
  | succ fu ih =>
    intro x5 s
    rw [M_X4_learn_L23]
    refine g_iload (pc := 23) K dX4_learn_23 rfl ?_
    refine g_bipush (pc := 25) K (6) dX4_learn_25 (by decide) ?_
    refine g_icmp_gt (pc := 27) K 75 dX4_learn_27 (by decide) ?_ ?_
    · exact g_wk (hkk  s) ⟨rfl, ⟨rfl, ⟨rfl, ⟨rfl, ⟨rfl, trivial⟩⟩⟩⟩⟩
    · refine g_iload (pc := 30) K dX4_learn_30 rfl ?_
      refine g_iload_n (pc := 32) K 1 dX4_learn_32 rfl rfl ?_
      refine g_jn (κ := Int32 → St → Option (Int32 × St)) (fun kj2 => ∀ (v3 : Int32) (s4 : St), G X 47 [.ref (X.B + 64), .int x1, .int x2, .int x3, .int x4, .int x5, .null] [.int v3] s4 (kj2 v3 s4)) (fun v3 s4 => ?_) (fun kj2 hkj2 => ?_)
      · refine g_istore (pc := 47) K dX4_learn_47 (by decide) ?_
        change G X 49 [.ref (X.B + 64), .int x1, .int x2, .int x3, .int x4, .int x5, .int v3] [] s4 _
        refine g_iload (pc := 49) K dX4_learn_49 rfl ?_
        refine g_iload_n (pc := 51) K 3 dX4_learn_51 rfl rfl ?_
        refine g_jn (κ := St → Option (Int32 × St)) (fun kj5 => ∀ (s6 : St), G X 69 [.ref (X.B + 64), .int x1, .int x2, .int x3, .int x4, .int x5, .null] [] s6 (kj5 s6)) (fun s6 => ?_) (fun kj5 hkj5 => ?_)
        · refine g_iinc (pc := 69) K (1) dX4_learn_69 rfl (by decide) (by decide) ?_
          change G X 72 [.ref (X.B + 64), .int x1, .int x2, .int x3, .int x4, .int (x5 + (1)), .null] [] s6 _
          refine g_goto (pc := 72) K 23 dX4_learn_72 (by decide) ?_
          exact g_wk (ih (x5 + (1)) s6) ⟨rfl, ⟨rfl, ⟨rfl, ⟨rfl, ⟨rfl, ⟨rfl, trivial⟩⟩⟩⟩⟩⟩
        · refine g_icmp_eq (pc := 52) K 69 dX4_learn_52 (by decide) ?_ ?_
          · exact g_wk (hkj5  s4) ⟨rfl, ⟨rfl, ⟨rfl, ⟨rfl, ⟨rfl, ⟨rfl, trivial⟩⟩⟩⟩⟩⟩
          · refine g_aload_n (pc := 55) K 0 dX4_learn_55 rfl rfl ?_
            refine gg_4_1 (pc := 56) K (by decide) kd_64 kX4_11 dX4_learn_56 ?_
            refine g_iload (pc := 59) K dX4_learn_59 rfl ?_
            refine g_bipush (pc := 61) K (7) dX4_learn_61 (by decide) ?_
            refine g_imul (pc := 63) K dX4_learn_63 ?_
            refine g_iload (pc := 64) K dX4_learn_64 rfl ?_
            refine g_iadd (pc := 66) K dX4_learn_66 ?_
            refine g_iconst (pc := 67) K (1) dX4_learn_67 (by decide) ?_
            refine g_bastore (pc := 68) K (by decide) kd_65 ln_65 dX4_learn_68 (fun s7 => ?_)
            exact g_wk (hkj5  s7) ⟨rfl, ⟨rfl, ⟨rfl, ⟨rfl, ⟨rfl, ⟨rfl, trivial⟩⟩⟩⟩⟩⟩
      · refine g_icmp_le (pc := 33) K 42 dX4_learn_33 (by decide) ?_ ?_
        · refine g_iconst (pc := 42) K (1) dX4_learn_42 (by decide) ?_
          refine g_goto (pc := 43) K 47 dX4_learn_43 (by decide) ?_
          exact g_wk (hkj2 (1) s) ⟨rfl, ⟨rfl, ⟨rfl, ⟨rfl, ⟨rfl, ⟨rfl, trivial⟩⟩⟩⟩⟩⟩
        · refine g_iload (pc := 36) K dX4_learn_36 rfl ?_
          refine g_iload_n (pc := 38) K 2 dX4_learn_38 rfl rfl ?_
          refine g_icmp_gt (pc := 39) K 46 dX4_learn_39 (by decide) ?_ ?_
          · refine g_iconst (pc := 46) K (0) dX4_learn_46 (by decide) ?_
            exact g_wk (hkj2 (0) s) ⟨rfl, ⟨rfl, ⟨rfl, ⟨rfl, ⟨rfl, ⟨rfl, trivial⟩⟩⟩⟩⟩⟩
          · refine g_iconst (pc := 42) K (1) dX4_learn_42 (by decide) ?_
            refine g_goto (pc := 43) K 47 dX4_learn_43 (by decide) ?_
            exact g_wk (hkj2 (1) s) ⟨rfl, ⟨rfl, ⟨rfl, ⟨rfl, ⟨rfl, ⟨rfl, trivial⟩⟩⟩⟩⟩⟩
set_option maxRecDepth 20000 in
set_option maxHeartbeats 4000000 in
theorem tM_X4_learn_L13 {X : Cx} (K : Ok X cX4_learn RX4 7 1) (hR : RV X cX4_learn) (x1 : Int32) (x2 : Int32) (x3 : Int32) (kk : St → Option (Int32 × St)) (hkk : ∀ (s : St), G X 81 [.null, .null, .null, .null, .null, .null, .null] [] s (kk s)) : ∀ (fu : Nat) (x4 : Int32) (s : St), G X 13 [.ref (X.B + 64), .int x1, .int x2, .int x3, .int x4, .null, .null] [] s (M_X4_learn_L13 x1 x2 x3 kk fu x4 s) := by
  intro fu
  induction fu with
  | zero => intro x4 s; exact g_none
  | succ fu ih =>
    intro x4 s
    rw [M_X4_learn_L13]
    refine g_iload (pc := 13) K dX4_learn_13 rfl ?_
    refine g_bipush (pc := 15) K (20) dX4_learn_15 (by decide) ?_
    refine g_icmp_gt (pc := 17) K 81 dX4_learn_17 (by decide) ?_ ?_
    · exact g_wk (hkk  s) trivial
    · refine g_iconst (pc := 20) K (0) dX4_learn_20 (by decide) ?_
      refine g_istore (pc := 21) K dX4_learn_21 (by decide) ?_
      change G X 23 [.ref (X.B + 64), .int x1, .int x2, .int x3, .int x4, .int (0), .null] [] s _
      refine g_weak (L' := [.ref (X.B + 64), .int x1, .int x2, .int x3, .int x4, .int (0), .null]) ⟨rfl, ⟨rfl, ⟨rfl, ⟨rfl, ⟨rfl, ⟨rfl, trivial⟩⟩⟩⟩⟩⟩ ?_
      refine tM_X4_learn_L23 K hR x1 x2 x3 x4 _ (fun s8 => ?_) 400 (0) s
      refine g_iinc (pc := 75) K (1) dX4_learn_75 rfl (by decide) (by decide) ?_
      change G X 78 [.ref (X.B + 64), .int x1, .int x2, .int x3, .int (x4 + (1)), .null, .null] [] s8 _
      refine g_goto (pc := 78) K 13 dX4_learn_78 (by decide) ?_
      exact g_wk (ih (x4 + (1)) s8) ⟨rfl, ⟨rfl, ⟨rfl, ⟨rfl, ⟨rfl, trivial⟩⟩⟩⟩⟩
set_option maxRecDepth 20000 in
set_option maxHeartbeats 4000000 in
theorem tX4_learn {X : Cx} (K : Ok X cX4_learn RX4 7 1) (hR : RV X cX4_learn) (a1 : Int32) (a2 : Int32) (a3 : Int32) (s : St) : G X 0 [.ref (X.B + 64), .int a1, .int a2, .int a3, .null, .null, .null] [] s (M_X4_learn a1 a2 a3 s) := by
  unfold M_X4_learn
  refine g_aload_n (pc := 0) K 0 dX4_learn_0 rfl rfl ?_
  refine g_dup (pc := 1) K dX4_learn_1 rfl ?_
  refine gg_4_0 (pc := 2) K (by decide) kd_64 kX4_15 dX4_learn_2 ?_
  refine g_iconst (pc := 5) K (1) dX4_learn_5 (by decide) ?_
  refine g_iadd (pc := 6) K dX4_learn_6 ?_
  refine gp_4_0 (pc := 7) K (by decide) kd_64 kX4_15 dX4_learn_7 (fun s1 => ?_)
  refine g_iconst (pc := 10) K (0) dX4_learn_10 (by decide) ?_
  refine g_istore (pc := 11) K dX4_learn_11 (by decide) ?_
  change G X 13 [.ref (X.B + 64), .int a1, .int a2, .int a3, .int (0), .null, .null] [] s1 _
  refine g_weak (L' := [.ref (X.B + 64), .int a1, .int a2, .int a3, .int (0), .null, .null]) ⟨rfl, ⟨rfl, ⟨rfl, ⟨rfl, ⟨rfl, trivial⟩⟩⟩⟩⟩ ?_
  refine tM_X4_learn_L13 K hR a1 a2 a3 _ (fun s9 => ?_) 400 (0) s1
  exact g_vr (pc := 81) hR dX4_learn_81
theorem qX4_learn (E : Ce) (a1 : Int32) (a2 : Int32) (a3 : Int32) : Con E yX4_learn cX4_learn 7 none 1 [.ref (E.B + 64), .int a1, .int a2, .int a3] (M_X4_learn a1 a2 a3) :=
  Con.of (by decide) (List.forall_mem_cons.mpr ⟨rfl, List.forall_mem_cons.mpr ⟨rfl, List.forall_mem_cons.mpr ⟨rfl, List.forall_mem_cons.mpr ⟨rfl, fun _ h => absurd h List.not_mem_nil⟩⟩⟩⟩) (Nat.le_of_ble_eq_true rfl) (Or.inl rfl) [.ref (E.B + 64), .int a1, .int a2, .int a3, .null, .null, .null] ⟨rfl, ⟨rfl, ⟨rfl, ⟨rfl, trivial⟩⟩⟩⟩ (fun X s hE hok hI hZ hV => by subst hE; exact tX4_learn hok (hV rfl) a1 a2 a3 s)
theorem hyX4_numberOfNerve : yX4_numberOfNerve.cls ≠ "java/lang/invoke/MethodHandle" ∧ yX4_numberOfNerve.cls ≠ "java/lang/invoke/VarHandle" ∧ (parseMethodDescriptor yX4_numberOfNerve.desc).map (fun d => d.parameters.length) = some 3 := by decide +kernel
set_option maxRecDepth 20000 in
set_option maxHeartbeats 4000000 in
theorem tM_X4_numberOfNerve_L6 {X : Cx} (K : Ok X cX4_numberOfNerve RX4 6 1) (hR : RI X cX4_numberOfNerve) (x1 : Int32) (x3 : Int32) (kk : Int32 → St → Option (Int32 × St)) (hkk : ∀ (x4 : Int32) (s : St), G X 36 [.null, .null, .null, .null, .int x4, .null] [] s (kk x4 s)) : ∀ (fu : Nat) (x4 x5 : Int32) (s : St), G X 6 [.ref (X.B + 64), .int x1, .null, .int x3, .int x4, .int x5] [] s (M_X4_numberOfNerve_L6 x1 x3 kk fu x4 x5 s) := by
  intro fu
  induction fu with
  | zero => intro x4 x5 s; exact g_none
  | succ fu ih =>
    intro x4 x5 s
    rw [M_X4_numberOfNerve_L6]
    refine g_iload (pc := 6) K dX4_numberOfNerve_6 rfl ?_
    refine g_iload_n (pc := 8) K 3 dX4_numberOfNerve_8 rfl rfl ?_
    refine g_icmp_gt (pc := 9) K 36 dX4_numberOfNerve_9 (by decide) ?_ ?_
    · exact g_wk (hkk x4 s) ⟨rfl, trivial⟩
    · refine g_aload_n (pc := 12) K 0 dX4_numberOfNerve_12 rfl rfl ?_
      refine gg_4_1 (pc := 13) K (by decide) kd_64 kX4_11 dX4_numberOfNerve_13 ?_
      refine g_iload (pc := 16) K dX4_numberOfNerve_16 rfl ?_
      refine g_bipush (pc := 18) K (7) dX4_numberOfNerve_18 (by decide) ?_
      refine g_imul (pc := 20) K dX4_numberOfNerve_20 ?_
      refine g_iload_n (pc := 21) K 1 dX4_numberOfNerve_21 rfl rfl ?_
      refine g_iadd (pc := 22) K dX4_numberOfNerve_22 ?_
      refine g_baload (pc := 23) K (by decide) kd_65 ln_65 dX4_numberOfNerve_23 (fun v1 => ?_)
      refine g_jn (κ := Int32 → St → Option (Int32 × St)) (fun kj2 => ∀ (v3 : Int32) (s4 : St), G X 30 [.ref (X.B + 64), .int x1, .null, .int x3, .int v3, .int x5] [] s4 (kj2 v3 s4)) (fun v3 s4 => ?_) (fun kj2 hkj2 => ?_)
      · refine g_iinc (pc := 30) K (1) dX4_numberOfNerve_30 rfl (by decide) (by decide) ?_
        change G X 33 [.ref (X.B + 64), .int x1, .null, .int x3, .int v3, .int (x5 + (1))] [] s4 _
        refine g_goto (pc := 33) K 6 dX4_numberOfNerve_33 (by decide) ?_
        exact g_wk (ih v3 (x5 + (1)) s4) ⟨rfl, ⟨rfl, ⟨rfl, ⟨rfl, ⟨rfl, trivial⟩⟩⟩⟩⟩
      · refine g_if_ne (pc := 24) K 30 dX4_numberOfNerve_24 (by decide) ?_ ?_
        · exact g_wk (hkj2 x4 s) ⟨rfl, ⟨rfl, ⟨rfl, ⟨rfl, ⟨rfl, trivial⟩⟩⟩⟩⟩
        · refine g_iinc (pc := 27) K (1) dX4_numberOfNerve_27 rfl (by decide) (by decide) ?_
          change G X 30 [.ref (X.B + 64), .int x1, .null, .int x3, .int (x4 + (1)), .int x5] [] s _
          exact g_wk (hkj2 (x4 + (1)) s) ⟨rfl, ⟨rfl, ⟨rfl, ⟨rfl, ⟨rfl, trivial⟩⟩⟩⟩⟩
set_option maxRecDepth 20000 in
set_option maxHeartbeats 4000000 in
theorem tX4_numberOfNerve {X : Cx} (K : Ok X cX4_numberOfNerve RX4 6 1) (hR : RI X cX4_numberOfNerve) (a1 : Int32) (a2 : Int32) (a3 : Int32) (s : St) : G X 0 [.ref (X.B + 64), .int a1, .int a2, .int a3, .null, .null] [] s (M_X4_numberOfNerve a1 a2 a3 s) := by
  unfold M_X4_numberOfNerve
  refine g_iconst (pc := 0) K (0) dX4_numberOfNerve_0 (by decide) ?_
  refine g_istore (pc := 1) K dX4_numberOfNerve_1 (by decide) ?_
  change G X 3 [.ref (X.B + 64), .int a1, .int a2, .int a3, .int (0), .null] [] s _
  refine g_iload_n (pc := 3) K 2 dX4_numberOfNerve_3 rfl rfl ?_
  refine g_istore (pc := 4) K dX4_numberOfNerve_4 (by decide) ?_
  change G X 6 [.ref (X.B + 64), .int a1, .int a2, .int a3, .int (0), .int a2] [] s _
  refine g_weak (L' := [.ref (X.B + 64), .int a1, .null, .int a3, .int (0), .int a2]) ⟨rfl, ⟨rfl, ⟨rfl, ⟨rfl, ⟨rfl, trivial⟩⟩⟩⟩⟩ ?_
  refine tM_X4_numberOfNerve_L6 K hR a1 a3 _ (fun v5 s6 => ?_) 400 (0) a2 s
  refine g_iload (pc := 36) K dX4_numberOfNerve_36 rfl ?_
  exact g_ir (pc := 38) hR dX4_numberOfNerve_38
theorem qX4_numberOfNerve (E : Ce) (a1 : Int32) (a2 : Int32) (a3 : Int32) : Con E yX4_numberOfNerve cX4_numberOfNerve 6 (some .int) 1 [.ref (E.B + 64), .int a1, .int a2, .int a3] (M_X4_numberOfNerve a1 a2 a3) :=
  Con.of (by decide) (List.forall_mem_cons.mpr ⟨rfl, List.forall_mem_cons.mpr ⟨rfl, List.forall_mem_cons.mpr ⟨rfl, List.forall_mem_cons.mpr ⟨rfl, fun _ h => absurd h List.not_mem_nil⟩⟩⟩⟩) (Nat.le_of_ble_eq_true rfl) (Or.inr (Or.inl rfl)) [.ref (E.B + 64), .int a1, .int a2, .int a3, .null, .null] ⟨rfl, ⟨rfl, ⟨rfl, ⟨rfl, trivial⟩⟩⟩⟩ (fun X s hE hok hI hZ hV => by subst hE; exact tX4_numberOfNerve hok (hI rfl) a1 a2 a3 s)
theorem hyX4_number : yX4_number.cls ≠ "java/lang/invoke/MethodHandle" ∧ yX4_number.cls ≠ "java/lang/invoke/VarHandle" ∧ (parseMethodDescriptor yX4_number.desc).map (fun d => d.parameters.length) = some 2 := by decide +kernel
set_option maxRecDepth 20000 in
set_option maxHeartbeats 4000000 in
theorem tM_X4_number_L5 {X : Cx} (K : Ok X cX4_number RX4 5 2) (hR : RI X cX4_number) (x1 : Int32) (x2 : Int32) (kk : Int32 → St → Option (Int32 × St)) (hkk : ∀ (x3 : Int32) (s : St), G X 29 [.null, .null, .null, .int x3, .null] [] s (kk x3 s)) : ∀ (fu : Nat) (x3 x4 : Int32) (s : St), G X 5 [.ref (X.B + 64), .int x1, .int x2, .int x3, .int x4] [] s (M_X4_number_L5 x1 x2 kk fu x3 x4 s) := by
  intro fu
  induction fu with
  | zero => intro x3 x4 s; exact g_none
  | succ fu ih =>
    intro x3 x4 s
    rw [M_X4_number_L5]
    refine g_iload (pc := 5) K dX4_number_5 rfl ?_
    refine g_bipush (pc := 7) K (6) dX4_number_7 (by decide) ?_
    refine g_icmp_gt (pc := 9) K 29 dX4_number_9 (by decide) ?_ ?_
    · exact g_wk (hkk x3 s) ⟨rfl, trivial⟩
    · refine g_iload_n (pc := 12) K 3 dX4_number_12 rfl rfl ?_
      refine g_aload_n (pc := 13) K 0 dX4_number_13 rfl rfl ?_
      refine g_iload (pc := 14) K dX4_number_14 rfl ?_
      refine g_iload_n (pc := 16) K 1 dX4_number_16 rfl rfl ?_
      refine g_iload_n (pc := 17) K 2 dX4_number_17 rfl rfl ?_
      refine g_callV (pc := 18) (S := [.int x3]) K (qX4_numberOfNerve X.E x4 x1 x2) (by decide) (ci := 4) rfl (fun _ => ⟨_, ce_4 kd_64⟩) (by decide) (by decide) wcX4_numberOfNerve wiX4 kX4_19 wmX4_numberOfNerve weX4_numberOfNerve hyX4_numberOfNerve rfl rfl (Nat.le_of_ble_eq_true rfl) dX4_number_18 (fun r1 s2 => ?_)
      change G X 21 [.ref (X.B + 64), .int x1, .int x2, .int x3, .int x4] [.int r1, .int x3] s2 _
      refine g_iadd (pc := 21) K dX4_number_21 ?_
      refine g_istore_n (pc := 22) K 3 dX4_number_22 rfl (by decide) ?_
      change G X 23 [.ref (X.B + 64), .int x1, .int x2, .int (x3 + r1), .int x4] [] s2 _
      refine g_iinc (pc := 23) K (1) dX4_number_23 rfl (by decide) (by decide) ?_
      change G X 26 [.ref (X.B + 64), .int x1, .int x2, .int (x3 + r1), .int (x4 + (1))] [] s2 _
      refine g_goto (pc := 26) K 5 dX4_number_26 (by decide) ?_
      exact g_wk (ih (x3 + r1) (x4 + (1)) s2) ⟨rfl, ⟨rfl, ⟨rfl, ⟨rfl, ⟨rfl, trivial⟩⟩⟩⟩⟩
set_option maxRecDepth 20000 in
set_option maxHeartbeats 4000000 in
theorem tX4_number {X : Cx} (K : Ok X cX4_number RX4 5 2) (hR : RI X cX4_number) (a1 : Int32) (a2 : Int32) (s : St) : G X 0 [.ref (X.B + 64), .int a1, .int a2, .null, .null] [] s (M_X4_number a1 a2 s) := by
  unfold M_X4_number
  refine g_iconst (pc := 0) K (0) dX4_number_0 (by decide) ?_
  refine g_istore_n (pc := 1) K 3 dX4_number_1 rfl (by decide) ?_
  change G X 2 [.ref (X.B + 64), .int a1, .int a2, .int (0), .null] [] s _
  refine g_iconst (pc := 2) K (0) dX4_number_2 (by decide) ?_
  refine g_istore (pc := 3) K dX4_number_3 (by decide) ?_
  change G X 5 [.ref (X.B + 64), .int a1, .int a2, .int (0), .int (0)] [] s _
  refine g_weak (L' := [.ref (X.B + 64), .int a1, .int a2, .int (0), .int (0)]) ⟨rfl, ⟨rfl, ⟨rfl, ⟨rfl, ⟨rfl, trivial⟩⟩⟩⟩⟩ ?_
  refine tM_X4_number_L5 K hR a1 a2 _ (fun v3 s4 => ?_) 400 (0) (0) s
  refine g_iload_n (pc := 29) K 3 dX4_number_29 rfl rfl ?_
  exact g_ir (pc := 30) hR dX4_number_30
theorem qX4_number (E : Ce) (a1 : Int32) (a2 : Int32) : Con E yX4_number cX4_number 5 (some .int) 2 [.ref (E.B + 64), .int a1, .int a2] (M_X4_number a1 a2) :=
  Con.of (by decide) (List.forall_mem_cons.mpr ⟨rfl, List.forall_mem_cons.mpr ⟨rfl, List.forall_mem_cons.mpr ⟨rfl, fun _ h => absurd h List.not_mem_nil⟩⟩⟩) (Nat.le_of_ble_eq_true rfl) (Or.inr (Or.inl rfl)) [.ref (E.B + 64), .int a1, .int a2, .null, .null] ⟨rfl, ⟨rfl, ⟨rfl, trivial⟩⟩⟩ (fun X s hE hok hI hZ hV => by subst hE; exact tX4_number hok (hI rfl) a1 a2 s)
theorem hyX4_leastShame : yX4_leastShame.cls ≠ "java/lang/invoke/MethodHandle" ∧ yX4_leastShame.cls ≠ "java/lang/invoke/VarHandle" ∧ (parseMethodDescriptor yX4_leastShame.desc).map (fun d => d.parameters.length) = some 0 := by decide +kernel
set_option maxRecDepth 20000 in
set_option maxHeartbeats 4000000 in
theorem tM_X4_leastShame_L2 {X : Cx} (K : Ok X cX4_leastShame RX4 2 3) (hR : RI X cX4_leastShame) (kk : St → Option (Int32 × St)) (hkk : ∀ (s : St), G X 25 [.null, .null] [] s (kk s)) : ∀ (fu : Nat) (x1 : Int32) (s : St), G X 2 [.ref (X.B + 64), .int x1] [] s (M_X4_leastShame_L2 kk fu x1 s) := by
  intro fu
  induction fu with
  | zero => intro x1 s; exact g_none
  | succ fu ih =>
    intro x1 s
    rw [M_X4_leastShame_L2]
    refine g_iload_n (pc := 2) K 1 dX4_leastShame_2 rfl rfl ?_
    refine g_bipush (pc := 3) K (20) dX4_leastShame_3 (by decide) ?_
    refine g_icmp_gt (pc := 5) K 25 dX4_leastShame_5 (by decide) ?_ ?_
    · exact g_wk (hkk  s) trivial
    · refine g_aload_n (pc := 8) K 0 dX4_leastShame_8 rfl rfl ?_
      refine g_iload_n (pc := 9) K 1 dX4_leastShame_9 rfl rfl ?_
      refine g_iload_n (pc := 10) K 1 dX4_leastShame_10 rfl rfl ?_
      refine g_callV (pc := 11) (S := []) K (qX4_number X.E x1 x1) (by decide) (ci := 4) rfl (fun _ => ⟨_, ce_4 kd_64⟩) (by decide) (by decide) wcX4_number wiX4 kX4_23 wmX4_number weX4_number hyX4_number rfl rfl (Nat.le_of_ble_eq_true rfl) dX4_leastShame_11 (fun r1 s2 => ?_)
      change G X 14 [.ref (X.B + 64), .int x1] [.int r1] s2 _
      refine g_if_le (pc := 14) K 19 dX4_leastShame_14 (by decide) ?_ ?_
      · refine g_iinc (pc := 19) K (1) dX4_leastShame_19 rfl (by decide) (by decide) ?_
        change G X 22 [.ref (X.B + 64), .int (x1 + (1))] [] s2 _
        refine g_goto (pc := 22) K 2 dX4_leastShame_22 (by decide) ?_
        exact g_wk (ih (x1 + (1)) s2) ⟨rfl, ⟨rfl, trivial⟩⟩
      · refine g_iload_n (pc := 17) K 1 dX4_leastShame_17 rfl rfl ?_
        exact g_ir (pc := 18) hR dX4_leastShame_18
set_option maxRecDepth 20000 in
set_option maxHeartbeats 4000000 in
theorem tX4_leastShame {X : Cx} (K : Ok X cX4_leastShame RX4 2 3) (hR : RI X cX4_leastShame) (s : St) : G X 0 [.ref (X.B + 64), .null] [] s (M_X4_leastShame s) := by
  unfold M_X4_leastShame
  refine g_iconst (pc := 0) K (0) dX4_leastShame_0 (by decide) ?_
  refine g_istore_n (pc := 1) K 1 dX4_leastShame_1 rfl (by decide) ?_
  change G X 2 [.ref (X.B + 64), .int (0)] [] s _
  refine g_weak (L' := [.ref (X.B + 64), .int (0)]) ⟨rfl, ⟨rfl, trivial⟩⟩ ?_
  refine tM_X4_leastShame_L2 K hR  _ (fun s3 => ?_) 400 (0) s
  refine g_bipush (pc := 25) K (-9) dX4_leastShame_25 (by decide) ?_
  exact g_ir (pc := 27) hR dX4_leastShame_27
theorem qX4_leastShame (E : Ce) : Con E yX4_leastShame cX4_leastShame 2 (some .int) 3 [.ref (E.B + 64)] (M_X4_leastShame) :=
  Con.of (by decide) (List.forall_mem_cons.mpr ⟨rfl, fun _ h => absurd h List.not_mem_nil⟩) (Nat.le_of_ble_eq_true rfl) (Or.inr (Or.inl rfl)) [.ref (E.B + 64), .null] ⟨rfl, trivial⟩ (fun X s hE hok hI hZ hV => by subst hE; exact tX4_leastShame hok (hI rfl) s)
theorem hyX4_greatestShame : yX4_greatestShame.cls ≠ "java/lang/invoke/MethodHandle" ∧ yX4_greatestShame.cls ≠ "java/lang/invoke/VarHandle" ∧ (parseMethodDescriptor yX4_greatestShame.desc).map (fun d => d.parameters.length) = some 0 := by decide +kernel
set_option maxRecDepth 20000 in
set_option maxHeartbeats 4000000 in
theorem tM_X4_greatestShame_L3 {X : Cx} (K : Ok X cX4_greatestShame RX4 2 3) (hR : RI X cX4_greatestShame) (kk : St → Option (Int32 × St)) (hkk : ∀ (s : St), G X 24 [.null, .null] [] s (kk s)) : ∀ (fu : Nat) (x1 : Int32) (s : St), G X 3 [.ref (X.B + 64), .int x1] [] s (M_X4_greatestShame_L3 kk fu x1 s) := by
  intro fu
  induction fu with
  | zero => intro x1 s; exact g_none
  | succ fu ih =>
    intro x1 s
    rw [M_X4_greatestShame_L3]
    refine g_iload_n (pc := 3) K 1 dX4_greatestShame_3 rfl rfl ?_
    refine g_if_lt (pc := 4) K 24 dX4_greatestShame_4 (by decide) ?_ ?_
    · exact g_wk (hkk  s) trivial
    · refine g_aload_n (pc := 7) K 0 dX4_greatestShame_7 rfl rfl ?_
      refine g_iload_n (pc := 8) K 1 dX4_greatestShame_8 rfl rfl ?_
      refine g_iload_n (pc := 9) K 1 dX4_greatestShame_9 rfl rfl ?_
      refine g_callV (pc := 10) (S := []) K (qX4_number X.E x1 x1) (by decide) (ci := 4) rfl (fun _ => ⟨_, ce_4 kd_64⟩) (by decide) (by decide) wcX4_number wiX4 kX4_23 wmX4_number weX4_number hyX4_number rfl rfl (Nat.le_of_ble_eq_true rfl) dX4_greatestShame_10 (fun r1 s2 => ?_)
      change G X 13 [.ref (X.B + 64), .int x1] [.int r1] s2 _
      refine g_if_le (pc := 13) K 18 dX4_greatestShame_13 (by decide) ?_ ?_
      · refine g_iinc (pc := 18) K (-1) dX4_greatestShame_18 rfl (by decide) (by decide) ?_
        change G X 21 [.ref (X.B + 64), .int (x1 + (-1))] [] s2 _
        refine g_goto (pc := 21) K 3 dX4_greatestShame_21 (by decide) ?_
        exact g_wk (ih (x1 + (-1)) s2) ⟨rfl, ⟨rfl, trivial⟩⟩
      · refine g_iload_n (pc := 16) K 1 dX4_greatestShame_16 rfl rfl ?_
        exact g_ir (pc := 17) hR dX4_greatestShame_17
set_option maxRecDepth 20000 in
set_option maxHeartbeats 4000000 in
theorem tX4_greatestShame {X : Cx} (K : Ok X cX4_greatestShame RX4 2 3) (hR : RI X cX4_greatestShame) (s : St) : G X 0 [.ref (X.B + 64), .null] [] s (M_X4_greatestShame s) := by
  unfold M_X4_greatestShame
  refine g_bipush (pc := 0) K (20) dX4_greatestShame_0 (by decide) ?_
  refine g_istore_n (pc := 2) K 1 dX4_greatestShame_2 rfl (by decide) ?_
  change G X 3 [.ref (X.B + 64), .int (20)] [] s _
  refine g_weak (L' := [.ref (X.B + 64), .int (20)]) ⟨rfl, ⟨rfl, trivial⟩⟩ ?_
  refine tM_X4_greatestShame_L3 K hR  _ (fun s3 => ?_) 400 (20) s
  refine g_bipush (pc := 24) K (-9) dX4_greatestShame_24 (by decide) ?_
  exact g_ir (pc := 26) hR dX4_greatestShame_26
theorem qX4_greatestShame (E : Ce) : Con E yX4_greatestShame cX4_greatestShame 2 (some .int) 3 [.ref (E.B + 64)] (M_X4_greatestShame) :=
  Con.of (by decide) (List.forall_mem_cons.mpr ⟨rfl, fun _ h => absurd h List.not_mem_nil⟩) (Nat.le_of_ble_eq_true rfl) (Or.inr (Or.inl rfl)) [.ref (E.B + 64), .null] ⟨rfl, trivial⟩ (fun X s hE hok hI hZ hV => by subst hE; exact tX4_greatestShame hok (hI rfl) s)
theorem hyX4_bestOthers : yX4_bestOthers.cls ≠ "java/lang/invoke/MethodHandle" ∧ yX4_bestOthers.cls ≠ "java/lang/invoke/VarHandle" ∧ (parseMethodDescriptor yX4_bestOthers.desc).map (fun d => d.parameters.length) = some 1 := by decide +kernel
set_option maxRecDepth 20000 in
set_option maxHeartbeats 4000000 in
theorem tM_X4_bestOthers_L34 {X : Cx} (K : Ok X cX4_bestOthers RX4 8 3) (hR : RI X cX4_bestOthers) (x1 : Int32) (x2 : Int32) (kk : Int32 → St → Option (Int32 × St)) (hkk : ∀ (x3 : Int32) (s : St), G X 88 [.null, .null, .null, .int x3, .null, .null, .null, .null] [] s (kk x3 s)) : ∀ (fu : Nat) (x3 x4 x5 x6 : Int32) (s : St), G X 34 [.ref (X.B + 64), .int x1, .int x2, .int x3, .int x4, .int x5, .int x6, .null] [] s (M_X4_bestOthers_L34 x1 x2 kk fu x3 x4 x5 x6 s) := by
  intro fu
  induction fu with
  | zero => intro x3 x4 x5 x6 s; exact g_none
  | succ fu ih =>
    intro x3 x4 x5 x6 s
    rw [M_X4_bestOthers_L34]
    refine g_iload (pc := 34) K dX4_bestOthers_34 rfl ?_
    refine g_bipush (pc := 36) K (6) dX4_bestOthers_36 (by decide) ?_
    refine g_icmp_gt (pc := 38) K 88 dX4_bestOthers_38 (by decide) ?_ ?_
    · exact g_wk (hkk x3 s) ⟨rfl, trivial⟩
    · refine g_iload (pc := 41) K dX4_bestOthers_41 rfl ?_
      refine g_aload_n (pc := 43) K 0 dX4_bestOthers_43 rfl rfl ?_
      refine g_iload (pc := 44) K dX4_bestOthers_44 rfl ?_
      refine g_iload_n (pc := 46) K 1 dX4_bestOthers_46 rfl rfl ?_
      refine g_iconst (pc := 47) K (1) dX4_bestOthers_47 (by decide) ?_
      refine g_iadd (pc := 48) K dX4_bestOthers_48 ?_
      refine g_bipush (pc := 49) K (20) dX4_bestOthers_49 (by decide) ?_
      refine g_callV (pc := 51) (S := [.int x5]) K (qX4_numberOfNerve X.E x6 (x1 + (1)) (20)) (by decide) (ci := 4) rfl (fun _ => ⟨_, ce_4 kd_64⟩) (by decide) (by decide) wcX4_numberOfNerve wiX4 kX4_19 wmX4_numberOfNerve weX4_numberOfNerve hyX4_numberOfNerve rfl rfl (Nat.le_of_ble_eq_true rfl) dX4_bestOthers_51 (fun r5 s6 => ?_)
      change G X 54 [.ref (X.B + 64), .int x1, .int x2, .int x3, .int x4, .int x5, .int x6, .null] [.int r5, .int x5] s6 _
      refine g_iadd (pc := 54) K dX4_bestOthers_54 ?_
      refine g_istore (pc := 55) K dX4_bestOthers_55 (by decide) ?_
      change G X 57 [.ref (X.B + 64), .int x1, .int x2, .int x3, .int x4, .int (x5 + r5), .int x6, .null] [] s6 _
      refine g_iload (pc := 57) K dX4_bestOthers_57 rfl ?_
      refine g_iload_n (pc := 59) K 2 dX4_bestOthers_59 rfl rfl ?_
      refine g_iload (pc := 60) K dX4_bestOthers_60 rfl ?_
      refine g_isub (pc := 62) K dX4_bestOthers_62 ?_
      refine g_mmax (pc := 63) K (by omega) kX4_27 (Nat.le_of_ble_eq_true rfl) dX4_bestOthers_63 ?_
      refine g_istore (pc := 66) K dX4_bestOthers_66 (by decide) ?_
      change G X 68 [.ref (X.B + 64), .int x1, .int x2, .int x3, .int x4, .int (x5 + r5), .int x6, .int (if (x5 + r5) < (x2 - (x5 + r5)) then (x2 - (x5 + r5)) else (x5 + r5))] [] s6 _
      refine g_iload (pc := 68) K dX4_bestOthers_68 rfl ?_
      refine g_iload (pc := 70) K dX4_bestOthers_70 rfl ?_
      refine g_jn (κ := Int32 → Int32 → St → Option (Int32 × St)) (fun kj7 => ∀ (v8 v9 : Int32) (s10 : St), G X 82 [.ref (X.B + 64), .int x1, .int x2, .int v8, .int v9, .int (x5 + r5), .int x6, .null] [] s10 (kj7 v8 v9 s10)) (fun v8 v9 s10 => ?_) (fun kj7 hkj7 => ?_)
      · refine g_iinc (pc := 82) K (1) dX4_bestOthers_82 rfl (by decide) (by decide) ?_
        change G X 85 [.ref (X.B + 64), .int x1, .int x2, .int v8, .int v9, .int (x5 + r5), .int (x6 + (1)), .null] [] s10 _
        refine g_goto (pc := 85) K 34 dX4_bestOthers_85 (by decide) ?_
        exact g_wk (ih v8 v9 (x5 + r5) (x6 + (1)) s10) ⟨rfl, ⟨rfl, ⟨rfl, ⟨rfl, ⟨rfl, ⟨rfl, ⟨rfl, trivial⟩⟩⟩⟩⟩⟩⟩
      · refine g_icmp_ge (pc := 72) K 82 dX4_bestOthers_72 (by decide) ?_ ?_
        · exact g_wk (hkj7 x3 x4 s6) ⟨rfl, ⟨rfl, ⟨rfl, ⟨rfl, ⟨rfl, ⟨rfl, ⟨rfl, trivial⟩⟩⟩⟩⟩⟩⟩
        · refine g_iload (pc := 75) K dX4_bestOthers_75 rfl ?_
          refine g_istore (pc := 77) K dX4_bestOthers_77 (by decide) ?_
          change G X 79 [.ref (X.B + 64), .int x1, .int x2, .int x3, .int (if (x5 + r5) < (x2 - (x5 + r5)) then (x2 - (x5 + r5)) else (x5 + r5)), .int (x5 + r5), .int x6, .int (if (x5 + r5) < (x2 - (x5 + r5)) then (x2 - (x5 + r5)) else (x5 + r5))] [] s6 _
          refine g_iload (pc := 79) K dX4_bestOthers_79 rfl ?_
          refine g_istore_n (pc := 81) K 3 dX4_bestOthers_81 rfl (by decide) ?_
          change G X 82 [.ref (X.B + 64), .int x1, .int x2, .int x6, .int (if (x5 + r5) < (x2 - (x5 + r5)) then (x2 - (x5 + r5)) else (x5 + r5)), .int (x5 + r5), .int x6, .int (if (x5 + r5) < (x2 - (x5 + r5)) then (x2 - (x5 + r5)) else (x5 + r5))] [] s6 _
          exact g_wk (hkj7 x6 (if (x5 + r5) < (x2 - (x5 + r5)) then (x2 - (x5 + r5)) else (x5 + r5)) s6) ⟨rfl, ⟨rfl, ⟨rfl, ⟨rfl, ⟨rfl, ⟨rfl, ⟨rfl, trivial⟩⟩⟩⟩⟩⟩⟩
set_option maxRecDepth 20000 in
set_option maxHeartbeats 4000000 in
theorem tX4_bestOthers {X : Cx} (K : Ok X cX4_bestOthers RX4 8 3) (hR : RI X cX4_bestOthers) (a1 : Int32) (s : St) : G X 0 [.ref (X.B + 64), .int a1, .null, .null, .null, .null, .null, .null] [] s (M_X4_bestOthers a1 s) := by
  unfold M_X4_bestOthers
  refine g_aload_n (pc := 0) K 0 dX4_bestOthers_0 rfl rfl ?_
  refine g_iconst (pc := 1) K (0) dX4_bestOthers_1 (by decide) ?_
  refine g_bipush (pc := 2) K (20) dX4_bestOthers_2 (by decide) ?_
  refine g_callV (pc := 4) (S := []) K (qX4_number X.E (0) (20)) (by decide) (ci := 4) rfl (fun _ => ⟨_, ce_4 kd_64⟩) (by decide) (by decide) wcX4_number wiX4 kX4_23 wmX4_number weX4_number hyX4_number rfl rfl (Nat.le_of_ble_eq_true rfl) dX4_bestOthers_4 (fun r1 s2 => ?_)
  change G X 7 [.ref (X.B + 64), .int a1, .null, .null, .null, .null, .null, .null] [.int r1] s2 _
  refine g_istore_n (pc := 7) K 2 dX4_bestOthers_7 rfl (by decide) ?_
  change G X 8 [.ref (X.B + 64), .int a1, .int r1, .null, .null, .null, .null, .null] [] s2 _
  refine g_iload_n (pc := 8) K 2 dX4_bestOthers_8 rfl rfl ?_
  refine g_iconst (pc := 9) K (1) dX4_bestOthers_9 (by decide) ?_
  refine g_icmp_gt (pc := 10) K 16 dX4_bestOthers_10 (by decide) ?_ ?_
  · refine g_iconst (pc := 16) K (0) dX4_bestOthers_16 (by decide) ?_
    refine g_istore_n (pc := 17) K 3 dX4_bestOthers_17 rfl (by decide) ?_
    change G X 18 [.ref (X.B + 64), .int a1, .int r1, .int (0), .null, .null, .null, .null] [] s2 _
    refine g_iload_n (pc := 18) K 2 dX4_bestOthers_18 rfl rfl ?_
    refine g_iconst (pc := 19) K (1) dX4_bestOthers_19 (by decide) ?_
    refine g_iadd (pc := 20) K dX4_bestOthers_20 ?_
    refine g_istore (pc := 21) K dX4_bestOthers_21 (by decide) ?_
    change G X 23 [.ref (X.B + 64), .int a1, .int r1, .int (0), .int (r1 + (1)), .null, .null, .null] [] s2 _
    refine g_aload_n (pc := 23) K 0 dX4_bestOthers_23 rfl rfl ?_
    refine g_iconst (pc := 24) K (0) dX4_bestOthers_24 (by decide) ?_
    refine g_iload_n (pc := 25) K 1 dX4_bestOthers_25 rfl rfl ?_
    refine g_callV (pc := 26) (S := []) K (qX4_number X.E (0) a1) (by decide) (ci := 4) rfl (fun _ => ⟨_, ce_4 kd_64⟩) (by decide) (by decide) wcX4_number wiX4 kX4_23 wmX4_number weX4_number hyX4_number rfl rfl (Nat.le_of_ble_eq_true rfl) dX4_bestOthers_26 (fun r3 s4 => ?_)
    change G X 29 [.ref (X.B + 64), .int a1, .int r1, .int (0), .int (r1 + (1)), .null, .null, .null] [.int r3] s4 _
    refine g_istore (pc := 29) K dX4_bestOthers_29 (by decide) ?_
    change G X 31 [.ref (X.B + 64), .int a1, .int r1, .int (0), .int (r1 + (1)), .int r3, .null, .null] [] s4 _
    refine g_iconst (pc := 31) K (0) dX4_bestOthers_31 (by decide) ?_
    refine g_istore (pc := 32) K dX4_bestOthers_32 (by decide) ?_
    change G X 34 [.ref (X.B + 64), .int a1, .int r1, .int (0), .int (r1 + (1)), .int r3, .int (0), .null] [] s4 _
    refine g_weak (L' := [.ref (X.B + 64), .int a1, .int r1, .int (0), .int (r1 + (1)), .int r3, .int (0), .null]) ⟨rfl, ⟨rfl, ⟨rfl, ⟨rfl, ⟨rfl, ⟨rfl, ⟨rfl, trivial⟩⟩⟩⟩⟩⟩⟩ ?_
    refine tM_X4_bestOthers_L34 K hR a1 r1 _ (fun v11 s12 => ?_) 400 (0) (r1 + (1)) r3 (0) s4
    refine g_iload_n (pc := 88) K 3 dX4_bestOthers_88 rfl rfl ?_
    exact g_ir (pc := 89) hR dX4_bestOthers_89
  · refine g_bipush (pc := 13) K (-9) dX4_bestOthers_13 (by decide) ?_
    exact g_ir (pc := 15) hR dX4_bestOthers_15
theorem qX4_bestOthers (E : Ce) (a1 : Int32) : Con E yX4_bestOthers cX4_bestOthers 8 (some .int) 3 [.ref (E.B + 64), .int a1] (M_X4_bestOthers a1) :=
  Con.of (by decide) (List.forall_mem_cons.mpr ⟨rfl, List.forall_mem_cons.mpr ⟨rfl, fun _ h => absurd h List.not_mem_nil⟩⟩) (Nat.le_of_ble_eq_true rfl) (Or.inr (Or.inl rfl)) [.ref (E.B + 64), .int a1, .null, .null, .null, .null, .null, .null] ⟨rfl, ⟨rfl, trivial⟩⟩ (fun X s hE hok hI hZ hV => by subst hE; exact tX4_bestOthers hok (hI rfl) a1 s)
end
