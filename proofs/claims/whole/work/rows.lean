section
-- ===== PART A: goes FIRST, ahead of the names: the tables' words, and 'selects' of the private methods out of them =====
/-- a private method of a class that the tables say can be made, by its rows of tables_1 -/
def lw_okq (q : MethodName × Nat) : Prop := (q.1.cls ≠ "java/lang/invoke/MethodHandle" ∧ q.1.cls ≠ "java/lang/invoke/VarHandle") ∧ Cond.instantiable q.1.cls q.2 ∈ tables_1 ∧ Cond.privateMethod q.1 ∈ tables_1 ∧ Cond.instanceMethod q.1 ∈ tables_1
theorem lw_p0 : lw_okq (⟨"LoveGlass$Port", "clear", "()V"⟩, 7) := ⟨⟨by decide +kernel, by decide +kernel⟩, List.mem_of_getElem? (i := 45) (by decide +kernel), List.mem_of_getElem? (i := 267) (by decide +kernel), List.mem_of_getElem? (i := 268) (by decide +kernel)⟩
theorem lw_p1 : lw_okq (⟨"LoveGlass$Port", "rowOf", "(II)LLoveGlass$Row;"⟩, 7) := ⟨⟨by decide +kernel, by decide +kernel⟩, List.mem_of_getElem? (i := 45) (by decide +kernel), List.mem_of_getElem? (i := 277) (by decide +kernel), List.mem_of_getElem? (i := 278) (by decide +kernel)⟩
theorem lw_p2 : lw_okq (⟨"LoveGlass", "aboutRun", "(I)I"⟩, 12) := ⟨⟨by decide +kernel, by decide +kernel⟩, List.mem_of_getElem? (i := 14) (by decide +kernel), List.mem_of_getElem? (i := 322) (by decide +kernel), List.mem_of_getElem? (i := 323) (by decide +kernel)⟩
theorem lw_p3 : lw_okq (⟨"LoveGlass$Shelf", "at", "(I)LLoveGlass$Run;"⟩, 1) := ⟨⟨by decide +kernel, by decide +kernel⟩, List.mem_of_getElem? (i := 119) (by decide +kernel), List.mem_of_getElem? (i := 432) (by decide +kernel), List.mem_of_getElem? (i := 433) (by decide +kernel)⟩
theorem lw_p4 : lw_okq (⟨"LoveGlass", "actTried", "(Z)I"⟩, 12) := ⟨⟨by decide +kernel, by decide +kernel⟩, List.mem_of_getElem? (i := 14) (by decide +kernel), List.mem_of_getElem? (i := 469) (by decide +kernel), List.mem_of_getElem? (i := 470) (by decide +kernel)⟩
theorem lw_p5 : lw_okq (⟨"LoveGlass$Plans", "offer", "(III)V"⟩, 6) := ⟨⟨by decide +kernel, by decide +kernel⟩, List.mem_of_getElem? (i := 164) (by decide +kernel), List.mem_of_getElem? (i := 518) (by decide +kernel), List.mem_of_getElem? (i := 519) (by decide +kernel)⟩
theorem lw_p6 : lw_okq (⟨"LoveGlass$Plans", "extend", "(LLoveGlass$Port;LLoveGlass$Run;II)V"⟩, 6) := ⟨⟨by decide +kernel, by decide +kernel⟩, List.mem_of_getElem? (i := 164) (by decide +kernel), List.mem_of_getElem? (i := 523) (by decide +kernel), List.mem_of_getElem? (i := 524) (by decide +kernel)⟩
theorem lw_p7 : lw_okq (⟨"LoveGlass$Plans", "reaches", "(I)Z"⟩, 6) := ⟨⟨by decide +kernel, by decide +kernel⟩, List.mem_of_getElem? (i := 164) (by decide +kernel), List.mem_of_getElem? (i := 542) (by decide +kernel), List.mem_of_getElem? (i := 543) (by decide +kernel)⟩
theorem lw_p8 : lw_okq (⟨"LoveGlass$Plans", "isShorter", "(I)Z"⟩, 6) := ⟨⟨by decide +kernel, by decide +kernel⟩, List.mem_of_getElem? (i := 164) (by decide +kernel), List.mem_of_getElem? (i := 547) (by decide +kernel), List.mem_of_getElem? (i := 548) (by decide +kernel)⟩
theorem lw_p9 : lw_okq (⟨"LoveGlass$Plans", "choose", "(I)V"⟩, 6) := ⟨⟨by decide +kernel, by decide +kernel⟩, List.mem_of_getElem? (i := 164) (by decide +kernel), List.mem_of_getElem? (i := 551) (by decide +kernel), List.mem_of_getElem? (i := 552) (by decide +kernel)⟩
theorem lw_p10 : lw_okq (⟨"LoveGlass", "canDeclare", "(II)Z"⟩, 12) := ⟨⟨by decide +kernel, by decide +kernel⟩, List.mem_of_getElem? (i := 14) (by decide +kernel), List.mem_of_getElem? (i := 567) (by decide +kernel), List.mem_of_getElem? (i := 568) (by decide +kernel)⟩
theorem lw_p11 : lw_okq (⟨"LoveGlass", "matchesIn", "(III)I"⟩, 12) := ⟨⟨by decide +kernel, by decide +kernel⟩, List.mem_of_getElem? (i := 14) (by decide +kernel), List.mem_of_getElem? (i := 582) (by decide +kernel), List.mem_of_getElem? (i := 583) (by decide +kernel)⟩
theorem lw_p12 : lw_okq (⟨"LoveGlass", "figuresOf", "(II)I"⟩, 12) := ⟨⟨by decide +kernel, by decide +kernel⟩, List.mem_of_getElem? (i := 14) (by decide +kernel), List.mem_of_getElem? (i := 590) (by decide +kernel), List.mem_of_getElem? (i := 591) (by decide +kernel)⟩
theorem lw_p13 : lw_okq (⟨"LoveGlass", "canDo", "(II)Z"⟩, 12) := ⟨⟨by decide +kernel, by decide +kernel⟩, List.mem_of_getElem? (i := 14) (by decide +kernel), List.mem_of_getElem? (i := 601) (by decide +kernel), List.mem_of_getElem? (i := 602) (by decide +kernel)⟩
theorem lw_p14 : lw_okq (⟨"LoveGlass", "warmestAfresh", "(II)I"⟩, 12) := ⟨⟨by decide +kernel, by decide +kernel⟩, List.mem_of_getElem? (i := 14) (by decide +kernel), List.mem_of_getElem? (i := 672) (by decide +kernel), List.mem_of_getElem? (i := 673) (by decide +kernel)⟩
theorem lw_p15 : lw_okq (⟨"LoveGlass", "hear", "(II)V"⟩, 12) := ⟨⟨by decide +kernel, by decide +kernel⟩, List.mem_of_getElem? (i := 14) (by decide +kernel), List.mem_of_getElem? (i := 687) (by decide +kernel), List.mem_of_getElem? (i := 688) (by decide +kernel)⟩
def lw_privs_1 : List (MethodName × Nat) := [(⟨"LoveGlass$Port", "clear", "()V"⟩, 7), (⟨"LoveGlass$Port", "rowOf", "(II)LLoveGlass$Row;"⟩, 7), (⟨"LoveGlass", "aboutRun", "(I)I"⟩, 12), (⟨"LoveGlass$Shelf", "at", "(I)LLoveGlass$Run;"⟩, 1), (⟨"LoveGlass", "actTried", "(Z)I"⟩, 12), (⟨"LoveGlass$Plans", "offer", "(III)V"⟩, 6), (⟨"LoveGlass$Plans", "extend", "(LLoveGlass$Port;LLoveGlass$Run;II)V"⟩, 6), (⟨"LoveGlass$Plans", "reaches", "(I)Z"⟩, 6), (⟨"LoveGlass$Plans", "isShorter", "(I)Z"⟩, 6), (⟨"LoveGlass$Plans", "choose", "(I)V"⟩, 6), (⟨"LoveGlass", "canDeclare", "(II)Z"⟩, 12), (⟨"LoveGlass", "matchesIn", "(III)I"⟩, 12), (⟨"LoveGlass", "figuresOf", "(II)I"⟩, 12), (⟨"LoveGlass", "canDo", "(II)Z"⟩, 12), (⟨"LoveGlass", "warmestAfresh", "(II)I"⟩, 12), (⟨"LoveGlass", "hear", "(II)V"⟩, 12)]
theorem lw_r1 : ∀ q ∈ lw_privs_1, lw_okq q := List.forall_mem_cons.mpr ⟨lw_p0, List.forall_mem_cons.mpr ⟨lw_p1, List.forall_mem_cons.mpr ⟨lw_p2, List.forall_mem_cons.mpr ⟨lw_p3, List.forall_mem_cons.mpr ⟨lw_p4, List.forall_mem_cons.mpr ⟨lw_p5, List.forall_mem_cons.mpr ⟨lw_p6, List.forall_mem_cons.mpr ⟨lw_p7, List.forall_mem_cons.mpr ⟨lw_p8, List.forall_mem_cons.mpr ⟨lw_p9, List.forall_mem_cons.mpr ⟨lw_p10, List.forall_mem_cons.mpr ⟨lw_p11, List.forall_mem_cons.mpr ⟨lw_p12, List.forall_mem_cons.mpr ⟨lw_p13, List.forall_mem_cons.mpr ⟨lw_p14, List.forall_mem_cons.mpr ⟨lw_p15, fun _ h => absurd h List.not_mem_nil⟩⟩⟩⟩⟩⟩⟩⟩⟩⟩⟩⟩⟩⟩⟩⟩
theorem lw_p16 : lw_okq (⟨"LoveGlass", "speaksInWeek", "(I)Z"⟩, 12) := ⟨⟨by decide +kernel, by decide +kernel⟩, List.mem_of_getElem? (i := 14) (by decide +kernel), List.mem_of_getElem? (i := 703) (by decide +kernel), List.mem_of_getElem? (i := 704) (by decide +kernel)⟩
theorem lw_p17 : lw_okq (⟨"LoveGlassModel", "readPort", "()I"⟩, 41) := ⟨⟨by decide +kernel, by decide +kernel⟩, List.mem_of_getElem? (i := 717) (by decide +kernel), List.mem_of_getElem? (i := 864) (by decide +kernel), List.mem_of_getElem? (i := 865) (by decide +kernel)⟩
theorem lw_p18 : lw_okq (⟨"LoveGlassModel", "readPart", "()Z"⟩, 41) := ⟨⟨by decide +kernel, by decide +kernel⟩, List.mem_of_getElem? (i := 717) (by decide +kernel), List.mem_of_getElem? (i := 868) (by decide +kernel), List.mem_of_getElem? (i := 869) (by decide +kernel)⟩
theorem lw_p19 : lw_okq (⟨"LoveGlassModel", "readOneGlass", "()Z"⟩, 41) := ⟨⟨by decide +kernel, by decide +kernel⟩, List.mem_of_getElem? (i := 717) (by decide +kernel), List.mem_of_getElem? (i := 872) (by decide +kernel), List.mem_of_getElem? (i := 873) (by decide +kernel)⟩
theorem lw_p20 : lw_okq (⟨"LoveGlassModel", "figure", "(II)I"⟩, 41) := ⟨⟨by decide +kernel, by decide +kernel⟩, List.mem_of_getElem? (i := 717) (by decide +kernel), List.mem_of_getElem? (i := 876) (by decide +kernel), List.mem_of_getElem? (i := 877) (by decide +kernel)⟩
theorem lw_p21 : lw_okq (⟨"LoveGlassModel", "readOneSuitor", "()Z"⟩, 41) := ⟨⟨by decide +kernel, by decide +kernel⟩, List.mem_of_getElem? (i := 717) (by decide +kernel), List.mem_of_getElem? (i := 880) (by decide +kernel), List.mem_of_getElem? (i := 881) (by decide +kernel)⟩
theorem lw_p22 : lw_okq (⟨"LoveGlassModel", "readOneSaying", "()Z"⟩, 41) := ⟨⟨by decide +kernel, by decide +kernel⟩, List.mem_of_getElem? (i := 717) (by decide +kernel), List.mem_of_getElem? (i := 884) (by decide +kernel), List.mem_of_getElem? (i := 885) (by decide +kernel)⟩
theorem lw_p23 : lw_okq (⟨"LoveGlassModel", "warmthOf", "([I)I"⟩, 41) := ⟨⟨by decide +kernel, by decide +kernel⟩, List.mem_of_getElem? (i := 717) (by decide +kernel), List.mem_of_getElem? (i := 902) (by decide +kernel), List.mem_of_getElem? (i := 903) (by decide +kernel)⟩
theorem lw_p24 : lw_okq (⟨"LoveGlassModel", "declares", "([II)Z"⟩, 41) := ⟨⟨by decide +kernel, by decide +kernel⟩, List.mem_of_getElem? (i := 717) (by decide +kernel), List.mem_of_getElem? (i := 906) (by decide +kernel), List.mem_of_getElem? (i := 907) (by decide +kernel)⟩
theorem lw_p25 : lw_okq (⟨"LoveGlassModel", "noGlass", "(I)Z"⟩, 41) := ⟨⟨by decide +kernel, by decide +kernel⟩, List.mem_of_getElem? (i := 717) (by decide +kernel), List.mem_of_getElem? (i := 917) (by decide +kernel), List.mem_of_getElem? (i := 918) (by decide +kernel)⟩
theorem lw_p26 : lw_okq (⟨"LoveGlassModel", "grainsOf", "(I)I"⟩, 41) := ⟨⟨by decide +kernel, by decide +kernel⟩, List.mem_of_getElem? (i := 717) (by decide +kernel), List.mem_of_getElem? (i := 921) (by decide +kernel), List.mem_of_getElem? (i := 922) (by decide +kernel)⟩
theorem lw_p27 : lw_okq (⟨"LoveGlassModel", "noSuitor", "(I)Z"⟩, 41) := ⟨⟨by decide +kernel, by decide +kernel⟩, List.mem_of_getElem? (i := 717) (by decide +kernel), List.mem_of_getElem? (i := 929) (by decide +kernel), List.mem_of_getElem? (i := 930) (by decide +kernel)⟩
theorem lw_p28 : lw_okq (⟨"LoveGlassModel", "noSaying", "(I)Z"⟩, 41) := ⟨⟨by decide +kernel, by decide +kernel⟩, List.mem_of_getElem? (i := 717) (by decide +kernel), List.mem_of_getElem? (i := 937) (by decide +kernel), List.mem_of_getElem? (i := 938) (by decide +kernel)⟩
theorem lw_p29 : lw_okq (⟨"LoveGlassModel", "takesNow", "([II)I"⟩, 41) := ⟨⟨by decide +kernel, by decide +kernel⟩, List.mem_of_getElem? (i := 717) (by decide +kernel), List.mem_of_getElem? (i := 942) (by decide +kernel), List.mem_of_getElem? (i := 943) (by decide +kernel)⟩
theorem lw_p30 : lw_okq (⟨"LoveGlassModel", "takesOf", "(IIII)I"⟩, 41) := ⟨⟨by decide +kernel, by decide +kernel⟩, List.mem_of_getElem? (i := 717) (by decide +kernel), List.mem_of_getElem? (i := 946) (by decide +kernel), List.mem_of_getElem? (i := 947) (by decide +kernel)⟩
theorem lw_p31 : lw_okq (⟨"LoveGlassModel", "takesBy", "(IIII)I"⟩, 41) := ⟨⟨by decide +kernel, by decide +kernel⟩, List.mem_of_getElem? (i := 717) (by decide +kernel), List.mem_of_getElem? (i := 950) (by decide +kernel), List.mem_of_getElem? (i := 951) (by decide +kernel)⟩
def lw_privs_2 : List (MethodName × Nat) := [(⟨"LoveGlass", "speaksInWeek", "(I)Z"⟩, 12), (⟨"LoveGlassModel", "readPort", "()I"⟩, 41), (⟨"LoveGlassModel", "readPart", "()Z"⟩, 41), (⟨"LoveGlassModel", "readOneGlass", "()Z"⟩, 41), (⟨"LoveGlassModel", "figure", "(II)I"⟩, 41), (⟨"LoveGlassModel", "readOneSuitor", "()Z"⟩, 41), (⟨"LoveGlassModel", "readOneSaying", "()Z"⟩, 41), (⟨"LoveGlassModel", "warmthOf", "([I)I"⟩, 41), (⟨"LoveGlassModel", "declares", "([II)Z"⟩, 41), (⟨"LoveGlassModel", "noGlass", "(I)Z"⟩, 41), (⟨"LoveGlassModel", "grainsOf", "(I)I"⟩, 41), (⟨"LoveGlassModel", "noSuitor", "(I)Z"⟩, 41), (⟨"LoveGlassModel", "noSaying", "(I)Z"⟩, 41), (⟨"LoveGlassModel", "takesNow", "([II)I"⟩, 41), (⟨"LoveGlassModel", "takesOf", "(IIII)I"⟩, 41), (⟨"LoveGlassModel", "takesBy", "(IIII)I"⟩, 41)]
theorem lw_r2 : ∀ q ∈ lw_privs_2, lw_okq q := List.forall_mem_cons.mpr ⟨lw_p16, List.forall_mem_cons.mpr ⟨lw_p17, List.forall_mem_cons.mpr ⟨lw_p18, List.forall_mem_cons.mpr ⟨lw_p19, List.forall_mem_cons.mpr ⟨lw_p20, List.forall_mem_cons.mpr ⟨lw_p21, List.forall_mem_cons.mpr ⟨lw_p22, List.forall_mem_cons.mpr ⟨lw_p23, List.forall_mem_cons.mpr ⟨lw_p24, List.forall_mem_cons.mpr ⟨lw_p25, List.forall_mem_cons.mpr ⟨lw_p26, List.forall_mem_cons.mpr ⟨lw_p27, List.forall_mem_cons.mpr ⟨lw_p28, List.forall_mem_cons.mpr ⟨lw_p29, List.forall_mem_cons.mpr ⟨lw_p30, List.forall_mem_cons.mpr ⟨lw_p31, fun _ h => absurd h List.not_mem_nil⟩⟩⟩⟩⟩⟩⟩⟩⟩⟩⟩⟩⟩⟩⟩⟩
theorem lw_p32 : lw_okq (⟨"LoveGlassModel", "note", "()V"⟩, 41) := ⟨⟨by decide +kernel, by decide +kernel⟩, List.mem_of_getElem? (i := 717) (by decide +kernel), List.mem_of_getElem? (i := 967) (by decide +kernel), List.mem_of_getElem? (i := 968) (by decide +kernel)⟩
theorem lw_p33 : lw_okq (⟨"LoveGlassModel", "run", "([III)V"⟩, 41) := ⟨⟨by decide +kernel, by decide +kernel⟩, List.mem_of_getElem? (i := 717) (by decide +kernel), List.mem_of_getElem? (i := 971) (by decide +kernel), List.mem_of_getElem? (i := 972) (by decide +kernel)⟩
theorem lw_p34 : lw_okq (⟨"LoveGlassModel", "canSay", "([II)Z"⟩, 41) := ⟨⟨by decide +kernel, by decide +kernel⟩, List.mem_of_getElem? (i := 717) (by decide +kernel), List.mem_of_getElem? (i := 979) (by decide +kernel), List.mem_of_getElem? (i := 980) (by decide +kernel)⟩
theorem lw_p35 : lw_okq (⟨"LoveGlassModel", "goSay", "([II)V"⟩, 41) := ⟨⟨by decide +kernel, by decide +kernel⟩, List.mem_of_getElem? (i := 717) (by decide +kernel), List.mem_of_getElem? (i := 983) (by decide +kernel), List.mem_of_getElem? (i := 984) (by decide +kernel)⟩
theorem lw_p36 : lw_okq (⟨"LoveGlassModel", "pauseOf", "([I)I"⟩, 41) := ⟨⟨by decide +kernel, by decide +kernel⟩, List.mem_of_getElem? (i := 717) (by decide +kernel), List.mem_of_getElem? (i := 991) (by decide +kernel), List.mem_of_getElem? (i := 992) (by decide +kernel)⟩
theorem lw_p37 : lw_okq (⟨"LoveGlassModel", "searchNow", "()V"⟩, 41) := ⟨⟨by decide +kernel, by decide +kernel⟩, List.mem_of_getElem? (i := 717) (by decide +kernel), List.mem_of_getElem? (i := 1014) (by decide +kernel), List.mem_of_getElem? (i := 1015) (by decide +kernel)⟩
theorem lw_p38 : lw_okq (⟨"LoveGlassModel", "begin", "()V"⟩, 41) := ⟨⟨by decide +kernel, by decide +kernel⟩, List.mem_of_getElem? (i := 717) (by decide +kernel), List.mem_of_getElem? (i := 1018) (by decide +kernel), List.mem_of_getElem? (i := 1019) (by decide +kernel)⟩
theorem lw_p39 : lw_okq (⟨"LoveGlassModel", "search", "(I)V"⟩, 41) := ⟨⟨by decide +kernel, by decide +kernel⟩, List.mem_of_getElem? (i := 717) (by decide +kernel), List.mem_of_getElem? (i := 1022) (by decide +kernel), List.mem_of_getElem? (i := 1023) (by decide +kernel)⟩
theorem lw_p40 : lw_okq (⟨"LoveGlassModel", "lookAt", "(II)V"⟩, 41) := ⟨⟨by decide +kernel, by decide +kernel⟩, List.mem_of_getElem? (i := 717) (by decide +kernel), List.mem_of_getElem? (i := 1026) (by decide +kernel), List.mem_of_getElem? (i := 1027) (by decide +kernel)⟩
theorem lw_p41 : lw_okq (⟨"LoveGlassModel", "canIn", "(II)Z"⟩, 41) := ⟨⟨by decide +kernel, by decide +kernel⟩, List.mem_of_getElem? (i := 717) (by decide +kernel), List.mem_of_getElem? (i := 1038) (by decide +kernel), List.mem_of_getElem? (i := 1039) (by decide +kernel)⟩
theorem lw_p42 : lw_okq (⟨"LoveGlassModel", "findMatch", "()V"⟩, 41) := ⟨⟨by decide +kernel, by decide +kernel⟩, List.mem_of_getElem? (i := 717) (by decide +kernel), List.mem_of_getElem? (i := 1050) (by decide +kernel), List.mem_of_getElem? (i := 1051) (by decide +kernel)⟩
theorem lw_p43 : lw_okq (⟨"LoveGlassModel", "isDone", "(II)Z"⟩, 41) := ⟨⟨by decide +kernel, by decide +kernel⟩, List.mem_of_getElem? (i := 717) (by decide +kernel), List.mem_of_getElem? (i := 1062) (by decide +kernel), List.mem_of_getElem? (i := 1063) (by decide +kernel)⟩
theorem lw_p44 : lw_okq (⟨"LoveGlassModel", "warmthBy", "(IIII)I"⟩, 41) := ⟨⟨by decide +kernel, by decide +kernel⟩, List.mem_of_getElem? (i := 717) (by decide +kernel), List.mem_of_getElem? (i := 1070) (by decide +kernel), List.mem_of_getElem? (i := 1071) (by decide +kernel)⟩
theorem lw_p45 : lw_okq (⟨"LoveGlassModel", "layGains", "(II)V"⟩, 41) := ⟨⟨by decide +kernel, by decide +kernel⟩, List.mem_of_getElem? (i := 717) (by decide +kernel), List.mem_of_getElem? (i := 1103) (by decide +kernel), List.mem_of_getElem? (i := 1104) (by decide +kernel)⟩
def lw_privs_3 : List (MethodName × Nat) := [(⟨"LoveGlassModel", "note", "()V"⟩, 41), (⟨"LoveGlassModel", "run", "([III)V"⟩, 41), (⟨"LoveGlassModel", "canSay", "([II)Z"⟩, 41), (⟨"LoveGlassModel", "goSay", "([II)V"⟩, 41), (⟨"LoveGlassModel", "pauseOf", "([I)I"⟩, 41), (⟨"LoveGlassModel", "searchNow", "()V"⟩, 41), (⟨"LoveGlassModel", "begin", "()V"⟩, 41), (⟨"LoveGlassModel", "search", "(I)V"⟩, 41), (⟨"LoveGlassModel", "lookAt", "(II)V"⟩, 41), (⟨"LoveGlassModel", "canIn", "(II)Z"⟩, 41), (⟨"LoveGlassModel", "findMatch", "()V"⟩, 41), (⟨"LoveGlassModel", "isDone", "(II)Z"⟩, 41), (⟨"LoveGlassModel", "warmthBy", "(IIII)I"⟩, 41), (⟨"LoveGlassModel", "layGains", "(II)V"⟩, 41)]
theorem lw_r3 : ∀ q ∈ lw_privs_3, lw_okq q := List.forall_mem_cons.mpr ⟨lw_p32, List.forall_mem_cons.mpr ⟨lw_p33, List.forall_mem_cons.mpr ⟨lw_p34, List.forall_mem_cons.mpr ⟨lw_p35, List.forall_mem_cons.mpr ⟨lw_p36, List.forall_mem_cons.mpr ⟨lw_p37, List.forall_mem_cons.mpr ⟨lw_p38, List.forall_mem_cons.mpr ⟨lw_p39, List.forall_mem_cons.mpr ⟨lw_p40, List.forall_mem_cons.mpr ⟨lw_p41, List.forall_mem_cons.mpr ⟨lw_p42, List.forall_mem_cons.mpr ⟨lw_p43, List.forall_mem_cons.mpr ⟨lw_p44, List.forall_mem_cons.mpr ⟨lw_p45, fun _ h => absurd h List.not_mem_nil⟩⟩⟩⟩⟩⟩⟩⟩⟩⟩⟩⟩⟩⟩
def lw_privs : List (MethodName × Nat) := lw_privs_1 ++ (lw_privs_2 ++ (lw_privs_3))
def lw_tbl : List Cond := k2_sels lw_privs ++ tables_1
theorem lw_privs_ok : ∀ q ∈ lw_privs, lw_okq q := by
  show ∀ q ∈ lw_privs_1 ++ (lw_privs_2 ++ (lw_privs_3)), lw_okq q
  exact List.forall_mem_append.mpr ⟨lw_r1, List.forall_mem_append.mpr ⟨lw_r2, lw_r3⟩⟩
/-! ===== tables: classes, fields, methods, code (out of the printed names) ===== -/
def zt_R0 : String := "LoveGlass$Acts"
def zt_T0 : u_T := fun k => match k with
  | 0 => ("LoveGlass$Acts", "ring", "LLoveGlass$Shelf;", true)
  | 1 => ("LoveGlass$Acts", "next", "I", false)
  | _ => ("LoveGlass$Acts", "count", "I", false)
def zt_R1 : String := "LoveGlass$Plans"
def zt_T1 : u_T := fun k => match k with
  | 0 => ("LoveGlass$Plans", "fewest", "[I", true)
  | 1 => ("LoveGlass$Plans", "rows", "[I", true)
  | 2 => ("LoveGlass$Plans", "worth", "[I", true)
  | 3 => ("LoveGlass$Plans", "warmth", "I", false)
  | 4 => ("LoveGlass$Plans", "grains", "I", false)
  | _ => ("LoveGlass$Plans", "row", "I", false)
def zt_R2 : String := "LoveGlass$Port"
def zt_T2 : u_T := fun k => match k with
  | 0 => ("LoveGlass$Port", "sand", "LLoveGlass$Row;", true)
  | 1 => ("LoveGlass$Port", "glassKind", "LLoveGlass$Row;", true)
  | 2 => ("LoveGlass$Port", "pace", "LLoveGlass$Row;", true)
  | 3 => ("LoveGlass$Port", "suitorKind", "LLoveGlass$Row;", true)
  | 4 => ("LoveGlass$Port", "letters", "LLoveGlass$Row;", true)
  | 5 => ("LoveGlass$Port", "warmth", "LLoveGlass$Row;", true)
  | _ => ("LoveGlass$Port", "sort", "LLoveGlass$Row;", true)
def zt_R3 : String := "LoveGlass$Row"
def zt_T3 : u_T := fun k => match k with
  | 0 => ("LoveGlass$Row", "numbers", "[I", true)
  | 1 => ("LoveGlass$Row", "lowest", "I", true)
  | 2 => ("LoveGlass$Row", "highest", "I", true)
  | _ => ("LoveGlass$Row", "count", "I", false)
def zt_R4 : String := "LoveGlass$Run"
def zt_T4 : u_T := fun k => match k with
  | 0 => ("LoveGlass$Run", "glass", "I", false)
  | 1 => ("LoveGlass$Run", "suitor", "I", false)
  | 2 => ("LoveGlass$Run", "left", "I", false)
  | _ => ("LoveGlass$Run", "row", "LLoveGlass$Row;", true)
def zt_R5 : String := "LoveGlass$Shelf"
def zt_T5 : u_T := fun k => match k with
  | _ => ("LoveGlass$Shelf", "runs", "[LLoveGlass$Run;", true)
def zt_R6 : String := "LoveGlass$Timings"
def zt_T6 : u_T := fun k => match k with
  | 0 => ("LoveGlass$Timings", "saying", "LLoveGlass$Row;", true)
  | 1 => ("LoveGlass$Timings", "place", "LLoveGlass$Row;", true)
  | 2 => ("LoveGlass$Timings", "pace", "LLoveGlass$Row;", true)
  | _ => ("LoveGlass$Timings", "grains", "LLoveGlass$Row;", true)
def zt_R7 : String := "LoveGlass"
def zt_T7 : u_T := fun k => match k with
  | 0 => ("LoveGlass", "text", "LLoveGlass$Row;", true)
  | 1 => ("LoveGlass", "port", "LLoveGlass$Port;", false)
  | 2 => ("LoveGlass", "draft", "LLoveGlass$Port;", false)
  | 3 => ("LoveGlass", "now", "LLoveGlass$Run;", true)
  | 4 => ("LoveGlass", "trial", "LLoveGlass$Run;", true)
  | 5 => ("LoveGlass", "acts", "LLoveGlass$Acts;", true)
  | 6 => ("LoveGlass", "timings", "LLoveGlass$Timings;", true)
  | 7 => ("LoveGlass", "plans", "LLoveGlass$Plans;", true)
  | 8 => ("LoveGlass", "kept", "LLoveGlass$Shelf;", true)
  | 9 => ("LoveGlass", "keptSlots", "I", false)
  | 10 => ("LoveGlass", "theSeed", "J", false)
  | _ => ("LoveGlass", "chances", "[I", true)
def zt_R8 : String := "LoveGlassModel"
def zt_T8 : u_T := fun k => match k with
  | 0 => ("LoveGlassModel", "thrown", "I", false)
  | 1 => ("LoveGlassModel", "text", "[I", true)
  | 2 => ("LoveGlassModel", "textSize", "I", false)
  | 3 => ("LoveGlassModel", "place", "I", false)
  | 4 => ("LoveGlassModel", "glasses", "I", false)
  | 5 => ("LoveGlassModel", "glass", "[I", true)
  | 6 => ("LoveGlassModel", "suitors", "I", false)
  | 7 => ("LoveGlassModel", "suitor", "[I", true)
  | 8 => ("LoveGlassModel", "sayings", "I", false)
  | 9 => ("LoveGlassModel", "saying", "[I", true)
  | 10 => ("LoveGlassModel", "readGlasses", "I", false)
  | 11 => ("LoveGlassModel", "readGlass", "[I", true)
  | 12 => ("LoveGlassModel", "readSuitors", "I", false)
  | 13 => ("LoveGlassModel", "readSuitor", "[I", true)
  | 14 => ("LoveGlassModel", "readSayings", "I", false)
  | 15 => ("LoveGlassModel", "readSaying", "[I", true)
  | 16 => ("LoveGlassModel", "page", "[I", true)
  | 17 => ("LoveGlassModel", "trial", "[I", true)
  | 18 => ("LoveGlassModel", "book", "[I", true)
  | 19 => ("LoveGlassModel", "acts", "I", false)
  | 20 => ("LoveGlassModel", "kept", "[I", true)
  | 21 => ("LoveGlassModel", "isKept", "[Z", true)
  | 22 => ("LoveGlassModel", "timed", "I", false)
  | 23 => ("LoveGlassModel", "timedSaying", "[I", true)
  | 24 => ("LoveGlassModel", "timedPlace", "[I", true)
  | 25 => ("LoveGlassModel", "timedPace", "[I", true)
  | 26 => ("LoveGlassModel", "timedGrains", "[I", true)
  | 27 => ("LoveGlassModel", "seed", "J", false)
  | 28 => ("LoveGlassModel", "choice", "[I", true)
  | 29 => ("LoveGlassModel", "spent", "[I", true)
  | 30 => ("LoveGlassModel", "bestWarmth", "I", false)
  | 31 => ("LoveGlassModel", "bestWarmGrains", "I", false)
  | 32 => ("LoveGlassModel", "bestWarmRow", "I", false)
  | 33 => ("LoveGlassModel", "bestGrains", "I", false)
  | 34 => ("LoveGlassModel", "bestGrainsRow", "I", false)
  | 35 => ("LoveGlassModel", "matchMany", "I", false)
  | 36 => ("LoveGlassModel", "matchWay", "I", false)
  | 37 => ("LoveGlassModel", "restMany", "I", false)
  | 38 => ("LoveGlassModel", "restFirst", "I", false)
  | 39 => ("LoveGlassModel", "gains", "[I", true)
  | _ => ("LoveGlassModel", "value", "[I", true)
def zt_Y0 : Nat → FieldType := fun k => match k with
  | 0 => .object "LoveGlass$Shelf"
  | 1 => .int
  | _ => .int
theorem zt_N0 : ∀ a, a < 3 → ∀ b, b < 3 → a ≠ b → (zt_T0 a).2.1 ≠ (zt_T0 b).2.1 := by decide +kernel
theorem zt_P0 : ∀ k, k < 3 → parseFieldDescriptor (zt_T0 k).2.2.1 = some (zt_Y0 k) := by decide +kernel
def zt_Y1 : Nat → FieldType := fun k => match k with
  | 0 => .array .int
  | 1 => .array .int
  | 2 => .array .int
  | 3 => .int
  | 4 => .int
  | _ => .int
theorem zt_N1 : ∀ a, a < 6 → ∀ b, b < 6 → a ≠ b → (zt_T1 a).2.1 ≠ (zt_T1 b).2.1 := by decide +kernel
theorem zt_P1 : ∀ k, k < 6 → parseFieldDescriptor (zt_T1 k).2.2.1 = some (zt_Y1 k) := by decide +kernel
def zt_Y2 : Nat → FieldType := fun k => match k with
  | 0 => .object "LoveGlass$Row"
  | 1 => .object "LoveGlass$Row"
  | 2 => .object "LoveGlass$Row"
  | 3 => .object "LoveGlass$Row"
  | 4 => .object "LoveGlass$Row"
  | 5 => .object "LoveGlass$Row"
  | _ => .object "LoveGlass$Row"
theorem zt_N2 : ∀ a, a < 7 → ∀ b, b < 7 → a ≠ b → (zt_T2 a).2.1 ≠ (zt_T2 b).2.1 := by decide +kernel
theorem zt_P2 : ∀ k, k < 7 → parseFieldDescriptor (zt_T2 k).2.2.1 = some (zt_Y2 k) := by decide +kernel
def zt_Y3 : Nat → FieldType := fun k => match k with
  | 0 => .array .int
  | 1 => .int
  | 2 => .int
  | _ => .int
theorem zt_N3 : ∀ a, a < 4 → ∀ b, b < 4 → a ≠ b → (zt_T3 a).2.1 ≠ (zt_T3 b).2.1 := by decide +kernel
theorem zt_P3 : ∀ k, k < 4 → parseFieldDescriptor (zt_T3 k).2.2.1 = some (zt_Y3 k) := by decide +kernel
def zt_Y4 : Nat → FieldType := fun k => match k with
  | 0 => .int
  | 1 => .int
  | 2 => .int
  | _ => .object "LoveGlass$Row"
theorem zt_N4 : ∀ a, a < 4 → ∀ b, b < 4 → a ≠ b → (zt_T4 a).2.1 ≠ (zt_T4 b).2.1 := by decide +kernel
theorem zt_P4 : ∀ k, k < 4 → parseFieldDescriptor (zt_T4 k).2.2.1 = some (zt_Y4 k) := by decide +kernel
def zt_Y5 : Nat → FieldType := fun k => match k with
  | _ => .array (.object "LoveGlass$Run")
theorem zt_N5 : ∀ a, a < 1 → ∀ b, b < 1 → a ≠ b → (zt_T5 a).2.1 ≠ (zt_T5 b).2.1 := by decide +kernel
theorem zt_P5 : ∀ k, k < 1 → parseFieldDescriptor (zt_T5 k).2.2.1 = some (zt_Y5 k) := by decide +kernel
def zt_Y6 : Nat → FieldType := fun k => match k with
  | 0 => .object "LoveGlass$Row"
  | 1 => .object "LoveGlass$Row"
  | 2 => .object "LoveGlass$Row"
  | _ => .object "LoveGlass$Row"
theorem zt_N6 : ∀ a, a < 4 → ∀ b, b < 4 → a ≠ b → (zt_T6 a).2.1 ≠ (zt_T6 b).2.1 := by decide +kernel
theorem zt_P6 : ∀ k, k < 4 → parseFieldDescriptor (zt_T6 k).2.2.1 = some (zt_Y6 k) := by decide +kernel
def zt_Y7 : Nat → FieldType := fun k => match k with
  | 0 => .object "LoveGlass$Row"
  | 1 => .object "LoveGlass$Port"
  | 2 => .object "LoveGlass$Port"
  | 3 => .object "LoveGlass$Run"
  | 4 => .object "LoveGlass$Run"
  | 5 => .object "LoveGlass$Acts"
  | 6 => .object "LoveGlass$Timings"
  | 7 => .object "LoveGlass$Plans"
  | 8 => .object "LoveGlass$Shelf"
  | 9 => .int
  | 10 => .long
  | _ => .array .int
theorem zt_N7 : ∀ a, a < 12 → ∀ b, b < 12 → a ≠ b → (zt_T7 a).2.1 ≠ (zt_T7 b).2.1 := by decide +kernel
theorem zt_P7 : ∀ k, k < 12 → parseFieldDescriptor (zt_T7 k).2.2.1 = some (zt_Y7 k) := by decide +kernel
def zt_Y8 : Nat → FieldType := fun k => match k with
  | 0 => .int
  | 1 => .array .int
  | 2 => .int
  | 3 => .int
  | 4 => .int
  | 5 => .array .int
  | 6 => .int
  | 7 => .array .int
  | 8 => .int
  | 9 => .array .int
  | 10 => .int
  | 11 => .array .int
  | 12 => .int
  | 13 => .array .int
  | 14 => .int
  | 15 => .array .int
  | 16 => .array .int
  | 17 => .array .int
  | 18 => .array .int
  | 19 => .int
  | 20 => .array .int
  | 21 => .array .boolean
  | 22 => .int
  | 23 => .array .int
  | 24 => .array .int
  | 25 => .array .int
  | 26 => .array .int
  | 27 => .long
  | 28 => .array .int
  | 29 => .array .int
  | 30 => .int
  | 31 => .int
  | 32 => .int
  | 33 => .int
  | 34 => .int
  | 35 => .int
  | 36 => .int
  | 37 => .int
  | 38 => .int
  | 39 => .array .int
  | _ => .array .int
theorem zt_N8 : ∀ a, a < 41 → ∀ b, b < 41 → a ≠ b → (zt_T8 a).2.1 ≠ (zt_T8 b).2.1 := by decide +kernel
theorem zt_P8 : ∀ k, k < 41 → parseFieldDescriptor (zt_T8 k).2.2.1 = some (zt_Y8 k) := by decide +kernel
def zt_cl : List vw_C := [(zt_R0, zt_T0, 3), (zt_R1, zt_T1, 6), (zt_R2, zt_T2, 7), (zt_R3, zt_T3, 4), (zt_R4, zt_T4, 4), (zt_R5, zt_T5, 1), (zt_R6, zt_T6, 4), (zt_R7, zt_T7, 12), (zt_R8, zt_T8, 41)]
def zt_n : List Nat := [3, 6, 7, 4, 4, 1, 4, 12, 41]
def zt_df : List (List Value) := [[.null, .int 0, .int 0], [.null, .null, .null, .int 0, .int 0, .int 0], [.null, .null, .null, .null, .null, .null, .null], [.null, .int 0, .int 0, .int 0], [.int 0, .int 0, .int 0, .null], [.null], [.null, .null, .null, .null], [.null, .null, .null, .null, .null, .null, .null, .null, .null, .int 0, .long 0, .null], [.int 0, .null, .int 0, .int 0, .int 0, .null, .int 0, .null, .int 0, .null, .int 0, .null, .int 0, .null, .int 0, .null, .null, .null, .null, .int 0, .null, .null, .int 0, .null, .null, .null, .null, .long 0, .null, .null, .int 0, .int 0, .int 0, .int 0, .int 0, .int 0, .int 0, .int 0, .int 0, .null, .null]]
def zt_ci : List (Nat × Nat) := [(1113, 1006), (1164, 1009), (1045, 1004), (1022, 1002), (1085, 1005), (1119, 1007), (1143, 1008), (1014, 1001), (3237, 1010)]
def zt_ys : List MethodName := [⟨"LoveGlass$Acts", "<init>", "()V"⟩,
  ⟨"LoveGlass$Acts", "size", "()I"⟩,
  ⟨"LoveGlass$Acts", "clear", "()V"⟩,
  ⟨"LoveGlass$Acts", "remember", "(LLoveGlass$Run;)V"⟩,
  ⟨"LoveGlass$Acts", "takeBack", "(LLoveGlass$Run;)Z"⟩,
  ⟨"LoveGlass$Plans", "<init>", "()V"⟩,
  ⟨"LoveGlass$Plans", "placeOf", "(II)I"⟩,
  ⟨"LoveGlass$Plans", "layBehind", "(LLoveGlass$Port;LLoveGlass$Run;)V"⟩,
  ⟨"LoveGlass$Plans", "extend", "(LLoveGlass$Port;LLoveGlass$Run;II)V"⟩,
  ⟨"LoveGlass$Plans", "offer", "(III)V"⟩,
  ⟨"LoveGlass$Plans", "seekWarmest", "(LLoveGlass$Port;)Z"⟩,
  ⟨"LoveGlass$Plans", "seekShortest", "()Z"⟩,
  ⟨"LoveGlass$Plans", "reaches", "(I)Z"⟩,
  ⟨"LoveGlass$Plans", "isShorter", "(I)Z"⟩,
  ⟨"LoveGlass$Plans", "choose", "(I)V"⟩,
  ⟨"LoveGlass$Plans", "weighSets", "(LLoveGlass$Port;)V"⟩,
  ⟨"LoveGlass$Plans", "gainOf", "(II)I"⟩,
  ⟨"LoveGlass$Port", "<init>", "()V"⟩,
  ⟨"LoveGlass$Port", "readFrom", "(LLoveGlass$Row;)I"⟩,
  ⟨"LoveGlass$Port", "rowOf", "(II)LLoveGlass$Row;"⟩,
  ⟨"LoveGlass$Port", "clear", "()V"⟩,
  ⟨"LoveGlass$Port", "glasses", "()I"⟩,
  ⟨"LoveGlass$Port", "suitors", "()I"⟩,
  ⟨"LoveGlass$Port", "sayings", "()I"⟩,
  ⟨"LoveGlass$Port", "hasGlass", "(I)Z"⟩,
  ⟨"LoveGlass$Port", "hasSuitor", "(I)Z"⟩,
  ⟨"LoveGlass$Port", "hasSaying", "(I)Z"⟩,
  ⟨"LoveGlass$Port", "grains", "(I)I"⟩,
  ⟨"LoveGlass$Port", "cost", "(IIII)I"⟩,
  ⟨"LoveGlass$Port", "costBy", "(IIIII)I"⟩,
  ⟨"LoveGlass$Port", "warmthOf", "(I)I"⟩,
  ⟨"LoveGlass$Row", "<init>", "(III)V"⟩,
  ⟨"LoveGlass$Row", "size", "()I"⟩,
  ⟨"LoveGlass$Row", "isFull", "()Z"⟩,
  ⟨"LoveGlass$Row", "fits", "(I)Z"⟩,
  ⟨"LoveGlass$Row", "has", "(I)Z"⟩,
  ⟨"LoveGlass$Row", "at", "(I)I"⟩,
  ⟨"LoveGlass$Row", "put", "(I)V"⟩,
  ⟨"LoveGlass$Row", "clear", "()V"⟩,
  ⟨"LoveGlass$Row", "copyFrom", "(LLoveGlass$Row;)V"⟩,
  ⟨"LoveGlass$Run", "<init>", "()V"⟩,
  ⟨"LoveGlass$Run", "stop", "()V"⟩,
  ⟨"LoveGlass$Run", "start", "(LLoveGlass$Port;II)V"⟩,
  ⟨"LoveGlass$Run", "copyFrom", "(LLoveGlass$Run;)V"⟩,
  ⟨"LoveGlass$Run", "runs", "()Z"⟩,
  ⟨"LoveGlass$Run", "size", "()I"⟩,
  ⟨"LoveGlass$Run", "spoken", "()I"⟩,
  ⟨"LoveGlass$Run", "hasSpoken", "(I)Z"⟩,
  ⟨"LoveGlass$Run", "stage", "(LLoveGlass$Port;)I"⟩,
  ⟨"LoveGlass$Run", "declares", "(LLoveGlass$Port;)Z"⟩,
  ⟨"LoveGlass$Run", "cost", "(LLoveGlass$Port;I)I"⟩,
  ⟨"LoveGlass$Run", "speak", "(LLoveGlass$Port;I)Z"⟩,
  ⟨"LoveGlass$Run", "rest", "(LLoveGlass$Port;)Z"⟩,
  ⟨"LoveGlass$Run", "lose", "(I)Z"⟩,
  ⟨"LoveGlass$Shelf", "<init>", "(I)V"⟩,
  ⟨"LoveGlass$Shelf", "at", "(I)LLoveGlass$Run;"⟩,
  ⟨"LoveGlass$Shelf", "layDown", "(ILLoveGlass$Run;)V"⟩,
  ⟨"LoveGlass$Shelf", "fetch", "(ILLoveGlass$Run;)V"⟩,
  ⟨"LoveGlass$Timings", "<init>", "()V"⟩,
  ⟨"LoveGlass$Timings", "size", "()I"⟩,
  ⟨"LoveGlass$Timings", "isFull", "()Z"⟩,
  ⟨"LoveGlass$Timings", "clear", "()V"⟩,
  ⟨"LoveGlass$Timings", "fits", "(III)Z"⟩,
  ⟨"LoveGlass$Timings", "put", "(IIII)V"⟩,
  ⟨"LoveGlass$Timings", "areThoseOf", "(LLoveGlass$Port;I)Z"⟩,
  ⟨"LoveGlass", "<init>", "()V"⟩,
  ⟨"LoveGlass", "write", "(I)I"⟩,
  ⟨"LoveGlass", "wipe", "()I"⟩,
  ⟨"LoveGlass", "fault", "()I"⟩,
  ⟨"LoveGlass", "port", "()I"⟩,
  ⟨"LoveGlass", "about", "(I)I"⟩,
  ⟨"LoveGlass", "aboutRun", "(I)I"⟩,
  ⟨"LoveGlass", "glass", "(II)I"⟩,
  ⟨"LoveGlass", "suitor", "(II)I"⟩,
  ⟨"LoveGlass", "saying", "(II)I"⟩,
  ⟨"LoveGlass", "said", "(I)I"⟩,
  ⟨"LoveGlass", "takes", "(IIII)I"⟩,
  ⟨"LoveGlass", "turn", "(II)I"⟩,
  ⟨"LoveGlass", "say", "(I)I"⟩,
  ⟨"LoveGlass", "pause", "()I"⟩,
  ⟨"LoveGlass", "draw", "(I)I"⟩,
  ⟨"LoveGlass", "actTried", "(Z)I"⟩,
  ⟨"LoveGlass", "undo", "()I"⟩,
  ⟨"LoveGlass", "warmest", "(Z)I"⟩,
  ⟨"LoveGlass", "shortest", "(Z)I"⟩,
  ⟨"LoveGlass", "can", "(I)I"⟩,
  ⟨"LoveGlass", "canDeclare", "(II)Z"⟩,
  ⟨"LoveGlass", "does", "(I)I"⟩,
  ⟨"LoveGlass", "matched", "(Z)I"⟩,
  ⟨"LoveGlass", "pairBit", "(II)I"⟩,
  ⟨"LoveGlass", "matchesIn", "(III)I"⟩,
  ⟨"LoveGlass", "figuresOf", "(II)I"⟩,
  ⟨"LoveGlass", "figureAt", "(III)I"⟩,
  ⟨"LoveGlass", "judge", "(II)I"⟩,
  ⟨"LoveGlass", "hundreds", "(I)I"⟩,
  ⟨"LoveGlass", "canDo", "(II)Z"⟩,
  ⟨"LoveGlass", "share", "(IZ)I"⟩,
  ⟨"LoveGlass", "orders", "(I)I"⟩,
  ⟨"LoveGlass", "fraction", "(IIZ)I"⟩,
  ⟨"LoveGlass", "commonDivisor", "(II)I"⟩,
  ⟨"LoveGlass", "time", "(IIII)I"⟩,
  ⟨"LoveGlass", "untime", "()I"⟩,
  ⟨"LoveGlass", "kinds", "()I"⟩,
  ⟨"LoveGlass", "rests", "(III)I"⟩,
  ⟨"LoveGlass", "warmestAfresh", "(II)I"⟩,
  ⟨"LoveGlass", "isContent", "(IIII)Z"⟩,
  ⟨"LoveGlass", "gain", "(IIII)I"⟩,
  ⟨"LoveGlass", "misheard", "(IZ)I"⟩,
  ⟨"LoveGlass", "hear", "(II)V"⟩,
  ⟨"LoveGlass", "seed", "(J)J"⟩,
  ⟨"LoveGlass", "weeks", "(I)I"⟩,
  ⟨"LoveGlass", "speaksInWeek", "(I)Z"⟩,
  ⟨"LoveGlass", "keep", "(I)I"⟩,
  ⟨"LoveGlass", "again", "(I)I"⟩,
  ⟨"LoveGlass", "isIn", "(II)Z"⟩,
  ⟨"LoveGlass", "stageBehind", "(II)I"⟩,
  ⟨"LoveGlassModel", "<init>", "()V"⟩,
  ⟨"LoveGlassModel", "in", "(JJJ)Z"⟩,
  ⟨"LoveGlassModel", "has", "(II)Z"⟩,
  ⟨"LoveGlassModel", "many", "(I)I"⟩,
  ⟨"LoveGlassModel", "power", "(II)I"⟩,
  ⟨"LoveGlassModel", "noGlass", "(I)Z"⟩,
  ⟨"LoveGlassModel", "noSuitor", "(I)Z"⟩,
  ⟨"LoveGlassModel", "noSaying", "(I)Z"⟩,
  ⟨"LoveGlassModel", "write", "(I)I"⟩,
  ⟨"LoveGlassModel", "wipe", "()I"⟩,
  ⟨"LoveGlassModel", "figure", "(II)I"⟩,
  ⟨"LoveGlassModel", "readOneGlass", "()Z"⟩,
  ⟨"LoveGlassModel", "readOneSuitor", "()Z"⟩,
  ⟨"LoveGlassModel", "readOneSaying", "()Z"⟩,
  ⟨"LoveGlassModel", "readPart", "()Z"⟩,
  ⟨"LoveGlassModel", "readPort", "()I"⟩,
  ⟨"LoveGlassModel", "fault", "()I"⟩,
  ⟨"LoveGlassModel", "copyRow", "([I[II)V"⟩,
  ⟨"LoveGlassModel", "port", "()I"⟩,
  ⟨"LoveGlassModel", "grainsOf", "(I)I"⟩,
  ⟨"LoveGlassModel", "takesBy", "(IIII)I"⟩,
  ⟨"LoveGlassModel", "takesOf", "(IIII)I"⟩,
  ⟨"LoveGlassModel", "saidSet", "([I)I"⟩,
  ⟨"LoveGlassModel", "warmthOf", "([I)I"⟩,
  ⟨"LoveGlassModel", "declares", "([II)Z"⟩,
  ⟨"LoveGlassModel", "about", "(I)I"⟩,
  ⟨"LoveGlassModel", "glass", "(II)I"⟩,
  ⟨"LoveGlassModel", "suitor", "(II)I"⟩,
  ⟨"LoveGlassModel", "takesNow", "([II)I"⟩,
  ⟨"LoveGlassModel", "saying", "(II)I"⟩,
  ⟨"LoveGlassModel", "said", "(I)I"⟩,
  ⟨"LoveGlassModel", "takes", "(IIII)I"⟩,
  ⟨"LoveGlassModel", "note", "()V"⟩,
  ⟨"LoveGlassModel", "run", "([III)V"⟩,
  ⟨"LoveGlassModel", "turn", "(II)I"⟩,
  ⟨"LoveGlassModel", "canSay", "([II)Z"⟩,
  ⟨"LoveGlassModel", "goSay", "([II)V"⟩,
  ⟨"LoveGlassModel", "say", "(I)I"⟩,
  ⟨"LoveGlassModel", "pauseOf", "([I)I"⟩,
  ⟨"LoveGlassModel", "pause", "()I"⟩,
  ⟨"LoveGlassModel", "canDraw", "([I)Z"⟩,
  ⟨"LoveGlassModel", "goDraw", "([II)V"⟩,
  ⟨"LoveGlassModel", "draw", "(I)I"⟩,
  ⟨"LoveGlassModel", "undo", "()I"⟩,
  ⟨"LoveGlassModel", "begin", "()V"⟩,
  ⟨"LoveGlassModel", "lookAt", "(II)V"⟩,
  ⟨"LoveGlassModel", "search", "(I)V"⟩,
  ⟨"LoveGlassModel", "searchNow", "()V"⟩,
  ⟨"LoveGlassModel", "warmest", "(Z)I"⟩,
  ⟨"LoveGlassModel", "shortest", "(Z)I"⟩,
  ⟨"LoveGlassModel", "canIn", "(II)Z"⟩,
  ⟨"LoveGlassModel", "can", "(I)I"⟩,
  ⟨"LoveGlassModel", "does", "(I)I"⟩,
  ⟨"LoveGlassModel", "findMatch", "()V"⟩,
  ⟨"LoveGlassModel", "matched", "(Z)I"⟩,
  ⟨"LoveGlassModel", "isDone", "(II)Z"⟩,
  ⟨"LoveGlassModel", "judge", "(II)I"⟩,
  ⟨"LoveGlassModel", "ways", "(I)I"⟩,
  ⟨"LoveGlassModel", "divisor", "(II)I"⟩,
  ⟨"LoveGlassModel", "fraction", "(IIZ)I"⟩,
  ⟨"LoveGlassModel", "warmthBy", "(IIII)I"⟩,
  ⟨"LoveGlassModel", "share", "(IZ)I"⟩,
  ⟨"LoveGlassModel", "time", "(IIII)I"⟩,
  ⟨"LoveGlassModel", "untime", "()I"⟩,
  ⟨"LoveGlassModel", "kinds", "()I"⟩,
  ⟨"LoveGlassModel", "layGains", "(II)V"⟩,
  ⟨"LoveGlassModel", "rests", "(III)I"⟩,
  ⟨"LoveGlassModel", "misheard", "(IZ)I"⟩,
  ⟨"LoveGlassModel", "seed", "(J)J"⟩,
  ⟨"LoveGlassModel", "weeks", "(I)I"⟩,
  ⟨"LoveGlassModel", "keep", "(I)I"⟩,
  ⟨"LoveGlassModel", "again", "(I)I"⟩,
  ⟨"java/lang/Integer", "bitCount", "(I)I"⟩,
  ⟨"java/util/Arrays", "fill", "([II)V"⟩,
  ⟨"LoveGlassLaw", "law", "([I)Z"⟩]
def zt_bs : List ByteArray := [prog_2_method_1_code, prog_2_method_2_code, prog_2_method_3_code, prog_2_method_4_code, prog_2_method_5_code, prog_3_method_1_code, prog_3_method_2_code, prog_3_method_3_code, prog_3_method_4_code, prog_3_method_5_code, prog_3_method_6_code, prog_3_method_7_code, prog_3_method_8_code, prog_3_method_9_code, prog_3_method_10_code, prog_3_method_11_code, prog_3_method_12_code, prog_4_method_1_code, prog_4_method_2_code, prog_4_method_3_code, prog_4_method_4_code, prog_4_method_5_code, prog_4_method_6_code, prog_4_method_7_code, prog_4_method_8_code, prog_4_method_9_code, prog_4_method_10_code, prog_4_method_11_code, prog_4_method_12_code, prog_4_method_13_code, prog_4_method_14_code, prog_5_method_1_code, prog_5_method_2_code, prog_5_method_3_code, prog_5_method_4_code, prog_5_method_5_code, prog_5_method_6_code, prog_5_method_7_code, prog_5_method_8_code, prog_5_method_9_code, prog_6_method_1_code, prog_6_method_2_code, prog_6_method_3_code, prog_6_method_4_code, prog_6_method_5_code, prog_6_method_6_code, prog_6_method_7_code, prog_6_method_8_code, prog_6_method_9_code, prog_6_method_10_code, prog_6_method_11_code, prog_6_method_12_code, prog_6_method_13_code, prog_6_method_14_code, prog_7_method_1_code, prog_7_method_2_code, prog_7_method_3_code, prog_7_method_4_code, prog_8_method_1_code, prog_8_method_2_code, prog_8_method_3_code, prog_8_method_4_code, prog_8_method_5_code, prog_8_method_6_code, prog_8_method_7_code, prog_1_method_1_code, prog_1_method_2_code, prog_1_method_3_code, prog_1_method_4_code, prog_1_method_5_code, prog_1_method_6_code, prog_1_method_7_code, prog_1_method_8_code, prog_1_method_9_code, prog_1_method_10_code, prog_1_method_11_code, prog_1_method_12_code, prog_1_method_13_code, prog_1_method_14_code, prog_1_method_15_code, prog_1_method_16_code, prog_1_method_17_code, prog_1_method_18_code, prog_1_method_19_code, prog_1_method_20_code, prog_1_method_21_code, prog_1_method_22_code, prog_1_method_23_code, prog_1_method_24_code, prog_1_method_25_code, prog_1_method_26_code, prog_1_method_27_code, prog_1_method_28_code, prog_1_method_29_code, prog_1_method_30_code, prog_1_method_31_code, prog_1_method_32_code, prog_1_method_33_code, prog_1_method_34_code, prog_1_method_35_code, prog_1_method_36_code, prog_1_method_37_code, prog_1_method_38_code, prog_1_method_39_code, prog_1_method_40_code, prog_1_method_41_code, prog_1_method_42_code, prog_1_method_43_code, prog_1_method_44_code, prog_1_method_45_code, prog_1_method_46_code, prog_1_method_47_code, prog_1_method_48_code, prog_1_method_49_code, prog_1_method_50_code, prog_1_method_51_code, prog_10_method_1_code, prog_10_method_3_code, prog_10_method_4_code, prog_10_method_5_code, prog_10_method_6_code, prog_10_method_7_code, prog_10_method_8_code, prog_10_method_9_code, prog_10_method_10_code, prog_10_method_11_code, prog_10_method_12_code, prog_10_method_13_code, prog_10_method_14_code, prog_10_method_15_code, prog_10_method_16_code, prog_10_method_17_code, prog_10_method_18_code, prog_10_method_19_code, prog_10_method_20_code, prog_10_method_21_code, prog_10_method_22_code, prog_10_method_23_code, prog_10_method_24_code, prog_10_method_25_code, prog_10_method_26_code, prog_10_method_27_code, prog_10_method_28_code, prog_10_method_29_code, prog_10_method_30_code, prog_10_method_31_code, prog_10_method_32_code, prog_10_method_33_code, prog_10_method_34_code, prog_10_method_35_code, prog_10_method_36_code, prog_10_method_37_code, prog_10_method_38_code, prog_10_method_39_code, prog_10_method_40_code, prog_10_method_41_code, prog_10_method_42_code, prog_10_method_43_code, prog_10_method_44_code, prog_10_method_45_code, prog_10_method_46_code, prog_10_method_47_code, prog_10_method_48_code, prog_10_method_49_code, prog_10_method_50_code, prog_10_method_51_code, prog_10_method_52_code, prog_10_method_53_code, prog_10_method_54_code, prog_10_method_55_code, prog_10_method_56_code, prog_10_method_57_code, prog_10_method_58_code, prog_10_method_59_code, prog_10_method_60_code, prog_10_method_61_code, prog_10_method_62_code, prog_10_method_63_code, prog_10_method_64_code, prog_10_method_65_code, prog_10_method_66_code, prog_10_method_67_code, prog_10_method_68_code, prog_10_method_69_code, prog_10_method_70_code, prog_10_method_71_code, prog_10_method_72_code, prog_10_method_73_code, prog_11_method_49_code, prog_13_method_103_code, code]
def zt_ml : List Nat := [1, 1, 1, 2, 2, 1, 2, 5, 11, 4, 5, 3, 3, 3, 3, 5, 4, 1, 7, 3, 1, 1, 1, 1, 2, 2, 2, 3, 5, 7, 4, 4, 1, 1, 2, 2, 2, 2, 1, 3, 1, 1, 4, 2, 1, 1, 3, 2, 4, 2, 3, 3, 3, 2, 3, 2, 4, 4, 1, 1, 1, 1, 4, 5, 5, 1, 2, 2, 1, 2, 2, 2, 3, 3, 3, 2, 5, 3, 2, 1, 2, 2, 1, 2, 2, 4, 3, 5, 8, 2, 9, 6, 3, 5, 3, 3, 7, 3, 4, 6, 5, 2, 3, 12, 3, 4, 4, 5, 6, 5, 4, 4, 2, 2, 2, 2, 1, 6, 2, 3, 4, 2, 2, 2, 2, 2, 3, 3, 3, 4, 2, 1, 1, 4, 2, 3, 6, 5, 3, 4, 5, 2, 3, 3, 3, 3, 2, 5, 2, 5, 3, 3, 3, 2, 3, 2, 1, 2, 2, 2, 1, 5, 6, 1, 2, 2, 3, 4, 5, 9, 2, 4, 5, 3, 5, 4, 5, 6, 5, 2, 5, 7, 6, 7, 5, 5, 3, 3, 1, 4, 4]
def zt_rt : List (Option FieldType) := [none, some Jvm.ClassFile.FieldType.int, none, none, some Jvm.ClassFile.FieldType.boolean, none, some Jvm.ClassFile.FieldType.int, none, none, none, some Jvm.ClassFile.FieldType.boolean, some Jvm.ClassFile.FieldType.boolean, some Jvm.ClassFile.FieldType.boolean, some Jvm.ClassFile.FieldType.boolean, none, none, some Jvm.ClassFile.FieldType.int, none, some Jvm.ClassFile.FieldType.int, some (Jvm.ClassFile.FieldType.object "LoveGlass$Row"), none, some Jvm.ClassFile.FieldType.int, some Jvm.ClassFile.FieldType.int, some Jvm.ClassFile.FieldType.int, some Jvm.ClassFile.FieldType.boolean, some Jvm.ClassFile.FieldType.boolean, some Jvm.ClassFile.FieldType.boolean, some Jvm.ClassFile.FieldType.int, some Jvm.ClassFile.FieldType.int, some Jvm.ClassFile.FieldType.int, some Jvm.ClassFile.FieldType.int, none, some Jvm.ClassFile.FieldType.int, some Jvm.ClassFile.FieldType.boolean, some Jvm.ClassFile.FieldType.boolean, some Jvm.ClassFile.FieldType.boolean, some Jvm.ClassFile.FieldType.int, none, none, none, none, none, none, none, some Jvm.ClassFile.FieldType.boolean, some Jvm.ClassFile.FieldType.int, some Jvm.ClassFile.FieldType.int, some Jvm.ClassFile.FieldType.boolean, some Jvm.ClassFile.FieldType.int, some Jvm.ClassFile.FieldType.boolean, some Jvm.ClassFile.FieldType.int, some Jvm.ClassFile.FieldType.boolean, some Jvm.ClassFile.FieldType.boolean, some Jvm.ClassFile.FieldType.boolean, none, some (Jvm.ClassFile.FieldType.object "LoveGlass$Run"), none, none, none, some Jvm.ClassFile.FieldType.int, some Jvm.ClassFile.FieldType.boolean, none, some Jvm.ClassFile.FieldType.boolean, none, some Jvm.ClassFile.FieldType.boolean, none, some Jvm.ClassFile.FieldType.int, some Jvm.ClassFile.FieldType.int, some Jvm.ClassFile.FieldType.int, some Jvm.ClassFile.FieldType.int, some Jvm.ClassFile.FieldType.int, some Jvm.ClassFile.FieldType.int, some Jvm.ClassFile.FieldType.int, some Jvm.ClassFile.FieldType.int, some Jvm.ClassFile.FieldType.int, some Jvm.ClassFile.FieldType.int, some Jvm.ClassFile.FieldType.int, some Jvm.ClassFile.FieldType.int, some Jvm.ClassFile.FieldType.int, some Jvm.ClassFile.FieldType.int, some Jvm.ClassFile.FieldType.int, some Jvm.ClassFile.FieldType.int, some Jvm.ClassFile.FieldType.int, some Jvm.ClassFile.FieldType.int, some Jvm.ClassFile.FieldType.int, some Jvm.ClassFile.FieldType.int, some Jvm.ClassFile.FieldType.boolean, some Jvm.ClassFile.FieldType.int, some Jvm.ClassFile.FieldType.int, some Jvm.ClassFile.FieldType.int, some Jvm.ClassFile.FieldType.int, some Jvm.ClassFile.FieldType.int, some Jvm.ClassFile.FieldType.int, some Jvm.ClassFile.FieldType.int, some Jvm.ClassFile.FieldType.int, some Jvm.ClassFile.FieldType.boolean, some Jvm.ClassFile.FieldType.int, some Jvm.ClassFile.FieldType.int, some Jvm.ClassFile.FieldType.int, some Jvm.ClassFile.FieldType.int, some Jvm.ClassFile.FieldType.int, some Jvm.ClassFile.FieldType.int, some Jvm.ClassFile.FieldType.int, some Jvm.ClassFile.FieldType.int, some Jvm.ClassFile.FieldType.int, some Jvm.ClassFile.FieldType.boolean, some Jvm.ClassFile.FieldType.int, some Jvm.ClassFile.FieldType.int, none, some Jvm.ClassFile.FieldType.long, some Jvm.ClassFile.FieldType.int, some Jvm.ClassFile.FieldType.boolean, some Jvm.ClassFile.FieldType.int, some Jvm.ClassFile.FieldType.int, some Jvm.ClassFile.FieldType.boolean, some Jvm.ClassFile.FieldType.int, none, some Jvm.ClassFile.FieldType.boolean, some Jvm.ClassFile.FieldType.boolean, some Jvm.ClassFile.FieldType.int, some Jvm.ClassFile.FieldType.int, some Jvm.ClassFile.FieldType.boolean, some Jvm.ClassFile.FieldType.boolean, some Jvm.ClassFile.FieldType.boolean, some Jvm.ClassFile.FieldType.int, some Jvm.ClassFile.FieldType.int, some Jvm.ClassFile.FieldType.int, some Jvm.ClassFile.FieldType.boolean, some Jvm.ClassFile.FieldType.boolean, some Jvm.ClassFile.FieldType.boolean, some Jvm.ClassFile.FieldType.boolean, some Jvm.ClassFile.FieldType.int, some Jvm.ClassFile.FieldType.int, none, some Jvm.ClassFile.FieldType.int, some Jvm.ClassFile.FieldType.int, some Jvm.ClassFile.FieldType.int, some Jvm.ClassFile.FieldType.int, some Jvm.ClassFile.FieldType.int, some Jvm.ClassFile.FieldType.int, some Jvm.ClassFile.FieldType.boolean, some Jvm.ClassFile.FieldType.int, some Jvm.ClassFile.FieldType.int, some Jvm.ClassFile.FieldType.int, some Jvm.ClassFile.FieldType.int, some Jvm.ClassFile.FieldType.int, some Jvm.ClassFile.FieldType.int, some Jvm.ClassFile.FieldType.int, none, none, some Jvm.ClassFile.FieldType.int, some Jvm.ClassFile.FieldType.boolean, none, some Jvm.ClassFile.FieldType.int, some Jvm.ClassFile.FieldType.int, some Jvm.ClassFile.FieldType.int, some Jvm.ClassFile.FieldType.boolean, none, some Jvm.ClassFile.FieldType.int, some Jvm.ClassFile.FieldType.int, none, none, none, none, some Jvm.ClassFile.FieldType.int, some Jvm.ClassFile.FieldType.int, some Jvm.ClassFile.FieldType.boolean, some Jvm.ClassFile.FieldType.int, some Jvm.ClassFile.FieldType.int, none, some Jvm.ClassFile.FieldType.int, some Jvm.ClassFile.FieldType.boolean, some Jvm.ClassFile.FieldType.int, some Jvm.ClassFile.FieldType.int, some Jvm.ClassFile.FieldType.int, some Jvm.ClassFile.FieldType.int, some Jvm.ClassFile.FieldType.int, some Jvm.ClassFile.FieldType.int, some Jvm.ClassFile.FieldType.int, some Jvm.ClassFile.FieldType.int, some Jvm.ClassFile.FieldType.int, none, some Jvm.ClassFile.FieldType.int, some Jvm.ClassFile.FieldType.int, some Jvm.ClassFile.FieldType.long, some Jvm.ClassFile.FieldType.int, some Jvm.ClassFile.FieldType.int, some Jvm.ClassFile.FieldType.int, some Jvm.ClassFile.FieldType.int, none, some Jvm.ClassFile.FieldType.boolean]
/-- what comes back: 0 nothing, 1 an int, 2 a boolean, 3 a long, 4 an object -/
def zt_rk : List Nat := [0, 1, 0, 0, 2, 0, 1, 0, 0, 0, 2, 2, 2, 2, 0, 0, 1, 0, 1, 4, 0, 1, 1, 1, 2, 2, 2, 1, 1, 1, 1, 0, 1, 2, 2, 2, 1, 0, 0, 0, 0, 0, 0, 0, 2, 1, 1, 2, 1, 2, 1, 2, 2, 2, 0, 4, 0, 0, 0, 1, 2, 0, 2, 0, 2, 0, 1, 1, 1, 1, 1, 1, 1, 1, 1, 1, 1, 1, 1, 1, 1, 1, 1, 1, 1, 1, 2, 1, 1, 1, 1, 1, 1, 1, 1, 2, 1, 1, 1, 1, 1, 1, 1, 1, 1, 2, 1, 1, 0, 3, 1, 2, 1, 1, 2, 1, 0, 2, 2, 1, 1, 2, 2, 2, 1, 1, 1, 2, 2, 2, 2, 1, 1, 0, 1, 1, 1, 1, 1, 1, 2, 1, 1, 1, 1, 1, 1, 1, 0, 0, 1, 2, 0, 1, 1, 1, 2, 0, 1, 1, 0, 0, 0, 0, 1, 1, 2, 1, 1, 0, 1, 2, 1, 1, 1, 1, 1, 1, 1, 1, 1, 0, 1, 1, 3, 1, 1, 1, 1, 0, 2]
def zt_np : List Nat := [1, 1, 1, 2, 2, 1, 2, 3, 5, 4, 2, 1, 2, 2, 2, 2, 3, 1, 2, 3, 1, 1, 1, 1, 2, 2, 2, 2, 5, 6, 2, 4, 1, 1, 2, 2, 2, 2, 1, 2, 1, 1, 4, 2, 1, 1, 1, 2, 2, 2, 3, 3, 2, 2, 2, 2, 3, 3, 1, 1, 1, 1, 4, 5, 3, 1, 2, 1, 1, 1, 2, 2, 3, 3, 3, 2, 5, 3, 2, 1, 2, 2, 1, 2, 2, 2, 3, 2, 2, 2, 4, 3, 3, 3, 1, 3, 3, 1, 3, 2, 5, 1, 1, 4, 3, 4, 4, 3, 3, 2, 2, 2, 2, 2, 2, 2, 1, 3, 2, 1, 2, 2, 2, 2, 2, 1, 3, 1, 1, 1, 1, 1, 1, 3, 1, 2, 5, 5, 1, 2, 3, 2, 3, 3, 3, 3, 2, 5, 1, 4, 3, 3, 3, 2, 2, 1, 1, 2, 2, 1, 1, 3, 2, 1, 2, 2, 3, 2, 2, 1, 2, 3, 3, 1, 2, 3, 5, 3, 5, 1, 1, 3, 4, 3, 2, 2, 2, 2, 1, 2, 1]
def zt_st : List Bool := [false, false, false, false, false, false, true, false, false, false, false, false, false, false, false, false, false, false, false, false, false, false, false, false, false, false, false, false, false, false, false, false, false, false, false, false, false, false, false, false, false, false, false, false, false, false, false, false, false, false, false, false, false, false, false, false, false, false, false, false, false, false, false, false, false, false, false, false, false, false, false, false, false, false, false, false, false, false, false, false, false, false, false, false, false, false, false, false, false, true, false, false, true, false, true, false, false, true, true, true, false, false, false, false, false, true, true, false, false, false, false, false, false, false, true, true, false, true, true, true, true, false, false, false, false, false, false, false, false, false, false, false, false, true, false, false, false, false, true, false, false, false, false, false, false, false, false, false, false, false, false, false, false, false, false, false, true, true, false, false, false, false, false, false, false, false, false, false, false, false, false, false, false, true, true, true, false, false, false, false, false, false, false, false, false, false, false, false, true, true, true]
def zt_mc : List Nat := [0, 0, 0, 0, 0, 1, 1, 1, 1, 1, 1, 1, 1, 1, 1, 1, 1, 2, 2, 2, 2, 2, 2, 2, 2, 2, 2, 2, 2, 2, 2, 3, 3, 3, 3, 3, 3, 3, 3, 3, 4, 4, 4, 4, 4, 4, 4, 4, 4, 4, 4, 4, 4, 4, 5, 5, 5, 5, 6, 6, 6, 6, 6, 6, 6, 7, 7, 7, 7, 7, 7, 7, 7, 7, 7, 7, 7, 7, 7, 7, 7, 7, 7, 7, 7, 7, 7, 7, 7, 7, 7, 7, 7, 7, 7, 7, 7, 7, 7, 7, 7, 7, 7, 7, 7, 7, 7, 7, 7, 7, 7, 7, 7, 7, 7, 7, 8, 8, 8, 8, 8, 8, 8, 8, 8, 8, 8, 8, 8, 8, 8, 8, 8, 8, 8, 8, 8, 8, 8, 8, 8, 8, 8, 8, 8, 8, 8, 8, 8, 8, 8, 8, 8, 8, 8, 8, 8, 8, 8, 8, 8, 8, 8, 8, 8, 8, 8, 8, 8, 8, 8, 8, 8, 8, 8, 8, 8, 8, 8, 8, 8, 8, 8, 8, 8, 8, 8, 8, 100, 100, 100]
def zt_fr : List Nat := [4, 0, 0, 4, 4, 1, 0, 4, 3, 0, 3, 2, 1, 1, 1, 3, 0, 2, 2, 0, 1, 1, 1, 1, 1, 1, 1, 1, 2, 1, 2, 1, 0, 0, 0, 0, 0, 0, 0, 1, 2, 1, 2, 2, 0, 1, 1, 2, 1, 2, 3, 4, 1, 1, 3, 0, 3, 3, 2, 1, 1, 1, 1, 1, 2, 5, 1, 1, 3, 3, 4, 3, 2, 2, 4, 1, 3, 5, 6, 6, 6, 5, 5, 5, 5, 6, 5, 6, 6, 0, 2, 2, 0, 6, 0, 5, 5, 0, 1, 0, 2, 2, 3, 6, 5, 1, 0, 2, 1, 0, 6, 5, 4, 4, 0, 0, 1, 0, 0, 0, 0, 1, 1, 1, 1, 0, 1, 2, 2, 2, 3, 4, 5, 0, 5, 0, 0, 1, 0, 0, 1, 2, 2, 2, 2, 3, 1, 2, 0, 1, 2, 3, 3, 4, 0, 1, 0, 0, 1, 0, 1, 2, 4, 5, 6, 6, 5, 6, 6, 6, 7, 4, 5, 0, 0, 1, 5, 6, 2, 0, 2, 6, 7, 2, 0, 5, 1, 1, 0, 0, 8]
def zt_lo : List Nat := [86, 0, 0, 87, 87, 21, 0, 101, 71, 0, 63, 43, 21, 21, 21, 63, 0, 44, 40, 0, 20, 20, 20, 20, 21, 21, 21, 21, 47, 21, 40, 21, 0, 0, 0, 0, 0, 0, 0, 21, 44, 20, 43, 43, 0, 20, 21, 43, 21, 44, 71, 93, 21, 21, 64, 0, 64, 64, 44, 20, 20, 20, 21, 21, 47, 106, 21, 20, 66, 66, 86, 65, 43, 42, 93, 21, 71, 108, 129, 129, 129, 108, 108, 125, 125, 147, 125, 147, 147, 0, 40, 40, 0, 137, 0, 115, 125, 0, 25, 0, 45, 40, 71, 147, 125, 23, 0, 48, 21, 0, 138, 115, 87, 87, 0, 0, 21, 0, 0, 0, 0, 25, 25, 25, 25, 0, 25, 47, 47, 47, 70, 91, 111, 0, 111, 0, 0, 25, 0, 0, 21, 45, 46, 46, 49, 71, 25, 49, 0, 22, 46, 71, 71, 93, 0, 22, 0, 0, 25, 0, 23, 45, 93, 118, 138, 138, 118, 140, 140, 140, 168, 93, 116, 0, 0, 24, 118, 142, 46, 0, 46, 142, 168, 47, 0, 116, 25, 25, 0, 0, 193]
/-- where a method's words stand in lw_tbl: code, initialized, static or instanceMethod, selects -/
def zt_wp : List (Nat × Nat × Nat × Nat) := [(1116, 1006, 1115, 0), (2075, 1006, 2073, 2074), (2055, 1006, 2053, 2054), (2186, 1006, 2184, 2185), (3016, 1006, 3014, 3015), (1167, 1009, 1166, 0), (3036, 1009, 3035, 0), (3028, 1009, 3026, 3027), (3045, 1009, 3044, 6), (3040, 1009, 3039, 5), (3060, 1009, 3058, 3059), (3081, 1009, 3079, 3080), (3064, 1009, 3063, 7), (3069, 1009, 3068, 8), (3073, 1009, 3072, 9), (3131, 1009, 3129, 3130), (3140, 1009, 3138, 3139), (1048, 1004, 1047, 0), (2025, 1004, 2023, 2024), (2039, 1004, 2038, 1), (2029, 1004, 2028, 0), (2059, 1004, 2057, 2058), (2063, 1004, 2061, 2062), (2067, 1004, 2065, 2066), (2121, 1004, 2119, 2120), (2138, 1004, 2136, 2137), (2146, 1004, 2144, 2145), (2130, 1004, 2128, 2129), (2164, 1004, 2162, 2163), (2168, 1004, 2166, 2167), (2098, 1004, 2096, 2097), (1025, 1002, 1024, 0), (2009, 1002, 2007, 2008), (2001, 1002, 1239, 2000), (1237, 1002, 1235, 1236), (2125, 1002, 2123, 2124), (2034, 1002, 2032, 2033), (2005, 1002, 2003, 2004), (2017, 1002, 2015, 2016), (2202, 1002, 2200, 2201), (1088, 1005, 1087, 0), (2050, 1005, 2048, 2049), (2212, 1005, 2210, 2211), (2198, 1005, 2196, 2197), (2150, 1005, 2148, 2149), (2088, 1005, 2086, 2087), (2093, 1005, 2091, 2092), (2154, 1005, 2152, 2153), (2110, 1005, 2108, 2109), (2106, 1005, 2104, 2105), (2160, 1005, 2158, 2159), (2222, 1005, 2220, 2221), (2239, 1005, 2237, 2238), (3007, 1005, 3005, 3006), (1122, 1007, 1121, 0), (2194, 1007, 2193, 3), (2190, 1007, 2188, 2189), (3020, 1007, 3018, 3019), (1146, 1008, 1145, 0), (2079, 1008, 2077, 2078), (3159, 1008, 3157, 3158), (3173, 1008, 3171, 3172), (3154, 1008, 3152, 3153), (3164, 1008, 3162, 3163), (3182, 1008, 3180, 3181), (1017, 1001, 1016, 0), (1233, 1001, 1231, 1232), (2013, 1001, 2011, 2012), (2021, 1001, 2019, 2020), (2046, 1001, 2044, 2045), (2071, 1001, 2069, 2070), (2084, 1001, 2083, 2), (2117, 1001, 2115, 2116), (2134, 1001, 2132, 2133), (2142, 1001, 2140, 2141), (2172, 1001, 2170, 2171), (2177, 1001, 2175, 2176), (2182, 1001, 2180, 2181), (2217, 1001, 2215, 2216), (2235, 1001, 2233, 2234), (3003, 1001, 3001, 3002), (2231, 1001, 2230, 4), (3012, 1001, 3010, 3011), (3024, 1001, 3022, 3023), (3077, 1001, 3075, 3076), (3085, 1001, 3083, 3084), (3089, 1001, 3088, 10), (3093, 1001, 3091, 3092), (3097, 1001, 3095, 3096), (3100, 1001, 3099, 0), (3104, 1001, 3103, 11), (3112, 1001, 3111, 12), (3107, 1001, 3106, 0), (3116, 1001, 3114, 3115), (3119, 1001, 3118, 0), (3123, 1001, 3122, 13), (3127, 1001, 3125, 3126), (3136, 1001, 3135, 0), (3143, 1001, 3142, 0), (3146, 1001, 3145, 0), (3150, 1001, 3148, 3149), (3169, 1001, 3167, 3168), (3178, 1001, 3176, 3177), (3190, 1001, 3188, 3189), (3194, 1001, 3193, 14), (3197, 1001, 3196, 0), (3200, 1001, 3199, 0), (3204, 1001, 3202, 3203), (3209, 1001, 3208, 15), (3214, 1001, 3212, 3213), (3218, 1001, 3216, 3217), (3225, 1001, 3224, 16), (3229, 1001, 3227, 3228), (3234, 1001, 3232, 3233), (2102, 1001, 2101, 0), (2113, 1001, 2112, 0), (4000, 1010, 3239, 0), (4134, 1010, 4133, 0), (4191, 1010, 4190, 0), (5115, 1010, 5114, 0), (5095, 1010, 5094, 0), (4199, 1010, 4198, 25), (4211, 1010, 4210, 27), (4219, 1010, 4218, 28), (4130, 1010, 4128, 4129), (4138, 1010, 4136, 4137), (4158, 1010, 4157, 20), (4154, 1010, 4153, 19), (4162, 1010, 4161, 21), (4166, 1010, 4165, 22), (4150, 1010, 4149, 18), (4146, 1010, 4145, 17), (4142, 1010, 4140, 4141), (4173, 1010, 4172, 0), (4170, 1010, 4168, 4169), (4203, 1010, 4202, 26), (4232, 1010, 4231, 31), (4228, 1010, 4227, 30), (4180, 1010, 4179, 0), (4184, 1010, 4183, 23), (4188, 1010, 4187, 24), (4177, 1010, 4175, 4176), (4195, 1010, 4193, 4194), (4207, 1010, 4205, 4206), (4224, 1010, 4223, 29), (4215, 1010, 4213, 4214), (4236, 1010, 4234, 4235), (5000, 1010, 4238, 4239), (5009, 1010, 5008, 32), (5013, 1010, 5012, 33), (5005, 1010, 5003, 5004), (5021, 1010, 5020, 34), (5025, 1010, 5024, 35), (5017, 1010, 5015, 5016), (5033, 1010, 5032, 36), (5029, 1010, 5027, 5028), (5041, 1010, 5040, 0), (5044, 1010, 5043, 0), (5037, 1010, 5035, 5036), (5048, 1010, 5046, 5047), (5060, 1010, 5059, 38), (5068, 1010, 5067, 40), (5064, 1010, 5063, 39), (5056, 1010, 5055, 37), (5052, 1010, 5050, 5051), (5072, 1010, 5070, 5071), (5080, 1010, 5079, 41), (5076, 1010, 5074, 5075), (5084, 1010, 5082, 5083), (5092, 1010, 5091, 42), (5088, 1010, 5086, 5087), (5104, 1010, 5103, 43), (5099, 1010, 5097, 5098), (5118, 1010, 5117, 0), (5124, 1010, 5123, 0), (5121, 1010, 5120, 0), (5112, 1010, 5111, 44), (5108, 1010, 5106, 5107), (5128, 1010, 5126, 5127), (5133, 1010, 5131, 5132), (5137, 1010, 5135, 5136), (5145, 1010, 5144, 45), (5141, 1010, 5139, 5140), (5149, 1010, 5147, 5148), (5154, 1010, 5152, 5153), (5158, 1010, 5156, 5157), (5166, 1010, 5164, 5165), (5170, 1010, 5168, 5169), (3048, 1012, 3047, 0), (3031, 1011, 3030, 0), (0, 0, 0, 0)]
/-- an instruction, its length, its class or target or place, its field or kind, where its word stands in lw_tbl -/
abbrev zI : Type := Instr × Nat × Nat × Nat × Nat
/-- LoveGlass$Acts.<init> -/
def zc_0 : List (Nat × zI) := [(0, .aload_n 0, 1, 0, 0, 0), (1, .invokespecial 3, 3, 0, 2, 1117), (4, .aload_n 0, 1, 0, 0, 0), (5, .new 9, 3, 5, 0, 1118), (8, .dup, 1, 0, 0, 0), (9, .bipush 14, 2, 0, 0, 0), (11, .invokespecial 11, 3, 54, 0, 1120), (14, .putfield 14, 3, 0, 0, 1132), (17, .return_, 1, 0, 0, 0)]
/-- LoveGlass$Acts.size -/
def zc_1 : List (Nat × zI) := [(0, .aload_n 0, 1, 0, 0, 0), (1, .getfield 20, 3, 0, 2, 1134), (4, .ireturn, 1, 0, 0, 0)]
/-- LoveGlass$Acts.clear -/
def zc_2 : List (Nat × zI) := [(0, .aload_n 0, 1, 0, 0, 0), (1, .iconst 0, 1, 0, 0, 0), (2, .putfield 20, 3, 0, 2, 1134), (5, .return_, 1, 0, 0, 0)]
/-- LoveGlass$Acts.remember -/
def zc_3 : List (Nat × zI) := [(0, .aload_n 0, 1, 0, 0, 0), (1, .getfield 14, 3, 0, 0, 1132), (4, .aload_n 0, 1, 0, 0, 0), (5, .getfield 24, 3, 0, 1, 1133), (8, .aload_n 1, 1, 0, 0, 0), (9, .invokevirtual 27, 3, 56, 0, 2187), (12, .aload_n 0, 1, 0, 0, 0), (13, .aload_n 0, 1, 0, 0, 0), (14, .getfield 24, 3, 0, 1, 1133), (17, .iconst 1, 1, 0, 0, 0), (18, .iadd, 1, 0, 0, 0), (19, .bipush 14, 2, 0, 0, 0), (21, .irem, 1, 0, 0, 0), (22, .putfield 24, 3, 0, 1, 1133), (25, .aload_n 0, 1, 0, 0, 0), (26, .aload_n 0, 1, 0, 0, 0), (27, .getfield 20, 3, 0, 2, 1134), (30, .iconst 1, 1, 0, 0, 0), (31, .iadd, 1, 0, 0, 0), (32, .bipush 14, 2, 0, 0, 0), (34, .invokestatic 31, 3, 0, 4, 2206), (37, .putfield 20, 3, 0, 2, 1134), (40, .return_, 1, 0, 0, 0)]
/-- LoveGlass$Acts.takeBack -/
def zc_4 : List (Nat × zI) := [(0, .aload_n 0, 1, 0, 0, 0), (1, .getfield 20, 3, 0, 2, 1134), (4, .iconst 1, 1, 0, 0, 0), (5, .if_icmp .ge 5, 3, 10, 0, 0), (8, .iconst 0, 1, 0, 0, 0), (9, .ireturn, 1, 0, 0, 0), (10, .aload_n 0, 1, 0, 0, 0), (11, .aload_n 0, 1, 0, 0, 0), (12, .getfield 24, 3, 0, 1, 1133), (15, .bipush 14, 2, 0, 0, 0), (17, .iadd, 1, 0, 0, 0), (18, .iconst 1, 1, 0, 0, 0), (19, .isub, 1, 0, 0, 0), (20, .bipush 14, 2, 0, 0, 0), (22, .irem, 1, 0, 0, 0), (23, .putfield 24, 3, 0, 1, 1133), (26, .aload_n 0, 1, 0, 0, 0), (27, .dup, 1, 0, 0, 0), (28, .getfield 20, 3, 0, 2, 1134), (31, .iconst 1, 1, 0, 0, 0), (32, .isub, 1, 0, 0, 0), (33, .putfield 20, 3, 0, 2, 1134), (36, .aload_n 0, 1, 0, 0, 0), (37, .getfield 14, 3, 0, 0, 1132), (40, .aload_n 0, 1, 0, 0, 0), (41, .getfield 24, 3, 0, 1, 1133), (44, .aload_n 1, 1, 0, 0, 0), (45, .invokevirtual 37, 3, 57, 0, 3017), (48, .iconst 1, 1, 0, 0, 0), (49, .ireturn, 1, 0, 0, 0)]
/-- LoveGlass$Plans.<init> -/
def zc_5 : List (Nat × zI) := [(0, .aload_n 0, 1, 0, 0, 0), (1, .invokespecial 3, 3, 0, 2, 1168), (4, .aload_n 0, 1, 0, 0, 0), (5, .sipush 256, 3, 0, 0, 0), (8, .newarray .int, 2, 0, 0, 1043), (10, .putfield 9, 3, 1, 0, 1169), (13, .aload_n 0, 1, 0, 0, 0), (14, .sipush 256, 3, 0, 0, 0), (17, .newarray .int, 2, 0, 0, 1043), (19, .putfield 15, 3, 1, 1, 1170), (22, .aload_n 0, 1, 0, 0, 0), (23, .bipush 64, 2, 0, 0, 0), (25, .newarray .int, 2, 0, 0, 1043), (27, .putfield 18, 3, 1, 2, 1171), (30, .return_, 1, 0, 0, 0)]
/-- LoveGlass$Plans.placeOf -/
def zc_6 : List (Nat × zI) := [(0, .iload_n 0, 1, 0, 0, 0), (1, .iconst 4, 1, 0, 0, 0), (2, .imul, 1, 0, 0, 0), (3, .iload_n 1, 1, 0, 0, 0), (4, .iadd, 1, 0, 0, 0), (5, .ireturn, 1, 0, 0, 0)]
/-- LoveGlass$Plans.layBehind -/
def zc_7 : List (Nat × zI) := [(0, .aload_n 0, 1, 0, 0, 0), (1, .getfield 9, 3, 1, 0, 1169), (4, .bipush (-9), 2, 0, 0, 0), (6, .invokestatic 21, 3, 189, 0, 3029), (9, .aload_n 2, 1, 0, 0, 0), (10, .invokevirtual 27, 3, 44, 0, 3032), (13, .ifCond .ne 4, 3, 17, 0, 0), (16, .return_, 1, 0, 0, 0), (17, .aload_n 0, 1, 0, 0, 0), (18, .iconst 0, 1, 0, 0, 0), (19, .aload_n 2, 1, 0, 0, 0), (20, .aload_n 1, 1, 0, 0, 0), (21, .invokevirtual 33, 3, 48, 0, 3033), (24, .invokestatic 37, 3, 6, 0, 3034), (27, .iconst 0, 1, 0, 0, 0), (28, .iconst 0, 1, 0, 0, 0), (29, .invokevirtual 41, 3, 9, 0, 3037), (32, .aload_n 2, 1, 0, 0, 0), (33, .invokevirtual 45, 3, 46, 0, 3041), (36, .istore_n 3, 1, 0, 0, 0), (37, .iconst 0, 1, 0, 0, 0), (38, .istore 4, 2, 0, 0, 0), (40, .iload 4, 2, 0, 0, 0), (42, .aload_n 0, 1, 0, 0, 0), (43, .getfield 9, 3, 1, 0, 1169), (46, .arraylength, 1, 0, 0, 0), (47, .if_icmp .ge 28, 3, 75, 0, 0), (50, .aload_n 0, 1, 0, 0, 0), (51, .getfield 9, 3, 1, 0, 1169), (54, .iload 4, 2, 0, 0, 0), (56, .iaload, 1, 0, 0, 0), (57, .ifCond .lt 12, 3, 69, 0, 0), (60, .aload_n 0, 1, 0, 0, 0), (61, .aload_n 1, 1, 0, 0, 0), (62, .aload_n 2, 1, 0, 0, 0), (63, .iload 4, 2, 0, 0, 0), (65, .iload_n 3, 1, 0, 0, 0), (66, .invokevirtual 49, 3, 8, 0, 3042), (69, .iinc 4 1, 3, 0, 0, 0), (72, .goto (-32), 3, 40, 0, 0), (75, .return_, 1, 0, 0, 0)]
/-- LoveGlass$Plans.extend -/
def zc_8 : List (Nat × zI) := [(0, .iload_n 3, 1, 0, 0, 0), (1, .ifCond .lt 21, 3, 22, 0, 0), (4, .iload_n 3, 1, 0, 0, 0), (5, .aload_n 0, 1, 0, 0, 0), (6, .getfield 9, 3, 1, 0, 1169), (9, .arraylength, 1, 0, 0, 0), (10, .if_icmp .ge 12, 3, 22, 0, 0), (13, .iload_n 3, 1, 0, 0, 0), (14, .aload_n 0, 1, 0, 0, 0), (15, .getfield 15, 3, 1, 1, 1170), (18, .arraylength, 1, 0, 0, 0), (19, .if_icmp .lt 4, 3, 23, 0, 0), (22, .return_, 1, 0, 0, 0), (23, .iload_n 3, 1, 0, 0, 0), (24, .iconst 4, 1, 0, 0, 0), (25, .idiv, 1, 0, 0, 0), (26, .istore 5, 2, 0, 0, 0), (28, .iload 4, 2, 0, 0, 0), (30, .iload 5, 2, 0, 0, 0), (32, .ior, 1, 0, 0, 0), (33, .istore 6, 2, 0, 0, 0), (35, .iload 6, 2, 0, 0, 0), (37, .invokestatic 53, 3, 188, 0, 3046), (40, .istore 7, 2, 0, 0, 0), (42, .iconst 0, 1, 0, 0, 0), (43, .istore 8, 2, 0, 0, 0), (45, .iload 8, 2, 0, 0, 0), (47, .aload_n 1, 1, 0, 0, 0), (48, .invokevirtual 59, 3, 23, 0, 3052), (51, .if_icmp .ge 105, 3, 156, 0, 0), (54, .iload 6, 2, 0, 0, 0), (56, .iload 8, 2, 0, 0, 0), (58, .invokestatic 64, 3, 114, 1, 3053), (61, .ifCond .eq 6, 3, 67, 0, 0), (64, .goto 86, 3, 150, 0, 0), (67, .aload_n 0, 1, 0, 0, 0), (68, .getfield 9, 3, 1, 0, 1169), (71, .iload_n 3, 1, 0, 0, 0), (72, .iaload, 1, 0, 0, 0), (73, .aload_n 1, 1, 0, 0, 0), (74, .iload 8, 2, 0, 0, 0), (76, .aload_n 2, 1, 0, 0, 0), (77, .getfield 68, 3, 4, 1, 1096), (80, .aload_n 2, 1, 0, 0, 0), (81, .getfield 72, 3, 4, 0, 1093), (84, .iload 7, 2, 0, 0, 0), (86, .invokevirtual 75, 3, 28, 0, 3054), (89, .iadd, 1, 0, 0, 0), (90, .istore 9, 2, 0, 0, 0), (92, .iload 9, 2, 0, 0, 0), (94, .aload_n 2, 1, 0, 0, 0), (95, .getfield 79, 3, 4, 2, 1099), (98, .if_icmp .gt 52, 3, 150, 0, 0), (101, .iload_n 3, 1, 0, 0, 0), (102, .iconst 4, 1, 0, 0, 0), (103, .irem, 1, 0, 0, 0), (104, .aload_n 1, 1, 0, 0, 0), (105, .getfield 82, 3, 2, 6, 1066), (108, .iload 8, 2, 0, 0, 0), (110, .invokevirtual 86, 3, 36, 0, 3055), (113, .invokestatic 91, 3, 115, 1, 3056), (116, .istore 10, 2, 0, 0, 0), (118, .aload_n 0, 1, 0, 0, 0), (119, .iload 5, 2, 0, 0, 0), (121, .iconst 1, 1, 0, 0, 0), (122, .iload 8, 2, 0, 0, 0), (124, .ishl, 1, 0, 0, 0), (125, .ior, 1, 0, 0, 0), (126, .iload 10, 2, 0, 0, 0), (128, .invokestatic 37, 3, 6, 0, 3034), (131, .iload 9, 2, 0, 0, 0), (133, .bipush 10, 2, 0, 0, 0), (135, .aload_n 0, 1, 0, 0, 0), (136, .getfield 15, 3, 1, 1, 1170), (139, .iload_n 3, 1, 0, 0, 0), (140, .iaload, 1, 0, 0, 0), (141, .imul, 1, 0, 0, 0), (142, .iload 8, 2, 0, 0, 0), (144, .iadd, 1, 0, 0, 0), (145, .iconst 1, 1, 0, 0, 0), (146, .iadd, 1, 0, 0, 0), (147, .invokevirtual 41, 3, 9, 0, 3037), (150, .iinc 8 1, 3, 0, 0, 0), (153, .goto (-108), 3, 45, 0, 0), (156, .return_, 1, 0, 0, 0)]
/-- LoveGlass$Plans.offer -/
def zc_9 : List (Nat × zI) := [(0, .iload_n 1, 1, 0, 0, 0), (1, .ifCond .lt 21, 3, 22, 0, 0), (4, .iload_n 1, 1, 0, 0, 0), (5, .aload_n 0, 1, 0, 0, 0), (6, .getfield 9, 3, 1, 0, 1169), (9, .arraylength, 1, 0, 0, 0), (10, .if_icmp .ge 12, 3, 22, 0, 0), (13, .iload_n 1, 1, 0, 0, 0), (14, .aload_n 0, 1, 0, 0, 0), (15, .getfield 15, 3, 1, 1, 1170), (18, .arraylength, 1, 0, 0, 0), (19, .if_icmp .lt 4, 3, 23, 0, 0), (22, .return_, 1, 0, 0, 0), (23, .aload_n 0, 1, 0, 0, 0), (24, .getfield 9, 3, 1, 0, 1169), (27, .iload_n 1, 1, 0, 0, 0), (28, .iaload, 1, 0, 0, 0), (29, .ifCond .lt 33, 3, 62, 0, 0), (32, .iload_n 2, 1, 0, 0, 0), (33, .aload_n 0, 1, 0, 0, 0), (34, .getfield 9, 3, 1, 0, 1169), (37, .iload_n 1, 1, 0, 0, 0), (38, .iaload, 1, 0, 0, 0), (39, .if_icmp .lt 23, 3, 62, 0, 0), (42, .iload_n 2, 1, 0, 0, 0), (43, .aload_n 0, 1, 0, 0, 0), (44, .getfield 9, 3, 1, 0, 1169), (47, .iload_n 1, 1, 0, 0, 0), (48, .iaload, 1, 0, 0, 0), (49, .if_icmp .ne 27, 3, 76, 0, 0), (52, .iload_n 3, 1, 0, 0, 0), (53, .aload_n 0, 1, 0, 0, 0), (54, .getfield 15, 3, 1, 1, 1170), (57, .iload_n 1, 1, 0, 0, 0), (58, .iaload, 1, 0, 0, 0), (59, .if_icmp .ge 17, 3, 76, 0, 0), (62, .aload_n 0, 1, 0, 0, 0), (63, .getfield 9, 3, 1, 0, 1169), (66, .iload_n 1, 1, 0, 0, 0), (67, .iload_n 2, 1, 0, 0, 0), (68, .iastore, 1, 0, 0, 0), (69, .aload_n 0, 1, 0, 0, 0), (70, .getfield 15, 3, 1, 1, 1170), (73, .iload_n 1, 1, 0, 0, 0), (74, .iload_n 3, 1, 0, 0, 0), (75, .iastore, 1, 0, 0, 0), (76, .return_, 1, 0, 0, 0)]
/-- LoveGlass$Plans.seekWarmest -/
def zc_10 : List (Nat × zI) := [(0, .iconst 0, 1, 0, 0, 0), (1, .istore_n 2, 1, 0, 0, 0), (2, .iconst 0, 1, 0, 0, 0), (3, .istore_n 3, 1, 0, 0, 0), (4, .iload_n 3, 1, 0, 0, 0), (5, .bipush 64, 2, 0, 0, 0), (7, .if_icmp .ge 67, 3, 74, 0, 0), (10, .aload_n 0, 1, 0, 0, 0), (11, .iload_n 3, 1, 0, 0, 0), (12, .invokevirtual 94, 3, 12, 0, 3061), (15, .ifCond .eq 53, 3, 68, 0, 0), (18, .aload_n 1, 1, 0, 0, 0), (19, .iload_n 3, 1, 0, 0, 0), (20, .invokevirtual 98, 3, 30, 0, 3065), (23, .istore 4, 2, 0, 0, 0), (25, .iload_n 2, 1, 0, 0, 0), (26, .ifCond .eq 29, 3, 55, 0, 0), (29, .iload 4, 2, 0, 0, 0), (31, .aload_n 0, 1, 0, 0, 0), (32, .getfield 101, 3, 1, 3, 1172), (35, .if_icmp .gt 20, 3, 55, 0, 0), (38, .iload 4, 2, 0, 0, 0), (40, .aload_n 0, 1, 0, 0, 0), (41, .getfield 101, 3, 1, 3, 1172), (44, .if_icmp .ne 24, 3, 68, 0, 0), (47, .aload_n 0, 1, 0, 0, 0), (48, .iload_n 3, 1, 0, 0, 0), (49, .invokevirtual 104, 3, 13, 0, 3066), (52, .ifCond .eq 16, 3, 68, 0, 0), (55, .aload_n 0, 1, 0, 0, 0), (56, .iload_n 3, 1, 0, 0, 0), (57, .invokevirtual 107, 3, 14, 0, 3070), (60, .aload_n 0, 1, 0, 0, 0), (61, .iload 4, 2, 0, 0, 0), (63, .putfield 101, 3, 1, 3, 1172), (66, .iconst 1, 1, 0, 0, 0), (67, .istore_n 2, 1, 0, 0, 0), (68, .iinc 3 1, 3, 0, 0, 0), (71, .goto (-67), 3, 4, 0, 0), (74, .iload_n 2, 1, 0, 0, 0), (75, .ireturn, 1, 0, 0, 0)]
/-- LoveGlass$Plans.seekShortest -/
def zc_11 : List (Nat × zI) := [(0, .iconst 0, 1, 0, 0, 0), (1, .istore_n 1, 1, 0, 0, 0), (2, .iconst 0, 1, 0, 0, 0), (3, .istore_n 2, 1, 0, 0, 0), (4, .iload_n 2, 1, 0, 0, 0), (5, .bipush 64, 2, 0, 0, 0), (7, .if_icmp .ge 36, 3, 43, 0, 0), (10, .aload_n 0, 1, 0, 0, 0), (11, .iload_n 2, 1, 0, 0, 0), (12, .invokevirtual 94, 3, 12, 0, 3061), (15, .ifCond .eq 22, 3, 37, 0, 0), (18, .iload_n 1, 1, 0, 0, 0), (19, .ifCond .eq 11, 3, 30, 0, 0), (22, .aload_n 0, 1, 0, 0, 0), (23, .iload_n 2, 1, 0, 0, 0), (24, .invokevirtual 104, 3, 13, 0, 3066), (27, .ifCond .eq 10, 3, 37, 0, 0), (30, .aload_n 0, 1, 0, 0, 0), (31, .iload_n 2, 1, 0, 0, 0), (32, .invokevirtual 107, 3, 14, 0, 3070), (35, .iconst 1, 1, 0, 0, 0), (36, .istore_n 1, 1, 0, 0, 0), (37, .iinc 2 1, 3, 0, 0, 0), (40, .goto (-36), 3, 4, 0, 0), (43, .iload_n 1, 1, 0, 0, 0), (44, .ireturn, 1, 0, 0, 0)]
/-- LoveGlass$Plans.reaches -/
def zc_12 : List (Nat × zI) := [(0, .iload_n 1, 1, 0, 0, 0), (1, .iconst 3, 1, 0, 0, 0), (2, .invokestatic 37, 3, 6, 0, 3034), (5, .istore_n 2, 1, 0, 0, 0), (6, .iload_n 2, 1, 0, 0, 0), (7, .ifCond .lt 25, 3, 32, 0, 0), (10, .iload_n 2, 1, 0, 0, 0), (11, .aload_n 0, 1, 0, 0, 0), (12, .getfield 9, 3, 1, 0, 1169), (15, .arraylength, 1, 0, 0, 0), (16, .if_icmp .ge 16, 3, 32, 0, 0), (19, .aload_n 0, 1, 0, 0, 0), (20, .getfield 9, 3, 1, 0, 1169), (23, .iload_n 2, 1, 0, 0, 0), (24, .iaload, 1, 0, 0, 0), (25, .ifCond .lt 7, 3, 32, 0, 0), (28, .iconst 1, 1, 0, 0, 0), (29, .goto 4, 3, 33, 0, 0), (32, .iconst 0, 1, 0, 0, 0), (33, .ireturn, 1, 0, 0, 0)]
/-- LoveGlass$Plans.isShorter -/
def zc_13 : List (Nat × zI) := [(0, .iload_n 1, 1, 0, 0, 0), (1, .iconst 3, 1, 0, 0, 0), (2, .invokestatic 37, 3, 6, 0, 3034), (5, .istore_n 2, 1, 0, 0, 0), (6, .iload_n 2, 1, 0, 0, 0), (7, .ifCond .lt 21, 3, 28, 0, 0), (10, .iload_n 2, 1, 0, 0, 0), (11, .aload_n 0, 1, 0, 0, 0), (12, .getfield 9, 3, 1, 0, 1169), (15, .arraylength, 1, 0, 0, 0), (16, .if_icmp .ge 12, 3, 28, 0, 0), (19, .iload_n 2, 1, 0, 0, 0), (20, .aload_n 0, 1, 0, 0, 0), (21, .getfield 15, 3, 1, 1, 1170), (24, .arraylength, 1, 0, 0, 0), (25, .if_icmp .lt 5, 3, 30, 0, 0), (28, .iconst 0, 1, 0, 0, 0), (29, .ireturn, 1, 0, 0, 0), (30, .aload_n 0, 1, 0, 0, 0), (31, .getfield 9, 3, 1, 0, 1169), (34, .iload_n 2, 1, 0, 0, 0), (35, .iaload, 1, 0, 0, 0), (36, .aload_n 0, 1, 0, 0, 0), (37, .getfield 111, 3, 1, 4, 1174), (40, .if_icmp .lt 29, 3, 69, 0, 0), (43, .aload_n 0, 1, 0, 0, 0), (44, .getfield 9, 3, 1, 0, 1169), (47, .iload_n 2, 1, 0, 0, 0), (48, .iaload, 1, 0, 0, 0), (49, .aload_n 0, 1, 0, 0, 0), (50, .getfield 111, 3, 1, 4, 1174), (53, .if_icmp .ne 20, 3, 73, 0, 0), (56, .aload_n 0, 1, 0, 0, 0), (57, .getfield 15, 3, 1, 1, 1170), (60, .iload_n 2, 1, 0, 0, 0), (61, .iaload, 1, 0, 0, 0), (62, .aload_n 0, 1, 0, 0, 0), (63, .getfield 114, 3, 1, 5, 1176), (66, .if_icmp .ge 7, 3, 73, 0, 0), (69, .iconst 1, 1, 0, 0, 0), (70, .goto 4, 3, 74, 0, 0), (73, .iconst 0, 1, 0, 0, 0), (74, .ireturn, 1, 0, 0, 0)]
/-- LoveGlass$Plans.choose -/
def zc_14 : List (Nat × zI) := [(0, .iload_n 1, 1, 0, 0, 0), (1, .iconst 3, 1, 0, 0, 0), (2, .invokestatic 37, 3, 6, 0, 3034), (5, .istore_n 2, 1, 0, 0, 0), (6, .iload_n 2, 1, 0, 0, 0), (7, .ifCond .lt 41, 3, 48, 0, 0), (10, .iload_n 2, 1, 0, 0, 0), (11, .aload_n 0, 1, 0, 0, 0), (12, .getfield 9, 3, 1, 0, 1169), (15, .arraylength, 1, 0, 0, 0), (16, .if_icmp .ge 32, 3, 48, 0, 0), (19, .iload_n 2, 1, 0, 0, 0), (20, .aload_n 0, 1, 0, 0, 0), (21, .getfield 15, 3, 1, 1, 1170), (24, .arraylength, 1, 0, 0, 0), (25, .if_icmp .ge 23, 3, 48, 0, 0), (28, .aload_n 0, 1, 0, 0, 0), (29, .aload_n 0, 1, 0, 0, 0), (30, .getfield 9, 3, 1, 0, 1169), (33, .iload_n 2, 1, 0, 0, 0), (34, .iaload, 1, 0, 0, 0), (35, .putfield 111, 3, 1, 4, 1174), (38, .aload_n 0, 1, 0, 0, 0), (39, .aload_n 0, 1, 0, 0, 0), (40, .getfield 15, 3, 1, 1, 1170), (43, .iload_n 2, 1, 0, 0, 0), (44, .iaload, 1, 0, 0, 0), (45, .putfield 114, 3, 1, 5, 1176), (48, .return_, 1, 0, 0, 0)]
/-- LoveGlass$Plans.weighSets -/
def zc_15 : List (Nat × zI) := [(0, .iconst 0, 1, 0, 0, 0), (1, .istore_n 2, 1, 0, 0, 0), (2, .iload_n 2, 1, 0, 0, 0), (3, .aload_n 0, 1, 0, 0, 0), (4, .getfield 18, 3, 1, 2, 1171), (7, .arraylength, 1, 0, 0, 0), (8, .if_icmp .ge 77, 3, 85, 0, 0), (11, .aload_n 0, 1, 0, 0, 0), (12, .iload_n 2, 1, 0, 0, 0), (13, .invokevirtual 94, 3, 12, 0, 3061), (16, .ifCond .eq 11, 3, 27, 0, 0), (19, .aload_n 1, 1, 0, 0, 0), (20, .iload_n 2, 1, 0, 0, 0), (21, .invokevirtual 98, 3, 30, 0, 3065), (24, .goto 4, 3, 28, 0, 0), (27, .iconst 0, 1, 0, 0, 0), (28, .istore_n 3, 1, 0, 0, 0), (29, .iconst 0, 1, 0, 0, 0), (30, .istore 4, 2, 0, 0, 0), (32, .iload 4, 2, 0, 0, 0), (34, .bipush 6, 2, 0, 0, 0), (36, .if_icmp .ge 36, 3, 72, 0, 0), (39, .iload_n 2, 1, 0, 0, 0), (40, .iload 4, 2, 0, 0, 0), (42, .invokestatic 64, 3, 114, 1, 3053), (45, .ifCond .eq 21, 3, 66, 0, 0), (48, .iload_n 3, 1, 0, 0, 0), (49, .aload_n 0, 1, 0, 0, 0), (50, .getfield 18, 3, 1, 2, 1171), (53, .iload_n 2, 1, 0, 0, 0), (54, .iconst 1, 1, 0, 0, 0), (55, .iload 4, 2, 0, 0, 0), (57, .ishl, 1, 0, 0, 0), (58, .iconst (-1), 1, 0, 0, 0), (59, .ixor, 1, 0, 0, 0), (60, .iand, 1, 0, 0, 0), (61, .iaload, 1, 0, 0, 0), (62, .invokestatic 117, 3, 0, 3, 3132), (65, .istore_n 3, 1, 0, 0, 0), (66, .iinc 4 1, 3, 0, 0, 0), (69, .goto (-37), 3, 32, 0, 0), (72, .aload_n 0, 1, 0, 0, 0), (73, .getfield 18, 3, 1, 2, 1171), (76, .iload_n 2, 1, 0, 0, 0), (77, .iload_n 3, 1, 0, 0, 0), (78, .iastore, 1, 0, 0, 0), (79, .iinc 2 1, 3, 0, 0, 0), (82, .goto (-80), 3, 2, 0, 0), (85, .return_, 1, 0, 0, 0)]
/-- LoveGlass$Plans.gainOf -/
def zc_16 : List (Nat × zI) := [(0, .iload_n 1, 1, 0, 0, 0), (1, .iconst 1, 1, 0, 0, 0), (2, .iload_n 2, 1, 0, 0, 0), (3, .ishl, 1, 0, 0, 0), (4, .ior, 1, 0, 0, 0), (5, .istore_n 3, 1, 0, 0, 0), (6, .iload_n 1, 1, 0, 0, 0), (7, .ifCond .lt 16, 3, 23, 0, 0), (10, .iload_n 3, 1, 0, 0, 0), (11, .ifCond .lt 12, 3, 23, 0, 0), (14, .iload_n 3, 1, 0, 0, 0), (15, .aload_n 0, 1, 0, 0, 0), (16, .getfield 18, 3, 1, 2, 1171), (19, .arraylength, 1, 0, 0, 0), (20, .if_icmp .lt 7, 3, 27, 0, 0), (23, .iconst 0, 1, 0, 0, 0), (24, .goto 16, 3, 40, 0, 0), (27, .aload_n 0, 1, 0, 0, 0), (28, .getfield 18, 3, 1, 2, 1171), (31, .iload_n 3, 1, 0, 0, 0), (32, .iaload, 1, 0, 0, 0), (33, .aload_n 0, 1, 0, 0, 0), (34, .getfield 18, 3, 1, 2, 1171), (37, .iload_n 1, 1, 0, 0, 0), (38, .iaload, 1, 0, 0, 0), (39, .isub, 1, 0, 0, 0), (40, .ireturn, 1, 0, 0, 0)]
/-- LoveGlass$Port.<init> -/
def zc_17 : List (Nat × zI) := [(0, .aload_n 0, 1, 0, 0, 0), (1, .invokespecial 3, 3, 0, 2, 1049), (4, .aload_n 0, 1, 0, 0, 0), (5, .new 9, 3, 3, 0, 1050), (8, .dup, 1, 0, 0, 0), (9, .iconst 4, 1, 0, 0, 0), (10, .iconst 1, 1, 0, 0, 0), (11, .bipush 9, 2, 0, 0, 0), (13, .invokespecial 11, 3, 31, 0, 1051), (16, .putfield 14, 3, 2, 0, 1052), (19, .aload_n 0, 1, 0, 0, 0), (20, .new 9, 3, 3, 0, 1050), (23, .dup, 1, 0, 0, 0), (24, .iconst 4, 1, 0, 0, 0), (25, .iconst 0, 1, 0, 0, 0), (26, .iconst 3, 1, 0, 0, 0), (27, .invokespecial 11, 3, 31, 0, 1051), (30, .putfield 20, 3, 2, 1, 1054), (33, .aload_n 0, 1, 0, 0, 0), (34, .new 9, 3, 3, 0, 1050), (37, .dup, 1, 0, 0, 0), (38, .iconst 4, 1, 0, 0, 0), (39, .iconst 1, 1, 0, 0, 0), (40, .iconst 4, 1, 0, 0, 0), (41, .invokespecial 11, 3, 31, 0, 1051), (44, .putfield 23, 3, 2, 2, 1057), (47, .aload_n 0, 1, 0, 0, 0), (48, .new 9, 3, 3, 0, 1050), (51, .dup, 1, 0, 0, 0), (52, .iconst 4, 1, 0, 0, 0), (53, .iconst 0, 1, 0, 0, 0), (54, .iconst 3, 1, 0, 0, 0), (55, .invokespecial 11, 3, 31, 0, 1051), (58, .putfield 26, 3, 2, 3, 1059), (61, .aload_n 0, 1, 0, 0, 0), (62, .new 9, 3, 3, 0, 1050), (65, .dup, 1, 0, 0, 0), (66, .bipush 6, 2, 0, 0, 0), (68, .iconst 1, 1, 0, 0, 0), (69, .bipush 9, 2, 0, 0, 0), (71, .invokespecial 11, 3, 31, 0, 1051), (74, .putfield 29, 3, 2, 4, 1061), (77, .aload_n 0, 1, 0, 0, 0), (78, .new 9, 3, 3, 0, 1050), (81, .dup, 1, 0, 0, 0), (82, .bipush 6, 2, 0, 0, 0), (84, .iconst 0, 1, 0, 0, 0), (85, .bipush 9, 2, 0, 0, 0), (87, .invokespecial 11, 3, 31, 0, 1051), (90, .putfield 32, 3, 2, 5, 1063), (93, .aload_n 0, 1, 0, 0, 0), (94, .new 9, 3, 3, 0, 1050), (97, .dup, 1, 0, 0, 0), (98, .bipush 6, 2, 0, 0, 0), (100, .iconst 0, 1, 0, 0, 0), (101, .iconst 3, 1, 0, 0, 0), (102, .invokespecial 11, 3, 31, 0, 1051), (105, .putfield 35, 3, 2, 6, 1065), (108, .return_, 1, 0, 0, 0)]
/-- LoveGlass$Port.readFrom -/
def zc_18 : List (Nat × zI) := [(0, .aload_n 0, 1, 0, 0, 0), (1, .invokevirtual 38, 3, 20, 0, 2026), (4, .aload_n 1, 1, 0, 0, 0), (5, .iconst 0, 1, 0, 0, 0), (6, .invokevirtual 41, 3, 36, 0, 2031), (9, .bipush 69, 2, 0, 0, 0), (11, .if_icmp .eq 5, 3, 16, 0, 0), (14, .iconst 0, 1, 0, 0, 0), (15, .ireturn, 1, 0, 0, 0), (16, .iconst 0, 1, 0, 0, 0), (17, .istore_n 2, 1, 0, 0, 0), (18, .iconst 0, 1, 0, 0, 0), (19, .istore_n 3, 1, 0, 0, 0), (20, .iconst 1, 1, 0, 0, 0), (21, .istore 4, 2, 0, 0, 0), (23, .iload 4, 2, 0, 0, 0), (25, .aload_n 1, 1, 0, 0, 0), (26, .invokevirtual 45, 3, 32, 0, 2035), (29, .if_icmp .ge 111, 3, 140, 0, 0), (32, .aload_n 1, 1, 0, 0, 0), (33, .iload 4, 2, 0, 0, 0), (35, .invokevirtual 41, 3, 36, 0, 2031), (38, .istore 5, 2, 0, 0, 0), (40, .iload_n 2, 1, 0, 0, 0), (41, .ifCond .ne 36, 3, 77, 0, 0), (44, .aload_n 0, 1, 0, 0, 0), (45, .iload 5, 2, 0, 0, 0), (47, .iconst 0, 1, 0, 0, 0), (48, .invokevirtual 49, 3, 19, 0, 2036), (51, .astore 6, 2, 0, 0, 0), (53, .aload 6, 2, 0, 0, 0), (55, .ifnull 11, 3, 66, 0, 0), (58, .aload 6, 2, 0, 0, 0), (60, .invokevirtual 53, 3, 33, 0, 2040), (63, .ifCond .eq 6, 3, 69, 0, 0), (66, .iload 4, 2, 0, 0, 0), (68, .ireturn, 1, 0, 0, 0), (69, .iload 5, 2, 0, 0, 0), (71, .istore_n 2, 1, 0, 0, 0), (72, .iconst 0, 1, 0, 0, 0), (73, .istore_n 3, 1, 0, 0, 0), (74, .goto 60, 3, 134, 0, 0), (77, .aload_n 0, 1, 0, 0, 0), (78, .iload_n 2, 1, 0, 0, 0), (79, .iload_n 3, 1, 0, 0, 0), (80, .invokevirtual 49, 3, 19, 0, 2036), (83, .astore 6, 2, 0, 0, 0), (85, .aload 6, 2, 0, 0, 0), (87, .ifnull 16, 3, 103, 0, 0), (90, .aload 6, 2, 0, 0, 0), (92, .iload 5, 2, 0, 0, 0), (94, .bipush 48, 2, 0, 0, 0), (96, .isub, 1, 0, 0, 0), (97, .invokevirtual 57, 3, 34, 0, 2041), (100, .ifCond .ne 6, 3, 106, 0, 0), (103, .iload 4, 2, 0, 0, 0), (105, .ireturn, 1, 0, 0, 0), (106, .aload 6, 2, 0, 0, 0), (108, .iload 5, 2, 0, 0, 0), (110, .bipush 48, 2, 0, 0, 0), (112, .isub, 1, 0, 0, 0), (113, .invokevirtual 61, 3, 37, 0, 2042), (116, .iinc 3 1, 3, 0, 0, 0), (119, .aload_n 0, 1, 0, 0, 0), (120, .iload_n 2, 1, 0, 0, 0), (121, .iload_n 3, 1, 0, 0, 0), (122, .invokevirtual 49, 3, 19, 0, 2036), (125, .ifnonnull 7, 3, 132, 0, 0), (128, .iconst 0, 1, 0, 0, 0), (129, .goto 4, 3, 133, 0, 0), (132, .iload_n 2, 1, 0, 0, 0), (133, .istore_n 2, 1, 0, 0, 0), (134, .iinc 4 1, 3, 0, 0, 0), (137, .goto (-114), 3, 23, 0, 0), (140, .iload_n 2, 1, 0, 0, 0), (141, .ifCond .ne 8, 3, 149, 0, 0), (144, .bipush (-9), 2, 0, 0, 0), (146, .goto 7, 3, 153, 0, 0), (149, .aload_n 1, 1, 0, 0, 0), (150, .invokevirtual 45, 3, 32, 0, 2035), (153, .ireturn, 1, 0, 0, 0)]
/-- LoveGlass$Port.rowOf -/
def zc_19 : List (Nat × zI) := [(0, .iload_n 1, 1, 0, 0, 0), (1, .lookupswitch 122 #[(71, 35), (83, 60), (89, 85)], 35, 0, 0, 0), (36, .iload_n 2, 1, 0, 0, 0), (37, .ifCond .ne 10, 3, 47, 0, 0), (40, .aload_n 0, 1, 0, 0, 0), (41, .getfield 14, 3, 2, 0, 1052), (44, .goto 16, 3, 60, 0, 0), (47, .iload_n 2, 1, 0, 0, 0), (48, .iconst 1, 1, 0, 0, 0), (49, .if_icmp .ne 10, 3, 59, 0, 0), (52, .aload_n 0, 1, 0, 0, 0), (53, .getfield 20, 3, 2, 1, 1054), (56, .goto 4, 3, 60, 0, 0), (59, .aconst_null, 1, 0, 0, 0), (60, .areturn, 1, 0, 0, 0), (61, .iload_n 2, 1, 0, 0, 0), (62, .ifCond .ne 10, 3, 72, 0, 0), (65, .aload_n 0, 1, 0, 0, 0), (66, .getfield 23, 3, 2, 2, 1057), (69, .goto 16, 3, 85, 0, 0), (72, .iload_n 2, 1, 0, 0, 0), (73, .iconst 1, 1, 0, 0, 0), (74, .if_icmp .ne 10, 3, 84, 0, 0), (77, .aload_n 0, 1, 0, 0, 0), (78, .getfield 26, 3, 2, 3, 1059), (81, .goto 4, 3, 85, 0, 0), (84, .aconst_null, 1, 0, 0, 0), (85, .areturn, 1, 0, 0, 0), (86, .iload_n 2, 1, 0, 0, 0), (87, .ifCond .ne 10, 3, 97, 0, 0), (90, .aload_n 0, 1, 0, 0, 0), (91, .getfield 29, 3, 2, 4, 1061), (94, .goto 28, 3, 122, 0, 0), (97, .iload_n 2, 1, 0, 0, 0), (98, .iconst 1, 1, 0, 0, 0), (99, .if_icmp .ne 10, 3, 109, 0, 0), (102, .aload_n 0, 1, 0, 0, 0), (103, .getfield 32, 3, 2, 5, 1063), (106, .goto 16, 3, 122, 0, 0), (109, .iload_n 2, 1, 0, 0, 0), (110, .iconst 2, 1, 0, 0, 0), (111, .if_icmp .ne 10, 3, 121, 0, 0), (114, .aload_n 0, 1, 0, 0, 0), (115, .getfield 35, 3, 2, 6, 1065), (118, .goto 4, 3, 122, 0, 0), (121, .aconst_null, 1, 0, 0, 0), (122, .areturn, 1, 0, 0, 0), (123, .aconst_null, 1, 0, 0, 0), (124, .areturn, 1, 0, 0, 0)]
/-- LoveGlass$Port.clear -/
def zc_20 : List (Nat × zI) := [(0, .aload_n 0, 1, 0, 0, 0), (1, .getfield 14, 3, 2, 0, 1052), (4, .invokevirtual 65, 3, 38, 0, 2030), (7, .aload_n 0, 1, 0, 0, 0), (8, .getfield 20, 3, 2, 1, 1054), (11, .invokevirtual 65, 3, 38, 0, 2030), (14, .aload_n 0, 1, 0, 0, 0), (15, .getfield 23, 3, 2, 2, 1057), (18, .invokevirtual 65, 3, 38, 0, 2030), (21, .aload_n 0, 1, 0, 0, 0), (22, .getfield 26, 3, 2, 3, 1059), (25, .invokevirtual 65, 3, 38, 0, 2030), (28, .aload_n 0, 1, 0, 0, 0), (29, .getfield 29, 3, 2, 4, 1061), (32, .invokevirtual 65, 3, 38, 0, 2030), (35, .aload_n 0, 1, 0, 0, 0), (36, .getfield 32, 3, 2, 5, 1063), (39, .invokevirtual 65, 3, 38, 0, 2030), (42, .aload_n 0, 1, 0, 0, 0), (43, .getfield 35, 3, 2, 6, 1065), (46, .invokevirtual 65, 3, 38, 0, 2030), (49, .return_, 1, 0, 0, 0)]
/-- LoveGlass$Port.glasses -/
def zc_21 : List (Nat × zI) := [(0, .aload_n 0, 1, 0, 0, 0), (1, .getfield 14, 3, 2, 0, 1052), (4, .invokevirtual 45, 3, 32, 0, 2035), (7, .ireturn, 1, 0, 0, 0)]
/-- LoveGlass$Port.suitors -/
def zc_22 : List (Nat × zI) := [(0, .aload_n 0, 1, 0, 0, 0), (1, .getfield 23, 3, 2, 2, 1057), (4, .invokevirtual 45, 3, 32, 0, 2035), (7, .ireturn, 1, 0, 0, 0)]
/-- LoveGlass$Port.sayings -/
def zc_23 : List (Nat × zI) := [(0, .aload_n 0, 1, 0, 0, 0), (1, .getfield 29, 3, 2, 4, 1061), (4, .invokevirtual 45, 3, 32, 0, 2035), (7, .ireturn, 1, 0, 0, 0)]
/-- LoveGlass$Port.hasGlass -/
def zc_24 : List (Nat × zI) := [(0, .aload_n 0, 1, 0, 0, 0), (1, .getfield 14, 3, 2, 0, 1052), (4, .iload_n 1, 1, 0, 0, 0), (5, .invokevirtual 66, 3, 35, 0, 2122), (8, .ireturn, 1, 0, 0, 0)]
/-- LoveGlass$Port.hasSuitor -/
def zc_25 : List (Nat × zI) := [(0, .aload_n 0, 1, 0, 0, 0), (1, .getfield 23, 3, 2, 2, 1057), (4, .iload_n 1, 1, 0, 0, 0), (5, .invokevirtual 66, 3, 35, 0, 2122), (8, .ireturn, 1, 0, 0, 0)]
/-- LoveGlass$Port.hasSaying -/
def zc_26 : List (Nat × zI) := [(0, .aload_n 0, 1, 0, 0, 0), (1, .getfield 29, 3, 2, 4, 1061), (4, .iload_n 1, 1, 0, 0, 0), (5, .invokevirtual 66, 3, 35, 0, 2122), (8, .ireturn, 1, 0, 0, 0)]
/-- LoveGlass$Port.grains -/
def zc_27 : List (Nat × zI) := [(0, .bipush 10, 2, 0, 0, 0), (2, .aload_n 0, 1, 0, 0, 0), (3, .getfield 14, 3, 2, 0, 1052), (6, .iload_n 1, 1, 0, 0, 0), (7, .invokevirtual 41, 3, 36, 0, 2031), (10, .imul, 1, 0, 0, 0), (11, .istore_n 2, 1, 0, 0, 0), (12, .aload_n 0, 1, 0, 0, 0), (13, .getfield 20, 3, 2, 1, 1054), (16, .iload_n 1, 1, 0, 0, 0), (17, .invokevirtual 41, 3, 36, 0, 2031), (20, .iconst 2, 1, 0, 0, 0), (21, .if_icmp .ne 11, 3, 32, 0, 0), (24, .iload_n 2, 1, 0, 0, 0), (25, .iload_n 2, 1, 0, 0, 0), (26, .iconst 2, 1, 0, 0, 0), (27, .idiv, 1, 0, 0, 0), (28, .iadd, 1, 0, 0, 0), (29, .goto 4, 3, 33, 0, 0), (32, .iload_n 2, 1, 0, 0, 0), (33, .ireturn, 1, 0, 0, 0)]
/-- LoveGlass$Port.cost -/
def zc_28 : List (Nat × zI) := [(0, .aload_n 0, 1, 0, 0, 0), (1, .aload_n 0, 1, 0, 0, 0), (2, .getfield 26, 3, 2, 3, 1059), (5, .iload_n 2, 1, 0, 0, 0), (6, .invokevirtual 41, 3, 36, 0, 2031), (9, .aload_n 0, 1, 0, 0, 0), (10, .getfield 23, 3, 2, 2, 1057), (13, .iload_n 2, 1, 0, 0, 0), (14, .invokevirtual 41, 3, 36, 0, 2031), (17, .aload_n 0, 1, 0, 0, 0), (18, .getfield 20, 3, 2, 1, 1054), (21, .iload_n 3, 1, 0, 0, 0), (22, .invokevirtual 41, 3, 36, 0, 2031), (25, .iload_n 1, 1, 0, 0, 0), (26, .iload 4, 2, 0, 0, 0), (28, .invokevirtual 69, 3, 29, 0, 2165), (31, .ireturn, 1, 0, 0, 0)]
/-- LoveGlass$Port.costBy -/
def zc_29 : List (Nat × zI) := [(0, .aload_n 0, 1, 0, 0, 0), (1, .getfield 29, 3, 2, 4, 1061), (4, .iload 4, 2, 0, 0, 0), (6, .invokevirtual 41, 3, 36, 0, 2031), (9, .iload_n 2, 1, 0, 0, 0), (10, .imul, 1, 0, 0, 0), (11, .istore 6, 2, 0, 0, 0), (13, .iload_n 1, 1, 0, 0, 0), (14, .iconst 1, 1, 0, 0, 0), (15, .if_icmp .ne 24, 3, 39, 0, 0), (18, .aload_n 0, 1, 0, 0, 0), (19, .getfield 35, 3, 2, 6, 1065), (22, .iload 4, 2, 0, 0, 0), (24, .invokevirtual 41, 3, 36, 0, 2031), (27, .ifCond .ne 12, 3, 39, 0, 0), (30, .iload 6, 2, 0, 0, 0), (32, .iconst 2, 1, 0, 0, 0), (33, .idiv, 1, 0, 0, 0), (34, .istore 6, 2, 0, 0, 0), (36, .goto 34, 3, 70, 0, 0), (39, .iload_n 1, 1, 0, 0, 0), (40, .iconst 2, 1, 0, 0, 0), (41, .if_icmp .ne 17, 3, 58, 0, 0), (44, .iload 5, 2, 0, 0, 0), (46, .ifCond .ne 12, 3, 58, 0, 0), (49, .iload 6, 2, 0, 0, 0), (51, .iconst 2, 1, 0, 0, 0), (52, .imul, 1, 0, 0, 0), (53, .istore 6, 2, 0, 0, 0), (55, .goto 15, 3, 70, 0, 0), (58, .iload_n 1, 1, 0, 0, 0), (59, .iconst 3, 1, 0, 0, 0), (60, .if_icmp .ne 10, 3, 70, 0, 0), (63, .iload 6, 2, 0, 0, 0), (65, .iload 5, 2, 0, 0, 0), (67, .iadd, 1, 0, 0, 0), (68, .istore 6, 2, 0, 0, 0), (70, .iload_n 3, 1, 0, 0, 0), (71, .iconst 1, 1, 0, 0, 0), (72, .if_icmp .ne 10, 3, 82, 0, 0), (75, .iload 6, 2, 0, 0, 0), (77, .iconst 2, 1, 0, 0, 0), (78, .iadd, 1, 0, 0, 0), (79, .goto 5, 3, 84, 0, 0), (82, .iload 6, 2, 0, 0, 0), (84, .ireturn, 1, 0, 0, 0)]
/-- LoveGlass$Port.warmthOf -/
def zc_30 : List (Nat × zI) := [(0, .iconst 0, 1, 0, 0, 0), (1, .istore_n 2, 1, 0, 0, 0), (2, .iconst 0, 1, 0, 0, 0), (3, .istore_n 3, 1, 0, 0, 0), (4, .iload_n 3, 1, 0, 0, 0), (5, .aload_n 0, 1, 0, 0, 0), (6, .invokevirtual 73, 3, 23, 0, 2099), (9, .if_icmp .ge 28, 3, 37, 0, 0), (12, .iload_n 1, 1, 0, 0, 0), (13, .iload_n 3, 1, 0, 0, 0), (14, .invokestatic 76, 3, 114, 1, 2100), (17, .ifCond .eq 14, 3, 31, 0, 0), (20, .iload_n 2, 1, 0, 0, 0), (21, .aload_n 0, 1, 0, 0, 0), (22, .getfield 32, 3, 2, 5, 1063), (25, .iload_n 3, 1, 0, 0, 0), (26, .invokevirtual 41, 3, 36, 0, 2031), (29, .iadd, 1, 0, 0, 0), (30, .istore_n 2, 1, 0, 0, 0), (31, .iinc 3 1, 3, 0, 0, 0), (34, .goto (-30), 3, 4, 0, 0), (37, .iload_n 2, 1, 0, 0, 0), (38, .ireturn, 1, 0, 0, 0)]
/-- LoveGlass$Row.<init> -/
def zc_31 : List (Nat × zI) := [(0, .aload_n 0, 1, 0, 0, 0), (1, .invokespecial 3, 3, 0, 2, 1026), (4, .aload_n 0, 1, 0, 0, 0), (5, .iconst 0, 1, 0, 0, 0), (6, .iload_n 1, 1, 0, 0, 0), (7, .invokestatic 9, 3, 0, 3, 1027), (10, .newarray .int, 2, 0, 0, 1043), (12, .putfield 15, 3, 3, 0, 1030), (15, .aload_n 0, 1, 0, 0, 0), (16, .iload_n 2, 1, 0, 0, 0), (17, .putfield 21, 3, 3, 1, 1031), (20, .aload_n 0, 1, 0, 0, 0), (21, .iload_n 3, 1, 0, 0, 0), (22, .putfield 25, 3, 3, 2, 1032), (25, .return_, 1, 0, 0, 0)]
/-- LoveGlass$Row.size -/
def zc_32 : List (Nat × zI) := [(0, .aload_n 0, 1, 0, 0, 0), (1, .getfield 28, 3, 3, 3, 1033), (4, .ireturn, 1, 0, 0, 0)]
/-- LoveGlass$Row.isFull -/
def zc_33 : List (Nat × zI) := [(0, .aload_n 0, 1, 0, 0, 0), (1, .getfield 28, 3, 3, 3, 1033), (4, .aload_n 0, 1, 0, 0, 0), (5, .getfield 15, 3, 3, 0, 1030), (8, .arraylength, 1, 0, 0, 0), (9, .if_icmp .lt 7, 3, 16, 0, 0), (12, .iconst 1, 1, 0, 0, 0), (13, .goto 4, 3, 17, 0, 0), (16, .iconst 0, 1, 0, 0, 0), (17, .ireturn, 1, 0, 0, 0)]
/-- LoveGlass$Row.fits -/
def zc_34 : List (Nat × zI) := [(0, .iload_n 1, 1, 0, 0, 0), (1, .aload_n 0, 1, 0, 0, 0), (2, .getfield 21, 3, 3, 1, 1031), (5, .if_icmp .lt 15, 3, 20, 0, 0), (8, .iload_n 1, 1, 0, 0, 0), (9, .aload_n 0, 1, 0, 0, 0), (10, .getfield 25, 3, 3, 2, 1032), (13, .if_icmp .gt 7, 3, 20, 0, 0), (16, .iconst 1, 1, 0, 0, 0), (17, .goto 4, 3, 21, 0, 0), (20, .iconst 0, 1, 0, 0, 0), (21, .ireturn, 1, 0, 0, 0)]
/-- LoveGlass$Row.has -/
def zc_35 : List (Nat × zI) := [(0, .iload_n 1, 1, 0, 0, 0), (1, .ifCond .lt 15, 3, 16, 0, 0), (4, .iload_n 1, 1, 0, 0, 0), (5, .aload_n 0, 1, 0, 0, 0), (6, .getfield 28, 3, 3, 3, 1033), (9, .if_icmp .ge 7, 3, 16, 0, 0), (12, .iconst 1, 1, 0, 0, 0), (13, .goto 4, 3, 17, 0, 0), (16, .iconst 0, 1, 0, 0, 0), (17, .ireturn, 1, 0, 0, 0)]
/-- LoveGlass$Row.at -/
def zc_36 : List (Nat × zI) := [(0, .iload_n 1, 1, 0, 0, 0), (1, .ifCond .lt 29, 3, 30, 0, 0), (4, .iload_n 1, 1, 0, 0, 0), (5, .aload_n 0, 1, 0, 0, 0), (6, .getfield 28, 3, 3, 3, 1033), (9, .if_icmp .ge 21, 3, 30, 0, 0), (12, .iload_n 1, 1, 0, 0, 0), (13, .aload_n 0, 1, 0, 0, 0), (14, .getfield 15, 3, 3, 0, 1030), (17, .arraylength, 1, 0, 0, 0), (18, .if_icmp .ge 12, 3, 30, 0, 0), (21, .aload_n 0, 1, 0, 0, 0), (22, .getfield 15, 3, 3, 0, 1030), (25, .iload_n 1, 1, 0, 0, 0), (26, .iaload, 1, 0, 0, 0), (27, .goto 5, 3, 32, 0, 0), (30, .bipush (-9), 2, 0, 0, 0), (32, .ireturn, 1, 0, 0, 0)]
/-- LoveGlass$Row.put -/
def zc_37 : List (Nat × zI) := [(0, .aload_n 0, 1, 0, 0, 0), (1, .getfield 28, 3, 3, 3, 1033), (4, .ifCond .lt 35, 3, 39, 0, 0), (7, .aload_n 0, 1, 0, 0, 0), (8, .getfield 28, 3, 3, 3, 1033), (11, .aload_n 0, 1, 0, 0, 0), (12, .getfield 15, 3, 3, 0, 1030), (15, .arraylength, 1, 0, 0, 0), (16, .if_icmp .ge 23, 3, 39, 0, 0), (19, .aload_n 0, 1, 0, 0, 0), (20, .getfield 15, 3, 3, 0, 1030), (23, .aload_n 0, 1, 0, 0, 0), (24, .getfield 28, 3, 3, 3, 1033), (27, .iload_n 1, 1, 0, 0, 0), (28, .iastore, 1, 0, 0, 0), (29, .aload_n 0, 1, 0, 0, 0), (30, .dup, 1, 0, 0, 0), (31, .getfield 28, 3, 3, 3, 1033), (34, .iconst 1, 1, 0, 0, 0), (35, .iadd, 1, 0, 0, 0), (36, .putfield 28, 3, 3, 3, 1033), (39, .return_, 1, 0, 0, 0)]
/-- LoveGlass$Row.clear -/
def zc_38 : List (Nat × zI) := [(0, .aload_n 0, 1, 0, 0, 0), (1, .iconst 0, 1, 0, 0, 0), (2, .putfield 28, 3, 3, 3, 1033), (5, .return_, 1, 0, 0, 0)]
/-- LoveGlass$Row.copyFrom -/
def zc_39 : List (Nat × zI) := [(0, .aload_n 0, 1, 0, 0, 0), (1, .invokevirtual 31, 3, 38, 0, 2203), (4, .iconst 0, 1, 0, 0, 0), (5, .istore_n 2, 1, 0, 0, 0), (6, .iload_n 2, 1, 0, 0, 0), (7, .aload_n 1, 1, 0, 0, 0), (8, .getfield 28, 3, 3, 3, 1033), (11, .if_icmp .ge 18, 3, 29, 0, 0), (14, .aload_n 0, 1, 0, 0, 0), (15, .aload_n 1, 1, 0, 0, 0), (16, .iload_n 2, 1, 0, 0, 0), (17, .invokevirtual 34, 3, 36, 0, 2204), (20, .invokevirtual 38, 3, 37, 0, 2205), (23, .iinc 2 1, 3, 0, 0, 0), (26, .goto (-20), 3, 6, 0, 0), (29, .return_, 1, 0, 0, 0)]
/-- LoveGlass$Run.<init> -/
def zc_40 : List (Nat × zI) := [(0, .aload_n 0, 1, 0, 0, 0), (1, .invokespecial 3, 3, 0, 2, 1089), (4, .aload_n 0, 1, 0, 0, 0), (5, .bipush (-9), 2, 0, 0, 0), (7, .putfield 9, 3, 4, 0, 1092), (10, .aload_n 0, 1, 0, 0, 0), (11, .bipush (-9), 2, 0, 0, 0), (13, .putfield 15, 3, 4, 1, 1095), (16, .aload_n 0, 1, 0, 0, 0), (17, .new 18, 3, 3, 0, 1090), (20, .dup, 1, 0, 0, 0), (21, .bipush 6, 2, 0, 0, 0), (23, .iconst 0, 1, 0, 0, 0), (24, .iconst 5, 1, 0, 0, 0), (25, .invokespecial 20, 3, 31, 0, 1091), (28, .putfield 23, 3, 4, 3, 1101), (31, .return_, 1, 0, 0, 0)]
/-- LoveGlass$Run.stop -/
def zc_41 : List (Nat × zI) := [(0, .aload_n 0, 1, 0, 0, 0), (1, .bipush (-9), 2, 0, 0, 0), (3, .putfield 9, 3, 4, 0, 1092), (6, .aload_n 0, 1, 0, 0, 0), (7, .bipush (-9), 2, 0, 0, 0), (9, .putfield 15, 3, 4, 1, 1095), (12, .aload_n 0, 1, 0, 0, 0), (13, .iconst 0, 1, 0, 0, 0), (14, .putfield 27, 3, 4, 2, 1098), (17, .aload_n 0, 1, 0, 0, 0), (18, .getfield 23, 3, 4, 3, 1101), (21, .invokevirtual 30, 3, 38, 0, 2051), (24, .return_, 1, 0, 0, 0)]
/-- LoveGlass$Run.start -/
def zc_42 : List (Nat × zI) := [(0, .aload_n 0, 1, 0, 0, 0), (1, .iload_n 2, 1, 0, 0, 0), (2, .putfield 9, 3, 4, 0, 1092), (5, .aload_n 0, 1, 0, 0, 0), (6, .iload_n 3, 1, 0, 0, 0), (7, .putfield 15, 3, 4, 1, 1095), (10, .aload_n 0, 1, 0, 0, 0), (11, .aload_n 1, 1, 0, 0, 0), (12, .iload_n 2, 1, 0, 0, 0), (13, .invokevirtual 33, 3, 27, 0, 2213), (16, .putfield 27, 3, 4, 2, 1098), (19, .aload_n 0, 1, 0, 0, 0), (20, .getfield 23, 3, 4, 3, 1101), (23, .invokevirtual 30, 3, 38, 0, 2051), (26, .return_, 1, 0, 0, 0)]
/-- LoveGlass$Run.copyFrom -/
def zc_43 : List (Nat × zI) := [(0, .aload_n 0, 1, 0, 0, 0), (1, .aload_n 1, 1, 0, 0, 0), (2, .getfield 9, 3, 4, 0, 1092), (5, .putfield 9, 3, 4, 0, 1092), (8, .aload_n 0, 1, 0, 0, 0), (9, .aload_n 1, 1, 0, 0, 0), (10, .getfield 15, 3, 4, 1, 1095), (13, .putfield 15, 3, 4, 1, 1095), (16, .aload_n 0, 1, 0, 0, 0), (17, .aload_n 1, 1, 0, 0, 0), (18, .getfield 27, 3, 4, 2, 1098), (21, .putfield 27, 3, 4, 2, 1098), (24, .aload_n 0, 1, 0, 0, 0), (25, .getfield 23, 3, 4, 3, 1101), (28, .aload_n 1, 1, 0, 0, 0), (29, .getfield 23, 3, 4, 3, 1101), (32, .invokevirtual 39, 3, 39, 0, 2199), (35, .return_, 1, 0, 0, 0)]
/-- LoveGlass$Run.runs -/
def zc_44 : List (Nat × zI) := [(0, .aload_n 0, 1, 0, 0, 0), (1, .getfield 9, 3, 4, 0, 1092), (4, .bipush (-9), 2, 0, 0, 0), (6, .if_icmp .eq 7, 3, 13, 0, 0), (9, .iconst 1, 1, 0, 0, 0), (10, .goto 4, 3, 14, 0, 0), (13, .iconst 0, 1, 0, 0, 0), (14, .ireturn, 1, 0, 0, 0)]
/-- LoveGlass$Run.size -/
def zc_45 : List (Nat × zI) := [(0, .aload_n 0, 1, 0, 0, 0), (1, .getfield 23, 3, 4, 3, 1101), (4, .invokevirtual 43, 3, 32, 0, 2089), (7, .ireturn, 1, 0, 0, 0)]
/-- LoveGlass$Run.spoken -/
def zc_46 : List (Nat × zI) := [(0, .iconst 0, 1, 0, 0, 0), (1, .istore_n 1, 1, 0, 0, 0), (2, .iconst 0, 1, 0, 0, 0), (3, .istore_n 2, 1, 0, 0, 0), (4, .iload_n 2, 1, 0, 0, 0), (5, .aload_n 0, 1, 0, 0, 0), (6, .getfield 23, 3, 4, 3, 1101), (9, .invokevirtual 43, 3, 32, 0, 2089), (12, .if_icmp .ge 22, 3, 34, 0, 0), (15, .iload_n 1, 1, 0, 0, 0), (16, .iconst 1, 1, 0, 0, 0), (17, .aload_n 0, 1, 0, 0, 0), (18, .getfield 23, 3, 4, 3, 1101), (21, .iload_n 2, 1, 0, 0, 0), (22, .invokevirtual 47, 3, 36, 0, 2094), (25, .ishl, 1, 0, 0, 0), (26, .ior, 1, 0, 0, 0), (27, .istore_n 1, 1, 0, 0, 0), (28, .iinc 2 1, 3, 0, 0, 0), (31, .goto (-27), 3, 4, 0, 0), (34, .iload_n 1, 1, 0, 0, 0), (35, .ireturn, 1, 0, 0, 0)]
/-- LoveGlass$Run.hasSpoken -/
def zc_47 : List (Nat × zI) := [(0, .aload_n 0, 1, 0, 0, 0), (1, .invokevirtual 50, 3, 46, 0, 2155), (4, .iload_n 1, 1, 0, 0, 0), (5, .invokestatic 53, 3, 114, 1, 2156), (8, .ireturn, 1, 0, 0, 0)]
/-- LoveGlass$Run.stage -/
def zc_48 : List (Nat × zI) := [(0, .iconst 0, 1, 0, 0, 0), (1, .istore_n 2, 1, 0, 0, 0), (2, .iconst 0, 1, 0, 0, 0), (3, .istore_n 3, 1, 0, 0, 0), (4, .iload_n 3, 1, 0, 0, 0), (5, .aload_n 0, 1, 0, 0, 0), (6, .getfield 23, 3, 4, 3, 1101), (9, .invokevirtual 43, 3, 32, 0, 2089), (12, .if_icmp .ge 29, 3, 41, 0, 0), (15, .iload_n 2, 1, 0, 0, 0), (16, .aload_n 1, 1, 0, 0, 0), (17, .getfield 57, 3, 2, 6, 1067), (20, .aload_n 0, 1, 0, 0, 0), (21, .getfield 23, 3, 4, 3, 1101), (24, .iload_n 3, 1, 0, 0, 0), (25, .invokevirtual 47, 3, 36, 0, 2094), (28, .invokevirtual 47, 3, 36, 0, 2094), (31, .invokestatic 60, 3, 115, 1, 2111), (34, .istore_n 2, 1, 0, 0, 0), (35, .iinc 3 1, 3, 0, 0, 0), (38, .goto (-34), 3, 4, 0, 0), (41, .iload_n 2, 1, 0, 0, 0), (42, .ireturn, 1, 0, 0, 0)]
/-- LoveGlass$Run.declares -/
def zc_49 : List (Nat × zI) := [(0, .aload_n 0, 1, 0, 0, 0), (1, .aload_n 1, 1, 0, 0, 0), (2, .invokevirtual 64, 3, 48, 0, 2107), (5, .iconst 3, 1, 0, 0, 0), (6, .if_icmp .ne 7, 3, 13, 0, 0), (9, .iconst 1, 1, 0, 0, 0), (10, .goto 4, 3, 14, 0, 0), (13, .iconst 0, 1, 0, 0, 0), (14, .ireturn, 1, 0, 0, 0)]
/-- LoveGlass$Run.cost -/
def zc_50 : List (Nat × zI) := [(0, .aload_n 1, 1, 0, 0, 0), (1, .iload_n 2, 1, 0, 0, 0), (2, .aload_n 0, 1, 0, 0, 0), (3, .getfield 15, 3, 4, 1, 1095), (6, .aload_n 0, 1, 0, 0, 0), (7, .getfield 9, 3, 4, 0, 1092), (10, .aload_n 0, 1, 0, 0, 0), (11, .getfield 23, 3, 4, 3, 1101), (14, .invokevirtual 43, 3, 32, 0, 2089), (17, .invokevirtual 68, 3, 28, 0, 2161), (20, .ireturn, 1, 0, 0, 0)]
/-- LoveGlass$Run.speak -/
def zc_51 : List (Nat × zI) := [(0, .aload_n 0, 1, 0, 0, 0), (1, .invokevirtual 72, 3, 44, 0, 2223), (4, .ifCond .eq 32, 3, 36, 0, 0), (7, .aload_n 1, 1, 0, 0, 0), (8, .iload_n 2, 1, 0, 0, 0), (9, .invokevirtual 76, 3, 26, 0, 2224), (12, .ifCond .eq 24, 3, 36, 0, 0), (15, .aload_n 0, 1, 0, 0, 0), (16, .iload_n 2, 1, 0, 0, 0), (17, .invokevirtual 80, 3, 47, 0, 2225), (20, .ifCond .ne 16, 3, 36, 0, 0), (23, .aload_n 0, 1, 0, 0, 0), (24, .aload_n 1, 1, 0, 0, 0), (25, .iload_n 2, 1, 0, 0, 0), (26, .invokevirtual 83, 3, 50, 0, 2226), (29, .aload_n 0, 1, 0, 0, 0), (30, .getfield 27, 3, 4, 2, 1098), (33, .if_icmp .le 5, 3, 38, 0, 0), (36, .iconst 0, 1, 0, 0, 0), (37, .ireturn, 1, 0, 0, 0), (38, .aload_n 0, 1, 0, 0, 0), (39, .dup, 1, 0, 0, 0), (40, .getfield 27, 3, 4, 2, 1098), (43, .aload_n 0, 1, 0, 0, 0), (44, .aload_n 1, 1, 0, 0, 0), (45, .iload_n 2, 1, 0, 0, 0), (46, .invokevirtual 83, 3, 50, 0, 2226), (49, .isub, 1, 0, 0, 0), (50, .putfield 27, 3, 4, 2, 1098), (53, .aload_n 0, 1, 0, 0, 0), (54, .getfield 23, 3, 4, 3, 1101), (57, .iload_n 2, 1, 0, 0, 0), (58, .invokevirtual 86, 3, 37, 0, 2227), (61, .iconst 1, 1, 0, 0, 0), (62, .ireturn, 1, 0, 0, 0)]
/-- LoveGlass$Run.rest -/
def zc_52 : List (Nat × zI) := [(0, .aload_n 1, 1, 0, 0, 0), (1, .getfield 90, 3, 2, 1, 1056), (4, .aload_n 0, 1, 0, 0, 0), (5, .getfield 9, 3, 4, 0, 1092), (8, .invokevirtual 47, 3, 36, 0, 2094), (11, .iconst 3, 1, 0, 0, 0), (12, .if_icmp .ne 7, 3, 19, 0, 0), (15, .iconst 0, 1, 0, 0, 0), (16, .goto 4, 3, 20, 0, 0), (19, .iconst 1, 1, 0, 0, 0), (20, .istore_n 2, 1, 0, 0, 0), (21, .aload_n 0, 1, 0, 0, 0), (22, .invokevirtual 72, 3, 44, 0, 2223), (25, .ifCond .eq 11, 3, 36, 0, 0), (28, .iload_n 2, 1, 0, 0, 0), (29, .aload_n 0, 1, 0, 0, 0), (30, .getfield 27, 3, 4, 2, 1098), (33, .if_icmp .le 5, 3, 38, 0, 0), (36, .iconst 0, 1, 0, 0, 0), (37, .ireturn, 1, 0, 0, 0), (38, .aload_n 0, 1, 0, 0, 0), (39, .dup, 1, 0, 0, 0), (40, .getfield 27, 3, 4, 2, 1098), (43, .iload_n 2, 1, 0, 0, 0), (44, .isub, 1, 0, 0, 0), (45, .putfield 27, 3, 4, 2, 1098), (48, .iconst 1, 1, 0, 0, 0), (49, .ireturn, 1, 0, 0, 0)]
/-- LoveGlass$Run.lose -/
def zc_53 : List (Nat × zI) := [(0, .aload_n 0, 1, 0, 0, 0), (1, .invokevirtual 72, 3, 44, 0, 2223), (4, .ifCond .eq 11, 3, 15, 0, 0), (7, .aload_n 0, 1, 0, 0, 0), (8, .getfield 27, 3, 4, 2, 1098), (11, .iconst 1, 1, 0, 0, 0), (12, .if_icmp .ge 5, 3, 17, 0, 0), (15, .iconst 0, 1, 0, 0, 0), (16, .ireturn, 1, 0, 0, 0), (17, .aload_n 0, 1, 0, 0, 0), (18, .iconst 0, 1, 0, 0, 0), (19, .aload_n 0, 1, 0, 0, 0), (20, .getfield 27, 3, 4, 2, 1098), (23, .iload_n 1, 1, 0, 0, 0), (24, .isub, 1, 0, 0, 0), (25, .invokestatic 93, 3, 0, 3, 3008), (28, .putfield 27, 3, 4, 2, 1098), (31, .iconst 1, 1, 0, 0, 0), (32, .ireturn, 1, 0, 0, 0)]
/-- LoveGlass$Shelf.<init> -/
def zc_54 : List (Nat × zI) := [(0, .aload_n 0, 1, 0, 0, 0), (1, .invokespecial 1, 3, 0, 2, 1123), (4, .aload_n 0, 1, 0, 0, 0), (5, .iconst 0, 1, 0, 0, 0), (6, .iload_n 1, 1, 0, 0, 0), (7, .invokestatic 7, 3, 0, 3, 1124), (10, .anewarray 13, 3, 4, 0, 1125), (13, .putfield 15, 3, 5, 0, 1128), (16, .iconst 0, 1, 0, 0, 0), (17, .istore_n 2, 1, 0, 0, 0), (18, .iload_n 2, 1, 0, 0, 0), (19, .aload_n 0, 1, 0, 0, 0), (20, .getfield 15, 3, 5, 0, 1128), (23, .arraylength, 1, 0, 0, 0), (24, .if_icmp .ge 22, 3, 46, 0, 0), (27, .aload_n 0, 1, 0, 0, 0), (28, .getfield 15, 3, 5, 0, 1128), (31, .iload_n 2, 1, 0, 0, 0), (32, .new 13, 3, 4, 0, 1125), (35, .dup, 1, 0, 0, 0), (36, .invokespecial 21, 3, 40, 1, 1127), (39, .aastore, 1, 0, 0, 0), (40, .iinc 2 1, 3, 0, 0, 0), (43, .goto (-25), 3, 18, 0, 0), (46, .return_, 1, 0, 0, 0)]
/-- LoveGlass$Shelf.at -/
def zc_55 : List (Nat × zI) := [(0, .iload_n 1, 1, 0, 0, 0), (1, .ifCond .lt 21, 3, 22, 0, 0), (4, .iload_n 1, 1, 0, 0, 0), (5, .aload_n 0, 1, 0, 0, 0), (6, .getfield 15, 3, 5, 0, 1128), (9, .arraylength, 1, 0, 0, 0), (10, .if_icmp .ge 12, 3, 22, 0, 0), (13, .aload_n 0, 1, 0, 0, 0), (14, .getfield 15, 3, 5, 0, 1128), (17, .iload_n 1, 1, 0, 0, 0), (18, .aaload, 1, 0, 0, 0), (19, .goto 4, 3, 23, 0, 0), (22, .aconst_null, 1, 0, 0, 0), (23, .areturn, 1, 0, 0, 0)]
/-- LoveGlass$Shelf.layDown -/
def zc_56 : List (Nat × zI) := [(0, .aload_n 0, 1, 0, 0, 0), (1, .iload_n 1, 1, 0, 0, 0), (2, .invokevirtual 22, 3, 55, 0, 2191), (5, .astore_n 3, 1, 0, 0, 0), (6, .aload_n 3, 1, 0, 0, 0), (7, .ifnull 8, 3, 15, 0, 0), (10, .aload_n 3, 1, 0, 0, 0), (11, .aload_n 2, 1, 0, 0, 0), (12, .invokevirtual 26, 3, 43, 0, 2195), (15, .return_, 1, 0, 0, 0)]
/-- LoveGlass$Shelf.fetch -/
def zc_57 : List (Nat × zI) := [(0, .aload_n 0, 1, 0, 0, 0), (1, .iload_n 1, 1, 0, 0, 0), (2, .invokevirtual 22, 3, 55, 0, 2191), (5, .astore_n 3, 1, 0, 0, 0), (6, .aload_n 3, 1, 0, 0, 0), (7, .ifnull 8, 3, 15, 0, 0), (10, .aload_n 2, 1, 0, 0, 0), (11, .aload_n 3, 1, 0, 0, 0), (12, .invokevirtual 26, 3, 43, 0, 2195), (15, .return_, 1, 0, 0, 0)]
/-- LoveGlass$Timings.<init> -/
def zc_58 : List (Nat × zI) := [(0, .aload_n 0, 1, 0, 0, 0), (1, .invokespecial 3, 3, 0, 2, 1147), (4, .aload_n 0, 1, 0, 0, 0), (5, .new 9, 3, 3, 0, 1148), (8, .dup, 1, 0, 0, 0), (9, .bipush 6, 2, 0, 0, 0), (11, .iconst 0, 1, 0, 0, 0), (12, .iconst 5, 1, 0, 0, 0), (13, .invokespecial 11, 3, 31, 0, 1149), (16, .putfield 14, 3, 6, 0, 1150), (19, .aload_n 0, 1, 0, 0, 0), (20, .new 9, 3, 3, 0, 1148), (23, .dup, 1, 0, 0, 0), (24, .bipush 6, 2, 0, 0, 0), (26, .iconst 0, 1, 0, 0, 0), (27, .iconst 5, 1, 0, 0, 0), (28, .invokespecial 11, 3, 31, 0, 1149), (31, .putfield 20, 3, 6, 1, 1151), (34, .aload_n 0, 1, 0, 0, 0), (35, .new 9, 3, 3, 0, 1148), (38, .dup, 1, 0, 0, 0), (39, .bipush 6, 2, 0, 0, 0), (41, .iconst 1, 1, 0, 0, 0), (42, .iconst 4, 1, 0, 0, 0), (43, .invokespecial 11, 3, 31, 0, 1149), (46, .putfield 23, 3, 6, 2, 1152), (49, .aload_n 0, 1, 0, 0, 0), (50, .new 9, 3, 3, 0, 1148), (53, .dup, 1, 0, 0, 0), (54, .bipush 6, 2, 0, 0, 0), (56, .iconst 0, 1, 0, 0, 0), (57, .bipush 99, 2, 0, 0, 0), (59, .invokespecial 11, 3, 31, 0, 1149), (62, .putfield 26, 3, 6, 3, 1153), (65, .return_, 1, 0, 0, 0)]
/-- LoveGlass$Timings.size -/
def zc_59 : List (Nat × zI) := [(0, .aload_n 0, 1, 0, 0, 0), (1, .getfield 14, 3, 6, 0, 1150), (4, .invokevirtual 29, 3, 32, 0, 2080), (7, .ireturn, 1, 0, 0, 0)]
/-- LoveGlass$Timings.isFull -/
def zc_60 : List (Nat × zI) := [(0, .aload_n 0, 1, 0, 0, 0), (1, .getfield 14, 3, 6, 0, 1150), (4, .invokevirtual 33, 3, 33, 0, 3160), (7, .ireturn, 1, 0, 0, 0)]
/-- LoveGlass$Timings.clear -/
def zc_61 : List (Nat × zI) := [(0, .aload_n 0, 1, 0, 0, 0), (1, .getfield 14, 3, 6, 0, 1150), (4, .invokevirtual 37, 3, 38, 0, 3174), (7, .aload_n 0, 1, 0, 0, 0), (8, .getfield 20, 3, 6, 1, 1151), (11, .invokevirtual 37, 3, 38, 0, 3174), (14, .aload_n 0, 1, 0, 0, 0), (15, .getfield 23, 3, 6, 2, 1152), (18, .invokevirtual 37, 3, 38, 0, 3174), (21, .aload_n 0, 1, 0, 0, 0), (22, .getfield 26, 3, 6, 3, 1153), (25, .invokevirtual 37, 3, 38, 0, 3174), (28, .return_, 1, 0, 0, 0)]
/-- LoveGlass$Timings.fits -/
def zc_62 : List (Nat × zI) := [(0, .aload_n 0, 1, 0, 0, 0), (1, .getfield 20, 3, 6, 1, 1151), (4, .iload_n 1, 1, 0, 0, 0), (5, .invokevirtual 40, 3, 34, 0, 3155), (8, .ifCond .eq 29, 3, 37, 0, 0), (11, .aload_n 0, 1, 0, 0, 0), (12, .getfield 23, 3, 6, 2, 1152), (15, .iload_n 2, 1, 0, 0, 0), (16, .invokevirtual 40, 3, 34, 0, 3155), (19, .ifCond .eq 18, 3, 37, 0, 0), (22, .aload_n 0, 1, 0, 0, 0), (23, .getfield 26, 3, 6, 3, 1153), (26, .iload_n 3, 1, 0, 0, 0), (27, .invokevirtual 40, 3, 34, 0, 3155), (30, .ifCond .eq 7, 3, 37, 0, 0), (33, .iconst 1, 1, 0, 0, 0), (34, .goto 4, 3, 38, 0, 0), (37, .iconst 0, 1, 0, 0, 0), (38, .ireturn, 1, 0, 0, 0)]
/-- LoveGlass$Timings.put -/
def zc_63 : List (Nat × zI) := [(0, .aload_n 0, 1, 0, 0, 0), (1, .getfield 14, 3, 6, 0, 1150), (4, .iload_n 1, 1, 0, 0, 0), (5, .invokevirtual 44, 3, 37, 0, 3165), (8, .aload_n 0, 1, 0, 0, 0), (9, .getfield 20, 3, 6, 1, 1151), (12, .iload_n 2, 1, 0, 0, 0), (13, .invokevirtual 44, 3, 37, 0, 3165), (16, .aload_n 0, 1, 0, 0, 0), (17, .getfield 23, 3, 6, 2, 1152), (20, .iload_n 3, 1, 0, 0, 0), (21, .invokevirtual 44, 3, 37, 0, 3165), (24, .aload_n 0, 1, 0, 0, 0), (25, .getfield 26, 3, 6, 3, 1153), (28, .iload 4, 2, 0, 0, 0), (30, .invokevirtual 44, 3, 37, 0, 3165), (33, .return_, 1, 0, 0, 0)]
/-- LoveGlass$Timings.areThoseOf -/
def zc_64 : List (Nat × zI) := [(0, .iconst 0, 1, 0, 0, 0), (1, .istore_n 3, 1, 0, 0, 0), (2, .iload_n 3, 1, 0, 0, 0), (3, .aload_n 0, 1, 0, 0, 0), (4, .invokevirtual 48, 3, 59, 0, 3183), (7, .if_icmp .ge 65, 3, 72, 0, 0), (10, .aload_n 0, 1, 0, 0, 0), (11, .getfield 14, 3, 6, 0, 1150), (14, .iload_n 3, 1, 0, 0, 0), (15, .invokevirtual 49, 3, 36, 0, 3184), (18, .istore 4, 2, 0, 0, 0), (20, .aload_n 1, 1, 0, 0, 0), (21, .iload 4, 2, 0, 0, 0), (23, .invokevirtual 53, 3, 26, 0, 3185), (26, .ifCond .eq 40, 3, 66, 0, 0), (29, .aload_n 1, 1, 0, 0, 0), (30, .iload_n 2, 1, 0, 0, 0), (31, .aload_n 0, 1, 0, 0, 0), (32, .getfield 23, 3, 6, 2, 1152), (35, .iload_n 3, 1, 0, 0, 0), (36, .invokevirtual 49, 3, 36, 0, 3184), (39, .iconst 0, 1, 0, 0, 0), (40, .iload 4, 2, 0, 0, 0), (42, .aload_n 0, 1, 0, 0, 0), (43, .getfield 20, 3, 6, 1, 1151), (46, .iload_n 3, 1, 0, 0, 0), (47, .invokevirtual 49, 3, 36, 0, 3184), (50, .invokevirtual 58, 3, 29, 0, 3186), (53, .aload_n 0, 1, 0, 0, 0), (54, .getfield 26, 3, 6, 3, 1153), (57, .iload_n 3, 1, 0, 0, 0), (58, .invokevirtual 49, 3, 36, 0, 3184), (61, .if_icmp .eq 5, 3, 66, 0, 0), (64, .iconst 0, 1, 0, 0, 0), (65, .ireturn, 1, 0, 0, 0), (66, .iinc 3 1, 3, 0, 0, 0), (69, .goto (-67), 3, 2, 0, 0), (72, .iconst 1, 1, 0, 0, 0), (73, .ireturn, 1, 0, 0, 0)]
/-- LoveGlass.<init> -/
def zc_65 : List (Nat × zI) := [(0, .aload_n 0, 1, 0, 0, 0), (1, .invokespecial 3, 3, 0, 2, 1018), (4, .aload_n 0, 1, 0, 0, 0), (5, .new 9, 3, 3, 0, 1021), (8, .dup, 1, 0, 0, 0), (9, .bipush 56, 2, 0, 0, 0), (11, .iconst 0, 1, 0, 0, 0), (12, .sipush 255, 3, 0, 0, 0), (15, .invokespecial 11, 3, 31, 0, 1023), (18, .putfield 14, 3, 7, 0, 1193), (21, .aload_n 0, 1, 0, 0, 0), (22, .new 18, 3, 2, 0, 1044), (25, .dup, 1, 0, 0, 0), (26, .invokespecial 20, 3, 17, 1, 1046), (29, .putfield 21, 3, 7, 1, 1194), (32, .aload_n 0, 1, 0, 0, 0), (33, .new 18, 3, 2, 0, 1044), (36, .dup, 1, 0, 0, 0), (37, .invokespecial 20, 3, 17, 1, 1046), (40, .putfield 25, 3, 7, 2, 1195), (43, .aload_n 0, 1, 0, 0, 0), (44, .new 28, 3, 4, 0, 1084), (47, .dup, 1, 0, 0, 0), (48, .invokespecial 30, 3, 40, 1, 1086), (51, .putfield 31, 3, 7, 3, 1196), (54, .aload_n 0, 1, 0, 0, 0), (55, .new 28, 3, 4, 0, 1084), (58, .dup, 1, 0, 0, 0), (59, .invokespecial 30, 3, 40, 1, 1086), (62, .putfield 35, 3, 7, 4, 1197), (65, .aload_n 0, 1, 0, 0, 0), (66, .new 38, 3, 0, 0, 1112), (69, .dup, 1, 0, 0, 0), (70, .invokespecial 40, 3, 0, 1, 1114), (73, .putfield 41, 3, 7, 5, 1198), (76, .aload_n 0, 1, 0, 0, 0), (77, .new 45, 3, 6, 0, 1142), (80, .dup, 1, 0, 0, 0), (81, .invokespecial 47, 3, 58, 1, 1144), (84, .putfield 48, 3, 7, 6, 1199), (87, .aload_n 0, 1, 0, 0, 0), (88, .new 52, 3, 1, 0, 1163), (91, .dup, 1, 0, 0, 0), (92, .invokespecial 54, 3, 5, 1, 1165), (95, .putfield 55, 3, 7, 7, 1200), (98, .aload_n 0, 1, 0, 0, 0), (99, .new 59, 3, 5, 0, 1191), (102, .dup, 1, 0, 0, 0), (103, .iconst 2, 1, 0, 0, 0), (104, .invokespecial 61, 3, 54, 0, 1192), (107, .putfield 64, 3, 7, 8, 1201), (110, .aload_n 0, 1, 0, 0, 0), (111, .iconst 4, 1, 0, 0, 0), (112, .newarray .int, 2, 0, 0, 1043), (114, .putfield 68, 3, 7, 11, 1204), (117, .return_, 1, 0, 0, 0)]
/-- LoveGlass.write -/
def zc_66 : List (Nat × zI) := [(0, .aload_n 0, 1, 0, 0, 0), (1, .getfield 14, 3, 7, 0, 1193), (4, .iload_n 1, 1, 0, 0, 0), (5, .invokevirtual 72, 3, 34, 0, 1234), (8, .ifCond .ne 6, 3, 14, 0, 0), (11, .bipush (-2), 2, 0, 0, 0), (13, .ireturn, 1, 0, 0, 0), (14, .aload_n 0, 1, 0, 0, 0), (15, .getfield 14, 3, 7, 0, 1193), (18, .invokevirtual 76, 3, 33, 0, 1238), (21, .ifCond .eq 6, 3, 27, 0, 0), (24, .bipush (-4), 2, 0, 0, 0), (26, .ireturn, 1, 0, 0, 0), (27, .aload_n 0, 1, 0, 0, 0), (28, .getfield 14, 3, 7, 0, 1193), (31, .iload_n 1, 1, 0, 0, 0), (32, .invokevirtual 80, 3, 37, 0, 2002), (35, .aload_n 0, 1, 0, 0, 0), (36, .getfield 14, 3, 7, 0, 1193), (39, .invokevirtual 83, 3, 32, 0, 2006), (42, .ireturn, 1, 0, 0, 0)]
/-- LoveGlass.wipe -/
def zc_67 : List (Nat × zI) := [(0, .aload_n 0, 1, 0, 0, 0), (1, .getfield 14, 3, 7, 0, 1193), (4, .invokevirtual 83, 3, 32, 0, 2006), (7, .istore_n 1, 1, 0, 0, 0), (8, .aload_n 0, 1, 0, 0, 0), (9, .getfield 14, 3, 7, 0, 1193), (12, .invokevirtual 87, 3, 38, 0, 2014), (15, .iload_n 1, 1, 0, 0, 0), (16, .ireturn, 1, 0, 0, 0)]
/-- LoveGlass.fault -/
def zc_68 : List (Nat × zI) := [(0, .aload_n 0, 1, 0, 0, 0), (1, .getfield 25, 3, 7, 2, 1195), (4, .aload_n 0, 1, 0, 0, 0), (5, .getfield 14, 3, 7, 0, 1193), (8, .invokevirtual 90, 3, 18, 0, 2022), (11, .ireturn, 1, 0, 0, 0)]
/-- LoveGlass.port -/
def zc_69 : List (Nat × zI) := [(0, .aload_n 0, 1, 0, 0, 0), (1, .getfield 25, 3, 7, 2, 1195), (4, .aload_n 0, 1, 0, 0, 0), (5, .getfield 14, 3, 7, 0, 1193), (8, .invokevirtual 90, 3, 18, 0, 2022), (11, .bipush (-9), 2, 0, 0, 0), (13, .if_icmp .eq 6, 3, 19, 0, 0), (16, .bipush (-3), 2, 0, 0, 0), (18, .ireturn, 1, 0, 0, 0), (19, .aload_n 0, 1, 0, 0, 0), (20, .getfield 25, 3, 7, 2, 1195), (23, .astore_n 1, 1, 0, 0, 0), (24, .aload_n 0, 1, 0, 0, 0), (25, .aload_n 0, 1, 0, 0, 0), (26, .getfield 21, 3, 7, 1, 1194), (29, .putfield 25, 3, 7, 2, 1195), (32, .aload_n 0, 1, 0, 0, 0), (33, .aload_n 1, 1, 0, 0, 0), (34, .putfield 21, 3, 7, 1, 1194), (37, .aload_n 0, 1, 0, 0, 0), (38, .getfield 31, 3, 7, 3, 1196), (41, .invokevirtual 94, 3, 41, 0, 2047), (44, .aload_n 0, 1, 0, 0, 0), (45, .getfield 41, 3, 7, 5, 1198), (48, .invokevirtual 97, 3, 2, 0, 2052), (51, .aload_n 0, 1, 0, 0, 0), (52, .iconst 0, 1, 0, 0, 0), (53, .putfield 98, 3, 7, 9, 1202), (56, .bipush 100, 2, 0, 0, 0), (58, .aload_n 0, 1, 0, 0, 0), (59, .getfield 21, 3, 7, 1, 1194), (62, .invokevirtual 102, 3, 21, 0, 2056), (65, .imul, 1, 0, 0, 0), (66, .bipush 10, 2, 0, 0, 0), (68, .aload_n 0, 1, 0, 0, 0), (69, .getfield 21, 3, 7, 1, 1194), (72, .invokevirtual 105, 3, 22, 0, 2060), (75, .imul, 1, 0, 0, 0), (76, .iadd, 1, 0, 0, 0), (77, .aload_n 0, 1, 0, 0, 0), (78, .getfield 21, 3, 7, 1, 1194), (81, .invokevirtual 108, 3, 23, 0, 2064), (84, .iadd, 1, 0, 0, 0), (85, .ireturn, 1, 0, 0, 0)]
/-- LoveGlass.about -/
def zc_70 : List (Nat × zI) := [(0, .iload_n 1, 1, 0, 0, 0), (1, .tableswitch 115 0 12 #[67, 75, 83, 115, 115, 115, 115, 115, 115, 115, 91, 99, 107], 67, 0, 0, 0), (68, .aload_n 0, 1, 0, 0, 0), (69, .getfield 21, 3, 7, 1, 1194), (72, .invokevirtual 102, 3, 21, 0, 2056), (75, .ireturn, 1, 0, 0, 0), (76, .aload_n 0, 1, 0, 0, 0), (77, .getfield 21, 3, 7, 1, 1194), (80, .invokevirtual 105, 3, 22, 0, 2060), (83, .ireturn, 1, 0, 0, 0), (84, .aload_n 0, 1, 0, 0, 0), (85, .getfield 21, 3, 7, 1, 1194), (88, .invokevirtual 108, 3, 23, 0, 2064), (91, .ireturn, 1, 0, 0, 0), (92, .aload_n 0, 1, 0, 0, 0), (93, .getfield 41, 3, 7, 5, 1198), (96, .invokevirtual 111, 3, 1, 0, 2072), (99, .ireturn, 1, 0, 0, 0), (100, .aload_n 0, 1, 0, 0, 0), (101, .getfield 48, 3, 7, 6, 1199), (104, .invokevirtual 112, 3, 59, 0, 2076), (107, .ireturn, 1, 0, 0, 0), (108, .aload_n 0, 1, 0, 0, 0), (109, .getfield 14, 3, 7, 0, 1193), (112, .invokevirtual 83, 3, 32, 0, 2006), (115, .ireturn, 1, 0, 0, 0), (116, .aload_n 0, 1, 0, 0, 0), (117, .iload_n 1, 1, 0, 0, 0), (118, .invokevirtual 113, 3, 71, 0, 2081), (121, .ireturn, 1, 0, 0, 0)]
/-- LoveGlass.aboutRun -/
def zc_71 : List (Nat × zI) := [(0, .iload_n 1, 1, 0, 0, 0), (1, .tableswitch 118 3 9 #[43, 51, 59, 67, 75, 83, 98], 43, 0, 0, 0), (44, .aload_n 0, 1, 0, 0, 0), (45, .getfield 31, 3, 7, 3, 1196), (48, .getfield 117, 3, 4, 0, 1094), (51, .ireturn, 1, 0, 0, 0), (52, .aload_n 0, 1, 0, 0, 0), (53, .getfield 31, 3, 7, 3, 1196), (56, .getfield 120, 3, 4, 1, 1097), (59, .ireturn, 1, 0, 0, 0), (60, .aload_n 0, 1, 0, 0, 0), (61, .getfield 31, 3, 7, 3, 1196), (64, .getfield 123, 3, 4, 2, 1100), (67, .ireturn, 1, 0, 0, 0), (68, .aload_n 0, 1, 0, 0, 0), (69, .getfield 31, 3, 7, 3, 1196), (72, .invokevirtual 126, 3, 45, 0, 2085), (75, .ireturn, 1, 0, 0, 0), (76, .aload_n 0, 1, 0, 0, 0), (77, .getfield 31, 3, 7, 3, 1196), (80, .invokevirtual 127, 3, 46, 0, 2090), (83, .ireturn, 1, 0, 0, 0), (84, .aload_n 0, 1, 0, 0, 0), (85, .getfield 21, 3, 7, 1, 1194), (88, .aload_n 0, 1, 0, 0, 0), (89, .getfield 31, 3, 7, 3, 1196), (92, .invokevirtual 127, 3, 46, 0, 2090), (95, .invokevirtual 130, 3, 30, 0, 2095), (98, .ireturn, 1, 0, 0, 0), (99, .aload_n 0, 1, 0, 0, 0), (100, .getfield 31, 3, 7, 3, 1196), (103, .aload_n 0, 1, 0, 0, 0), (104, .getfield 21, 3, 7, 1, 1194), (107, .invokevirtual 133, 3, 49, 0, 2103), (110, .ifCond .eq 7, 3, 117, 0, 0), (113, .iconst 1, 1, 0, 0, 0), (114, .goto 4, 3, 118, 0, 0), (117, .iconst 0, 1, 0, 0, 0), (118, .ireturn, 1, 0, 0, 0), (119, .bipush (-2), 2, 0, 0, 0), (121, .ireturn, 1, 0, 0, 0)]
/-- LoveGlass.glass -/
def zc_72 : List (Nat × zI) := [(0, .aload_n 0, 1, 0, 0, 0), (1, .getfield 21, 3, 7, 1, 1194), (4, .iload_n 1, 1, 0, 0, 0), (5, .invokevirtual 137, 3, 24, 0, 2118), (8, .ifCond .ne 5, 3, 13, 0, 0), (11, .iconst (-1), 1, 0, 0, 0), (12, .ireturn, 1, 0, 0, 0), (13, .iload_n 2, 1, 0, 0, 0), (14, .tableswitch 59 0 2 #[26, 38, 50], 26, 0, 0, 0), (40, .aload_n 0, 1, 0, 0, 0), (41, .getfield 21, 3, 7, 1, 1194), (44, .getfield 140, 3, 2, 0, 1053), (47, .iload_n 1, 1, 0, 0, 0), (48, .invokevirtual 143, 3, 36, 0, 2126), (51, .ireturn, 1, 0, 0, 0), (52, .aload_n 0, 1, 0, 0, 0), (53, .getfield 21, 3, 7, 1, 1194), (56, .getfield 146, 3, 2, 1, 1055), (59, .iload_n 1, 1, 0, 0, 0), (60, .invokevirtual 143, 3, 36, 0, 2126), (63, .ireturn, 1, 0, 0, 0), (64, .aload_n 0, 1, 0, 0, 0), (65, .getfield 21, 3, 7, 1, 1194), (68, .iload_n 1, 1, 0, 0, 0), (69, .invokevirtual 149, 3, 27, 0, 2127), (72, .ireturn, 1, 0, 0, 0), (73, .bipush (-2), 2, 0, 0, 0), (75, .ireturn, 1, 0, 0, 0)]
/-- LoveGlass.suitor -/
def zc_73 : List (Nat × zI) := [(0, .aload_n 0, 1, 0, 0, 0), (1, .getfield 21, 3, 7, 1, 1194), (4, .iload_n 1, 1, 0, 0, 0), (5, .invokevirtual 152, 3, 25, 0, 2135), (8, .ifCond .ne 5, 3, 13, 0, 0), (11, .iconst (-1), 1, 0, 0, 0), (12, .ireturn, 1, 0, 0, 0), (13, .iload_n 2, 1, 0, 0, 0), (14, .lookupswitch 50 #[(0, 26), (1, 38)], 26, 0, 0, 0), (40, .aload_n 0, 1, 0, 0, 0), (41, .getfield 21, 3, 7, 1, 1194), (44, .getfield 155, 3, 2, 2, 1058), (47, .iload_n 1, 1, 0, 0, 0), (48, .invokevirtual 143, 3, 36, 0, 2126), (51, .ireturn, 1, 0, 0, 0), (52, .aload_n 0, 1, 0, 0, 0), (53, .getfield 21, 3, 7, 1, 1194), (56, .getfield 158, 3, 2, 3, 1060), (59, .iload_n 1, 1, 0, 0, 0), (60, .invokevirtual 143, 3, 36, 0, 2126), (63, .ireturn, 1, 0, 0, 0), (64, .bipush (-2), 2, 0, 0, 0), (66, .ireturn, 1, 0, 0, 0)]
/-- LoveGlass.saying -/
def zc_74 : List (Nat × zI) := [(0, .aload_n 0, 1, 0, 0, 0), (1, .getfield 21, 3, 7, 1, 1194), (4, .iload_n 1, 1, 0, 0, 0), (5, .invokevirtual 161, 3, 26, 0, 2143), (8, .ifCond .ne 5, 3, 13, 0, 0), (11, .iconst (-1), 1, 0, 0, 0), (12, .ireturn, 1, 0, 0, 0), (13, .iload_n 2, 1, 0, 0, 0), (14, .tableswitch 105 0 3 #[30, 42, 54, 66], 30, 0, 0, 0), (44, .aload_n 0, 1, 0, 0, 0), (45, .getfield 21, 3, 7, 1, 1194), (48, .getfield 164, 3, 2, 4, 1062), (51, .iload_n 1, 1, 0, 0, 0), (52, .invokevirtual 143, 3, 36, 0, 2126), (55, .ireturn, 1, 0, 0, 0), (56, .aload_n 0, 1, 0, 0, 0), (57, .getfield 21, 3, 7, 1, 1194), (60, .getfield 167, 3, 2, 5, 1064), (63, .iload_n 1, 1, 0, 0, 0), (64, .invokevirtual 143, 3, 36, 0, 2126), (67, .ireturn, 1, 0, 0, 0), (68, .aload_n 0, 1, 0, 0, 0), (69, .getfield 21, 3, 7, 1, 1194), (72, .getfield 170, 3, 2, 6, 1068), (75, .iload_n 1, 1, 0, 0, 0), (76, .invokevirtual 143, 3, 36, 0, 2126), (79, .ireturn, 1, 0, 0, 0), (80, .aload_n 0, 1, 0, 0, 0), (81, .getfield 31, 3, 7, 3, 1196), (84, .invokevirtual 173, 3, 44, 0, 2147), (87, .ifCond .eq 29, 3, 116, 0, 0), (90, .aload_n 0, 1, 0, 0, 0), (91, .getfield 31, 3, 7, 3, 1196), (94, .iload_n 1, 1, 0, 0, 0), (95, .invokevirtual 176, 3, 47, 0, 2151), (98, .ifCond .ne 18, 3, 116, 0, 0), (101, .aload_n 0, 1, 0, 0, 0), (102, .getfield 31, 3, 7, 3, 1196), (105, .aload_n 0, 1, 0, 0, 0), (106, .getfield 21, 3, 7, 1, 1194), (109, .iload_n 1, 1, 0, 0, 0), (110, .invokevirtual 179, 3, 50, 0, 2157), (113, .goto 5, 3, 118, 0, 0), (116, .bipush (-9), 2, 0, 0, 0), (118, .ireturn, 1, 0, 0, 0), (119, .bipush (-2), 2, 0, 0, 0), (121, .ireturn, 1, 0, 0, 0)]
/-- LoveGlass.said -/
def zc_75 : List (Nat × zI) := [(0, .aload_n 0, 1, 0, 0, 0), (1, .getfield 31, 3, 7, 3, 1196), (4, .getfield 183, 3, 4, 3, 1102), (7, .iload_n 1, 1, 0, 0, 0), (8, .invokevirtual 186, 3, 35, 0, 2173), (11, .ifCond .eq 17, 3, 28, 0, 0), (14, .aload_n 0, 1, 0, 0, 0), (15, .getfield 31, 3, 7, 3, 1196), (18, .getfield 183, 3, 4, 3, 1102), (21, .iload_n 1, 1, 0, 0, 0), (22, .invokevirtual 143, 3, 36, 0, 2126), (25, .goto 4, 3, 29, 0, 0), (28, .iconst (-1), 1, 0, 0, 0), (29, .ireturn, 1, 0, 0, 0)]
/-- LoveGlass.takes -/
def zc_76 : List (Nat × zI) := [(0, .aload_n 0, 1, 0, 0, 0), (1, .getfield 21, 3, 7, 1, 1194), (4, .iload_n 1, 1, 0, 0, 0), (5, .invokevirtual 161, 3, 26, 0, 2143), (8, .ifCond .eq 25, 3, 33, 0, 0), (11, .aload_n 0, 1, 0, 0, 0), (12, .getfield 21, 3, 7, 1, 1194), (15, .iload_n 2, 1, 0, 0, 0), (16, .invokevirtual 152, 3, 25, 0, 2135), (19, .ifCond .eq 14, 3, 33, 0, 0), (22, .aload_n 0, 1, 0, 0, 0), (23, .getfield 21, 3, 7, 1, 1194), (26, .iload_n 3, 1, 0, 0, 0), (27, .invokevirtual 137, 3, 24, 0, 2118), (30, .ifCond .ne 5, 3, 35, 0, 0), (33, .iconst (-1), 1, 0, 0, 0), (34, .ireturn, 1, 0, 0, 0), (35, .iload 4, 2, 0, 0, 0), (37, .ifCond .lt 10, 3, 47, 0, 0), (40, .iload 4, 2, 0, 0, 0), (42, .bipush 6, 2, 0, 0, 0), (44, .if_icmp .lt 6, 3, 50, 0, 0), (47, .bipush (-2), 2, 0, 0, 0), (49, .ireturn, 1, 0, 0, 0), (50, .aload_n 0, 1, 0, 0, 0), (51, .getfield 21, 3, 7, 1, 1194), (54, .iload_n 1, 1, 0, 0, 0), (55, .iload_n 2, 1, 0, 0, 0), (56, .iload_n 3, 1, 0, 0, 0), (57, .iload 4, 2, 0, 0, 0), (59, .invokevirtual 189, 3, 28, 0, 2178), (62, .ireturn, 1, 0, 0, 0)]
/-- LoveGlass.turn -/
def zc_77 : List (Nat × zI) := [(0, .aload_n 0, 1, 0, 0, 0), (1, .getfield 21, 3, 7, 1, 1194), (4, .iload_n 1, 1, 0, 0, 0), (5, .invokevirtual 137, 3, 24, 0, 2118), (8, .ifCond .eq 14, 3, 22, 0, 0), (11, .aload_n 0, 1, 0, 0, 0), (12, .getfield 21, 3, 7, 1, 1194), (15, .iload_n 2, 1, 0, 0, 0), (16, .invokevirtual 152, 3, 25, 0, 2135), (19, .ifCond .ne 5, 3, 24, 0, 0), (22, .iconst (-1), 1, 0, 0, 0), (23, .ireturn, 1, 0, 0, 0), (24, .aload_n 0, 1, 0, 0, 0), (25, .getfield 41, 3, 7, 5, 1198), (28, .aload_n 0, 1, 0, 0, 0), (29, .getfield 31, 3, 7, 3, 1196), (32, .invokevirtual 192, 3, 3, 0, 2183), (35, .aload_n 0, 1, 0, 0, 0), (36, .getfield 31, 3, 7, 3, 1196), (39, .aload_n 0, 1, 0, 0, 0), (40, .getfield 21, 3, 7, 1, 1194), (43, .iload_n 1, 1, 0, 0, 0), (44, .iload_n 2, 1, 0, 0, 0), (45, .invokevirtual 196, 3, 42, 0, 2209), (48, .aload_n 0, 1, 0, 0, 0), (49, .getfield 31, 3, 7, 3, 1196), (52, .getfield 123, 3, 4, 2, 1100), (55, .ireturn, 1, 0, 0, 0)]
/-- LoveGlass.say -/
def zc_78 : List (Nat × zI) := [(0, .aload_n 0, 1, 0, 0, 0), (1, .getfield 21, 3, 7, 1, 1194), (4, .iload_n 1, 1, 0, 0, 0), (5, .invokevirtual 161, 3, 26, 0, 2143), (8, .ifCond .ne 5, 3, 13, 0, 0), (11, .iconst (-1), 1, 0, 0, 0), (12, .ireturn, 1, 0, 0, 0), (13, .aload_n 0, 1, 0, 0, 0), (14, .getfield 35, 3, 7, 4, 1197), (17, .aload_n 0, 1, 0, 0, 0), (18, .getfield 31, 3, 7, 3, 1196), (21, .invokevirtual 200, 3, 43, 0, 2218), (24, .aload_n 0, 1, 0, 0, 0), (25, .aload_n 0, 1, 0, 0, 0), (26, .getfield 35, 3, 7, 4, 1197), (29, .aload_n 0, 1, 0, 0, 0), (30, .getfield 21, 3, 7, 1, 1194), (33, .iload_n 1, 1, 0, 0, 0), (34, .invokevirtual 203, 3, 51, 0, 2219), (37, .invokevirtual 207, 3, 81, 0, 2228), (40, .ireturn, 1, 0, 0, 0)]
/-- LoveGlass.pause -/
def zc_79 : List (Nat × zI) := [(0, .aload_n 0, 1, 0, 0, 0), (1, .getfield 35, 3, 7, 4, 1197), (4, .aload_n 0, 1, 0, 0, 0), (5, .getfield 31, 3, 7, 3, 1196), (8, .invokevirtual 200, 3, 43, 0, 2218), (11, .aload_n 0, 1, 0, 0, 0), (12, .aload_n 0, 1, 0, 0, 0), (13, .getfield 35, 3, 7, 4, 1197), (16, .aload_n 0, 1, 0, 0, 0), (17, .getfield 21, 3, 7, 1, 1194), (20, .invokevirtual 211, 3, 52, 0, 2236), (23, .invokevirtual 207, 3, 81, 0, 2228), (26, .ireturn, 1, 0, 0, 0)]
/-- LoveGlass.draw -/
def zc_80 : List (Nat × zI) := [(0, .iload_n 1, 1, 0, 0, 0), (1, .iconst 1, 1, 0, 0, 0), (2, .if_icmp .lt 9, 3, 11, 0, 0), (5, .iload_n 1, 1, 0, 0, 0), (6, .bipush 9, 2, 0, 0, 0), (8, .if_icmp .le 6, 3, 14, 0, 0), (11, .bipush (-2), 2, 0, 0, 0), (13, .ireturn, 1, 0, 0, 0), (14, .aload_n 0, 1, 0, 0, 0), (15, .getfield 35, 3, 7, 4, 1197), (18, .aload_n 0, 1, 0, 0, 0), (19, .getfield 31, 3, 7, 3, 1196), (22, .invokevirtual 200, 3, 43, 0, 2218), (25, .aload_n 0, 1, 0, 0, 0), (26, .aload_n 0, 1, 0, 0, 0), (27, .getfield 35, 3, 7, 4, 1197), (30, .iload_n 1, 1, 0, 0, 0), (31, .invokevirtual 214, 3, 53, 0, 3004), (34, .invokevirtual 207, 3, 81, 0, 2228), (37, .ireturn, 1, 0, 0, 0)]
/-- LoveGlass.actTried -/
def zc_81 : List (Nat × zI) := [(0, .iload_n 1, 1, 0, 0, 0), (1, .ifCond .ne 6, 3, 7, 0, 0), (4, .bipush (-3), 2, 0, 0, 0), (6, .ireturn, 1, 0, 0, 0), (7, .aload_n 0, 1, 0, 0, 0), (8, .getfield 41, 3, 7, 5, 1198), (11, .aload_n 0, 1, 0, 0, 0), (12, .getfield 31, 3, 7, 3, 1196), (15, .invokevirtual 192, 3, 3, 0, 2183), (18, .aload_n 0, 1, 0, 0, 0), (19, .getfield 31, 3, 7, 3, 1196), (22, .aload_n 0, 1, 0, 0, 0), (23, .getfield 35, 3, 7, 4, 1197), (26, .invokevirtual 200, 3, 43, 0, 2218), (29, .aload_n 0, 1, 0, 0, 0), (30, .getfield 31, 3, 7, 3, 1196), (33, .getfield 123, 3, 4, 2, 1100), (36, .ireturn, 1, 0, 0, 0)]
/-- LoveGlass.undo -/
def zc_82 : List (Nat × zI) := [(0, .aload_n 0, 1, 0, 0, 0), (1, .getfield 41, 3, 7, 5, 1198), (4, .aload_n 0, 1, 0, 0, 0), (5, .getfield 31, 3, 7, 3, 1196), (8, .invokevirtual 217, 3, 4, 0, 3013), (11, .ifCond .eq 13, 3, 24, 0, 0), (14, .aload_n 0, 1, 0, 0, 0), (15, .getfield 41, 3, 7, 5, 1198), (18, .invokevirtual 111, 3, 1, 0, 2072), (21, .goto 5, 3, 26, 0, 0), (24, .bipush (-3), 2, 0, 0, 0), (26, .ireturn, 1, 0, 0, 0)]
/-- LoveGlass.warmest -/
def zc_83 : List (Nat × zI) := [(0, .aload_n 0, 1, 0, 0, 0), (1, .getfield 55, 3, 7, 7, 1200), (4, .aload_n 0, 1, 0, 0, 0), (5, .getfield 21, 3, 7, 1, 1194), (8, .aload_n 0, 1, 0, 0, 0), (9, .getfield 31, 3, 7, 3, 1196), (12, .invokevirtual 221, 3, 7, 0, 3025), (15, .aload_n 0, 1, 0, 0, 0), (16, .getfield 55, 3, 7, 7, 1200), (19, .aload_n 0, 1, 0, 0, 0), (20, .getfield 21, 3, 7, 1, 1194), (23, .invokevirtual 225, 3, 10, 0, 3057), (26, .ifCond .ne 6, 3, 32, 0, 0), (29, .bipush (-9), 2, 0, 0, 0), (31, .ireturn, 1, 0, 0, 0), (32, .iload_n 1, 1, 0, 0, 0), (33, .ifCond .eq 13, 3, 46, 0, 0), (36, .aload_n 0, 1, 0, 0, 0), (37, .getfield 55, 3, 7, 7, 1200), (40, .getfield 228, 3, 1, 5, 1177), (43, .goto 25, 3, 68, 0, 0), (46, .aload_n 0, 1, 0, 0, 0), (47, .getfield 55, 3, 7, 7, 1200), (50, .getfield 230, 3, 1, 3, 1173), (53, .aload_n 0, 1, 0, 0, 0), (54, .getfield 21, 3, 7, 1, 1194), (57, .aload_n 0, 1, 0, 0, 0), (58, .getfield 31, 3, 7, 3, 1196), (61, .invokevirtual 127, 3, 46, 0, 2090), (64, .invokevirtual 130, 3, 30, 0, 2095), (67, .iadd, 1, 0, 0, 0), (68, .ireturn, 1, 0, 0, 0)]
/-- LoveGlass.shortest -/
def zc_84 : List (Nat × zI) := [(0, .aload_n 0, 1, 0, 0, 0), (1, .getfield 55, 3, 7, 7, 1200), (4, .aload_n 0, 1, 0, 0, 0), (5, .getfield 21, 3, 7, 1, 1194), (8, .aload_n 0, 1, 0, 0, 0), (9, .getfield 31, 3, 7, 3, 1196), (12, .invokevirtual 221, 3, 7, 0, 3025), (15, .aload_n 0, 1, 0, 0, 0), (16, .getfield 55, 3, 7, 7, 1200), (19, .invokevirtual 232, 3, 11, 0, 3078), (22, .ifCond .ne 6, 3, 28, 0, 0), (25, .bipush (-9), 2, 0, 0, 0), (27, .ireturn, 1, 0, 0, 0), (28, .iload_n 1, 1, 0, 0, 0), (29, .ifCond .eq 13, 3, 42, 0, 0), (32, .aload_n 0, 1, 0, 0, 0), (33, .getfield 55, 3, 7, 7, 1200), (36, .getfield 228, 3, 1, 5, 1177), (39, .goto 10, 3, 49, 0, 0), (42, .aload_n 0, 1, 0, 0, 0), (43, .getfield 55, 3, 7, 7, 1200), (46, .getfield 235, 3, 1, 4, 1175), (49, .ireturn, 1, 0, 0, 0)]
/-- LoveGlass.can -/
def zc_85 : List (Nat × zI) := [(0, .aload_n 0, 1, 0, 0, 0), (1, .getfield 21, 3, 7, 1, 1194), (4, .iload_n 1, 1, 0, 0, 0), (5, .invokevirtual 137, 3, 24, 0, 2118), (8, .ifCond .ne 5, 3, 13, 0, 0), (11, .iconst (-1), 1, 0, 0, 0), (12, .ireturn, 1, 0, 0, 0), (13, .iconst 0, 1, 0, 0, 0), (14, .istore_n 2, 1, 0, 0, 0), (15, .iconst 0, 1, 0, 0, 0), (16, .istore_n 3, 1, 0, 0, 0), (17, .iload_n 3, 1, 0, 0, 0), (18, .aload_n 0, 1, 0, 0, 0), (19, .getfield 21, 3, 7, 1, 1194), (22, .invokevirtual 105, 3, 22, 0, 2060), (25, .if_icmp .ge 24, 3, 49, 0, 0), (28, .aload_n 0, 1, 0, 0, 0), (29, .iload_n 3, 1, 0, 0, 0), (30, .iload_n 1, 1, 0, 0, 0), (31, .invokevirtual 237, 3, 86, 0, 3086), (34, .ifCond .eq 9, 3, 43, 0, 0), (37, .iload_n 2, 1, 0, 0, 0), (38, .iconst 1, 1, 0, 0, 0), (39, .iload_n 3, 1, 0, 0, 0), (40, .ishl, 1, 0, 0, 0), (41, .ior, 1, 0, 0, 0), (42, .istore_n 2, 1, 0, 0, 0), (43, .iinc 3 1, 3, 0, 0, 0), (46, .goto (-29), 3, 17, 0, 0), (49, .iload_n 2, 1, 0, 0, 0), (50, .ireturn, 1, 0, 0, 0)]
/-- LoveGlass.canDeclare -/
def zc_86 : List (Nat × zI) := [(0, .aload_n 0, 1, 0, 0, 0), (1, .getfield 35, 3, 7, 4, 1197), (4, .aload_n 0, 1, 0, 0, 0), (5, .getfield 21, 3, 7, 1, 1194), (8, .iload_n 2, 1, 0, 0, 0), (9, .iload_n 1, 1, 0, 0, 0), (10, .invokevirtual 196, 3, 42, 0, 2209), (13, .aload_n 0, 1, 0, 0, 0), (14, .getfield 55, 3, 7, 7, 1200), (17, .aload_n 0, 1, 0, 0, 0), (18, .getfield 21, 3, 7, 1, 1194), (21, .aload_n 0, 1, 0, 0, 0), (22, .getfield 35, 3, 7, 4, 1197), (25, .invokevirtual 221, 3, 7, 0, 3025), (28, .aload_n 0, 1, 0, 0, 0), (29, .getfield 55, 3, 7, 7, 1200), (32, .invokevirtual 232, 3, 11, 0, 3078), (35, .ireturn, 1, 0, 0, 0)]
/-- LoveGlass.does -/
def zc_87 : List (Nat × zI) := [(0, .aload_n 0, 1, 0, 0, 0), (1, .getfield 21, 3, 7, 1, 1194), (4, .iload_n 1, 1, 0, 0, 0), (5, .invokevirtual 152, 3, 25, 0, 2135), (8, .ifCond .ne 5, 3, 13, 0, 0), (11, .iconst (-1), 1, 0, 0, 0), (12, .ireturn, 1, 0, 0, 0), (13, .bipush (-9), 2, 0, 0, 0), (15, .istore_n 2, 1, 0, 0, 0), (16, .iconst 0, 1, 0, 0, 0), (17, .istore_n 3, 1, 0, 0, 0), (18, .iload_n 3, 1, 0, 0, 0), (19, .aload_n 0, 1, 0, 0, 0), (20, .getfield 21, 3, 7, 1, 1194), (23, .invokevirtual 102, 3, 21, 0, 2056), (26, .if_icmp .ge 57, 3, 83, 0, 0), (29, .iload_n 2, 1, 0, 0, 0), (30, .bipush (-9), 2, 0, 0, 0), (32, .if_icmp .eq 22, 3, 54, 0, 0), (35, .aload_n 0, 1, 0, 0, 0), (36, .getfield 21, 3, 7, 1, 1194), (39, .iload_n 3, 1, 0, 0, 0), (40, .invokevirtual 149, 3, 27, 0, 2127), (43, .aload_n 0, 1, 0, 0, 0), (44, .getfield 21, 3, 7, 1, 1194), (47, .iload_n 2, 1, 0, 0, 0), (48, .invokevirtual 149, 3, 27, 0, 2127), (51, .if_icmp .ge 7, 3, 58, 0, 0), (54, .iconst 1, 1, 0, 0, 0), (55, .goto 4, 3, 59, 0, 0), (58, .iconst 0, 1, 0, 0, 0), (59, .istore 4, 2, 0, 0, 0), (61, .iload 4, 2, 0, 0, 0), (63, .ifCond .eq 14, 3, 77, 0, 0), (66, .aload_n 0, 1, 0, 0, 0), (67, .iload_n 1, 1, 0, 0, 0), (68, .iload_n 3, 1, 0, 0, 0), (69, .invokevirtual 237, 3, 86, 0, 3086), (72, .ifCond .eq 5, 3, 77, 0, 0), (75, .iload_n 3, 1, 0, 0, 0), (76, .istore_n 2, 1, 0, 0, 0), (77, .iinc 3 1, 3, 0, 0, 0), (80, .goto (-62), 3, 18, 0, 0), (83, .iload_n 2, 1, 0, 0, 0), (84, .ireturn, 1, 0, 0, 0)]
/-- LoveGlass.matched -/
def zc_88 : List (Nat × zI) := [(0, .iconst 0, 1, 0, 0, 0), (1, .istore_n 2, 1, 0, 0, 0), (2, .iconst 1, 1, 0, 0, 0), (3, .istore_n 3, 1, 0, 0, 0), (4, .iconst 0, 1, 0, 0, 0), (5, .istore 4, 2, 0, 0, 0), (7, .iload 4, 2, 0, 0, 0), (9, .aload_n 0, 1, 0, 0, 0), (10, .getfield 21, 3, 7, 1, 1194), (13, .invokevirtual 105, 3, 22, 0, 2060), (16, .if_icmp .ge 57, 3, 73, 0, 0), (19, .iload_n 3, 1, 0, 0, 0), (20, .iconst 5, 1, 0, 0, 0), (21, .imul, 1, 0, 0, 0), (22, .istore_n 3, 1, 0, 0, 0), (23, .iconst 0, 1, 0, 0, 0), (24, .istore 5, 2, 0, 0, 0), (26, .iload 5, 2, 0, 0, 0), (28, .aload_n 0, 1, 0, 0, 0), (29, .getfield 21, 3, 7, 1, 1194), (32, .invokevirtual 102, 3, 21, 0, 2056), (35, .if_icmp .ge 32, 3, 67, 0, 0), (38, .aload_n 0, 1, 0, 0, 0), (39, .iload 4, 2, 0, 0, 0), (41, .iload 5, 2, 0, 0, 0), (43, .invokevirtual 237, 3, 86, 0, 3086), (46, .ifCond .eq 15, 3, 61, 0, 0), (49, .iload_n 2, 1, 0, 0, 0), (50, .iconst 1, 1, 0, 0, 0), (51, .iload 4, 2, 0, 0, 0), (53, .iload 5, 2, 0, 0, 0), (55, .invokestatic 241, 3, 89, 0, 3098), (58, .ishl, 1, 0, 0, 0), (59, .ior, 1, 0, 0, 0), (60, .istore_n 2, 1, 0, 0, 0), (61, .iinc 5 1, 3, 0, 0, 0), (64, .goto (-38), 3, 26, 0, 0), (67, .iinc 4 1, 3, 0, 0, 0), (70, .goto (-63), 3, 7, 0, 0), (73, .iconst 0, 1, 0, 0, 0), (74, .istore 4, 2, 0, 0, 0), (76, .iconst 0, 1, 0, 0, 0), (77, .istore 5, 2, 0, 0, 0), (79, .iconst 0, 1, 0, 0, 0), (80, .istore 6, 2, 0, 0, 0), (82, .iload 6, 2, 0, 0, 0), (84, .iload_n 3, 1, 0, 0, 0), (85, .if_icmp .ge 34, 3, 119, 0, 0), (88, .aload_n 0, 1, 0, 0, 0), (89, .iload 6, 2, 0, 0, 0), (91, .iload_n 3, 1, 0, 0, 0), (92, .iload_n 2, 1, 0, 0, 0), (93, .invokevirtual 245, 3, 90, 0, 3101), (96, .istore 7, 2, 0, 0, 0), (98, .iload 7, 2, 0, 0, 0), (100, .iload 4, 2, 0, 0, 0), (102, .if_icmp .le 11, 3, 113, 0, 0), (105, .iload 7, 2, 0, 0, 0), (107, .istore 4, 2, 0, 0, 0), (109, .iload 6, 2, 0, 0, 0), (111, .istore 5, 2, 0, 0, 0), (113, .iinc 6 1, 3, 0, 0, 0), (116, .goto (-34), 3, 82, 0, 0), (119, .iload_n 1, 1, 0, 0, 0), (120, .ifCond .eq 13, 3, 133, 0, 0), (123, .aload_n 0, 1, 0, 0, 0), (124, .iload 5, 2, 0, 0, 0), (126, .iload_n 3, 1, 0, 0, 0), (127, .invokevirtual 249, 3, 91, 0, 3109), (130, .goto 5, 3, 135, 0, 0), (133, .iload 4, 2, 0, 0, 0), (135, .ireturn, 1, 0, 0, 0)]
/-- LoveGlass.pairBit -/
def zc_89 : List (Nat × zI) := [(0, .iload_n 0, 1, 0, 0, 0), (1, .iconst 4, 1, 0, 0, 0), (2, .imul, 1, 0, 0, 0), (3, .iload_n 1, 1, 0, 0, 0), (4, .iadd, 1, 0, 0, 0), (5, .ireturn, 1, 0, 0, 0)]
/-- LoveGlass.matchesIn -/
def zc_90 : List (Nat × zI) := [(0, .iload_n 2, 1, 0, 0, 0), (1, .istore 4, 2, 0, 0, 0), (3, .iconst 0, 1, 0, 0, 0), (4, .istore 5, 2, 0, 0, 0), (6, .iconst 0, 1, 0, 0, 0), (7, .istore 6, 2, 0, 0, 0), (9, .iconst 0, 1, 0, 0, 0), (10, .istore 7, 2, 0, 0, 0), (12, .iload 7, 2, 0, 0, 0), (14, .aload_n 0, 1, 0, 0, 0), (15, .getfield 21, 3, 7, 1, 1194), (18, .invokevirtual 105, 3, 22, 0, 2060), (21, .if_icmp .ge 73, 3, 94, 0, 0), (24, .iload 4, 2, 0, 0, 0), (26, .iconst 5, 1, 0, 0, 0), (27, .idiv, 1, 0, 0, 0), (28, .istore 4, 2, 0, 0, 0), (30, .iload_n 1, 1, 0, 0, 0), (31, .iload 4, 2, 0, 0, 0), (33, .iconst 5, 1, 0, 0, 0), (34, .invokestatic 252, 3, 92, 0, 3105), (37, .iconst 1, 1, 0, 0, 0), (38, .isub, 1, 0, 0, 0), (39, .istore 8, 2, 0, 0, 0), (41, .iload 8, 2, 0, 0, 0), (43, .ifCond .ge 6, 3, 49, 0, 0), (46, .goto 42, 3, 88, 0, 0), (49, .iload 5, 2, 0, 0, 0), (51, .iload 8, 2, 0, 0, 0), (53, .invokestatic 255, 3, 114, 0, 3108), (56, .ifCond .ne 17, 3, 73, 0, 0), (59, .iload_n 3, 1, 0, 0, 0), (60, .iload 7, 2, 0, 0, 0), (62, .iload 8, 2, 0, 0, 0), (64, .invokestatic 241, 3, 89, 0, 3098), (67, .invokestatic 255, 3, 114, 0, 3108), (70, .ifCond .ne 6, 3, 76, 0, 0), (73, .bipush (-9), 2, 0, 0, 0), (75, .ireturn, 1, 0, 0, 0), (76, .iload 5, 2, 0, 0, 0), (78, .iconst 1, 1, 0, 0, 0), (79, .iload 8, 2, 0, 0, 0), (81, .ishl, 1, 0, 0, 0), (82, .ior, 1, 0, 0, 0), (83, .istore 5, 2, 0, 0, 0), (85, .iinc 6 1, 3, 0, 0, 0), (88, .iinc 7 1, 3, 0, 0, 0), (91, .goto (-79), 3, 12, 0, 0), (94, .iload 6, 2, 0, 0, 0), (96, .ireturn, 1, 0, 0, 0)]
/-- LoveGlass.figuresOf -/
def zc_91 : List (Nat × zI) := [(0, .iload_n 2, 1, 0, 0, 0), (1, .istore_n 3, 1, 0, 0, 0), (2, .iconst 1, 1, 0, 0, 0), (3, .istore 4, 2, 0, 0, 0), (5, .iconst 0, 1, 0, 0, 0), (6, .istore 5, 2, 0, 0, 0), (8, .iload 5, 2, 0, 0, 0), (10, .aload_n 0, 1, 0, 0, 0), (11, .getfield 21, 3, 7, 1, 1194), (14, .invokevirtual 105, 3, 22, 0, 2060), (17, .if_icmp .ge 27, 3, 44, 0, 0), (20, .iload_n 3, 1, 0, 0, 0), (21, .iconst 5, 1, 0, 0, 0), (22, .idiv, 1, 0, 0, 0), (23, .istore_n 3, 1, 0, 0, 0), (24, .bipush 10, 2, 0, 0, 0), (26, .iload 4, 2, 0, 0, 0), (28, .imul, 1, 0, 0, 0), (29, .iload_n 1, 1, 0, 0, 0), (30, .iload_n 3, 1, 0, 0, 0), (31, .iconst 5, 1, 0, 0, 0), (32, .invokestatic 252, 3, 92, 0, 3105), (35, .iadd, 1, 0, 0, 0), (36, .istore 4, 2, 0, 0, 0), (38, .iinc 5 1, 3, 0, 0, 0), (41, .goto (-33), 3, 8, 0, 0), (44, .iload 4, 2, 0, 0, 0), (46, .ireturn, 1, 0, 0, 0)]
/-- LoveGlass.figureAt -/
def zc_92 : List (Nat × zI) := [(0, .iload_n 1, 1, 0, 0, 0), (1, .iconst 1, 1, 0, 0, 0), (2, .if_icmp .lt 8, 3, 10, 0, 0), (5, .iload_n 2, 1, 0, 0, 0), (6, .iconst 1, 1, 0, 0, 0), (7, .if_icmp .ge 7, 3, 14, 0, 0), (10, .iconst 0, 1, 0, 0, 0), (11, .goto 8, 3, 19, 0, 0), (14, .iload_n 0, 1, 0, 0, 0), (15, .iload_n 1, 1, 0, 0, 0), (16, .idiv, 1, 0, 0, 0), (17, .iload_n 2, 1, 0, 0, 0), (18, .irem, 1, 0, 0, 0), (19, .ireturn, 1, 0, 0, 0)]
/-- LoveGlass.judge -/
def zc_93 : List (Nat × zI) := [(0, .iload_n 1, 1, 0, 0, 0), (1, .iconst 1, 1, 0, 0, 0), (2, .if_icmp .lt 20, 3, 22, 0, 0), (5, .iload_n 1, 1, 0, 0, 0), (6, .iconst 4, 1, 0, 0, 0), (7, .if_icmp .gt 15, 3, 22, 0, 0), (10, .iload_n 2, 1, 0, 0, 0), (11, .ifCond .lt 11, 3, 22, 0, 0), (14, .iload_n 2, 1, 0, 0, 0), (15, .iload_n 1, 1, 0, 0, 0), (16, .invokestatic 258, 3, 94, 0, 3117), (19, .if_icmp .lt 6, 3, 25, 0, 0), (22, .bipush (-2), 2, 0, 0, 0), (24, .ireturn, 1, 0, 0, 0), (25, .aload_n 0, 1, 0, 0, 0), (26, .getfield 35, 3, 7, 4, 1197), (29, .aload_n 0, 1, 0, 0, 0), (30, .getfield 31, 3, 7, 3, 1196), (33, .invokevirtual 200, 3, 43, 0, 2218), (36, .iconst 0, 1, 0, 0, 0), (37, .istore_n 3, 1, 0, 0, 0), (38, .iload_n 3, 1, 0, 0, 0), (39, .iload_n 1, 1, 0, 0, 0), (40, .if_icmp .ge 44, 3, 84, 0, 0), (43, .iload_n 2, 1, 0, 0, 0), (44, .iload_n 1, 1, 0, 0, 0), (45, .iconst 1, 1, 0, 0, 0), (46, .isub, 1, 0, 0, 0), (47, .iload_n 3, 1, 0, 0, 0), (48, .isub, 1, 0, 0, 0), (49, .invokestatic 258, 3, 94, 0, 3117), (52, .bipush 100, 2, 0, 0, 0), (54, .invokestatic 252, 3, 92, 0, 3105), (57, .istore 4, 2, 0, 0, 0), (59, .aload_n 0, 1, 0, 0, 0), (60, .iload 4, 2, 0, 0, 0), (62, .bipush 10, 2, 0, 0, 0), (64, .idiv, 1, 0, 0, 0), (65, .iload 4, 2, 0, 0, 0), (67, .bipush 10, 2, 0, 0, 0), (69, .irem, 1, 0, 0, 0), (70, .invokevirtual 261, 3, 95, 0, 3120), (73, .ifCond .ne 5, 3, 78, 0, 0), (76, .iload_n 3, 1, 0, 0, 0), (77, .ireturn, 1, 0, 0, 0), (78, .iinc 3 1, 3, 0, 0, 0), (81, .goto (-43), 3, 38, 0, 0), (84, .bipush (-9), 2, 0, 0, 0), (86, .ireturn, 1, 0, 0, 0)]
/-- LoveGlass.hundreds -/
def zc_94 : List (Nat × zI) := [(0, .iconst 1, 1, 0, 0, 0), (1, .istore_n 1, 1, 0, 0, 0), (2, .iconst 0, 1, 0, 0, 0), (3, .istore_n 2, 1, 0, 0, 0), (4, .iload_n 2, 1, 0, 0, 0), (5, .iload_n 0, 1, 0, 0, 0), (6, .if_icmp .ge 14, 3, 20, 0, 0), (9, .iload_n 1, 1, 0, 0, 0), (10, .bipush 100, 2, 0, 0, 0), (12, .imul, 1, 0, 0, 0), (13, .istore_n 1, 1, 0, 0, 0), (14, .iinc 2 1, 3, 0, 0, 0), (17, .goto (-13), 3, 4, 0, 0), (20, .iload_n 1, 1, 0, 0, 0), (21, .ireturn, 1, 0, 0, 0)]
/-- LoveGlass.canDo -/
def zc_95 : List (Nat × zI) := [(0, .iload_n 1, 1, 0, 0, 0), (1, .tableswitch 141 0 4 #[35, 48, 72, 93, 117], 35, 0, 0, 0), (36, .aload_n 0, 1, 0, 0, 0), (37, .getfield 35, 3, 7, 4, 1197), (40, .aload_n 0, 1, 0, 0, 0), (41, .getfield 21, 3, 7, 1, 1194), (44, .iload_n 2, 1, 0, 0, 0), (45, .invokevirtual 203, 3, 51, 0, 2219), (48, .ireturn, 1, 0, 0, 0), (49, .iload_n 2, 1, 0, 0, 0), (50, .ifCond .ne 21, 3, 71, 0, 0), (53, .aload_n 0, 1, 0, 0, 0), (54, .getfield 35, 3, 7, 4, 1197), (57, .aload_n 0, 1, 0, 0, 0), (58, .getfield 21, 3, 7, 1, 1194), (61, .invokevirtual 211, 3, 52, 0, 2236), (64, .ifCond .eq 7, 3, 71, 0, 0), (67, .iconst 1, 1, 0, 0, 0), (68, .goto 4, 3, 72, 0, 0), (71, .iconst 0, 1, 0, 0, 0), (72, .ireturn, 1, 0, 0, 0), (73, .iload_n 2, 1, 0, 0, 0), (74, .ifCond .le 18, 3, 92, 0, 0), (77, .aload_n 0, 1, 0, 0, 0), (78, .getfield 35, 3, 7, 4, 1197), (81, .iload_n 2, 1, 0, 0, 0), (82, .invokevirtual 214, 3, 53, 0, 3004), (85, .ifCond .eq 7, 3, 92, 0, 0), (88, .iconst 1, 1, 0, 0, 0), (89, .goto 4, 3, 93, 0, 0), (92, .iconst 0, 1, 0, 0, 0), (93, .ireturn, 1, 0, 0, 0), (94, .iload_n 2, 1, 0, 0, 0), (95, .ifCond .ne 21, 3, 116, 0, 0), (98, .aload_n 0, 1, 0, 0, 0), (99, .getfield 35, 3, 7, 4, 1197), (102, .aload_n 0, 1, 0, 0, 0), (103, .getfield 21, 3, 7, 1, 1194), (106, .invokevirtual 133, 3, 49, 0, 2103), (109, .ifCond .eq 7, 3, 116, 0, 0), (112, .iconst 1, 1, 0, 0, 0), (113, .goto 4, 3, 117, 0, 0), (116, .iconst 0, 1, 0, 0, 0), (117, .ireturn, 1, 0, 0, 0), (118, .aload_n 0, 1, 0, 0, 0), (119, .getfield 21, 3, 7, 1, 1194), (122, .aload_n 0, 1, 0, 0, 0), (123, .getfield 35, 3, 7, 4, 1197), (126, .invokevirtual 127, 3, 46, 0, 2090), (129, .invokevirtual 130, 3, 30, 0, 2095), (132, .iload_n 2, 1, 0, 0, 0), (133, .if_icmp .lt 7, 3, 140, 0, 0), (136, .iconst 1, 1, 0, 0, 0), (137, .goto 4, 3, 141, 0, 0), (140, .iconst 0, 1, 0, 0, 0), (141, .ireturn, 1, 0, 0, 0), (142, .iconst 0, 1, 0, 0, 0), (143, .ireturn, 1, 0, 0, 0)]
/-- LoveGlass.share -/
def zc_96 : List (Nat × zI) := [(0, .aload_n 0, 1, 0, 0, 0), (1, .getfield 21, 3, 7, 1, 1194), (4, .iload_n 1, 1, 0, 0, 0), (5, .invokevirtual 161, 3, 26, 0, 2143), (8, .ifCond .ne 5, 3, 13, 0, 0), (11, .iconst (-1), 1, 0, 0, 0), (12, .ireturn, 1, 0, 0, 0), (13, .aload_n 0, 1, 0, 0, 0), (14, .getfield 31, 3, 7, 3, 1196), (17, .invokevirtual 173, 3, 44, 0, 2147), (20, .ifCond .ne 6, 3, 26, 0, 0), (23, .bipush (-3), 2, 0, 0, 0), (25, .ireturn, 1, 0, 0, 0), (26, .aload_n 0, 1, 0, 0, 0), (27, .getfield 35, 3, 7, 4, 1197), (30, .aload_n 0, 1, 0, 0, 0), (31, .getfield 21, 3, 7, 1, 1194), (34, .aload_n 0, 1, 0, 0, 0), (35, .getfield 31, 3, 7, 3, 1196), (38, .getfield 117, 3, 4, 0, 1094), (41, .aload_n 0, 1, 0, 0, 0), (42, .getfield 31, 3, 7, 3, 1196), (45, .getfield 120, 3, 4, 1, 1097), (48, .invokevirtual 196, 3, 42, 0, 2209), (51, .aload_n 0, 1, 0, 0, 0), (52, .getfield 55, 3, 7, 7, 1200), (55, .aload_n 0, 1, 0, 0, 0), (56, .getfield 21, 3, 7, 1, 1194), (59, .aload_n 0, 1, 0, 0, 0), (60, .getfield 35, 3, 7, 4, 1197), (63, .invokevirtual 221, 3, 7, 0, 3025), (66, .aload_n 0, 1, 0, 0, 0), (67, .getfield 55, 3, 7, 7, 1200), (70, .aload_n 0, 1, 0, 0, 0), (71, .getfield 21, 3, 7, 1, 1194), (74, .invokevirtual 264, 3, 15, 0, 3128), (77, .aload_n 0, 1, 0, 0, 0), (78, .getfield 21, 3, 7, 1, 1194), (81, .invokevirtual 108, 3, 23, 0, 2064), (84, .istore_n 3, 1, 0, 0, 0), (85, .iconst 0, 1, 0, 0, 0), (86, .istore 4, 2, 0, 0, 0), (88, .iconst 0, 1, 0, 0, 0), (89, .istore 5, 2, 0, 0, 0), (91, .iload 5, 2, 0, 0, 0), (93, .iconst 1, 1, 0, 0, 0), (94, .iload_n 3, 1, 0, 0, 0), (95, .ishl, 1, 0, 0, 0), (96, .if_icmp .ge 56, 3, 152, 0, 0), (99, .iload 5, 2, 0, 0, 0), (101, .iload_n 1, 1, 0, 0, 0), (102, .invokestatic 255, 3, 114, 0, 3108), (105, .ifCond .ne 41, 3, 146, 0, 0), (108, .iload 5, 2, 0, 0, 0), (110, .invokestatic 268, 3, 188, 0, 3133), (113, .istore 6, 2, 0, 0, 0), (115, .iload 4, 2, 0, 0, 0), (117, .iload 6, 2, 0, 0, 0), (119, .invokestatic 273, 3, 97, 0, 3134), (122, .iload_n 3, 1, 0, 0, 0), (123, .iconst 1, 1, 0, 0, 0), (124, .isub, 1, 0, 0, 0), (125, .iload 6, 2, 0, 0, 0), (127, .isub, 1, 0, 0, 0), (128, .invokestatic 273, 3, 97, 0, 3134), (131, .imul, 1, 0, 0, 0), (132, .aload_n 0, 1, 0, 0, 0), (133, .getfield 55, 3, 7, 7, 1200), (136, .iload 5, 2, 0, 0, 0), (138, .iload_n 1, 1, 0, 0, 0), (139, .invokevirtual 276, 3, 16, 0, 3137), (142, .imul, 1, 0, 0, 0), (143, .iadd, 1, 0, 0, 0), (144, .istore 4, 2, 0, 0, 0), (146, .iinc 5 1, 3, 0, 0, 0), (149, .goto (-58), 3, 91, 0, 0), (152, .iload 4, 2, 0, 0, 0), (154, .iload_n 3, 1, 0, 0, 0), (155, .invokestatic 273, 3, 97, 0, 3134), (158, .iload_n 2, 1, 0, 0, 0), (159, .invokestatic 279, 3, 98, 0, 3141), (162, .ireturn, 1, 0, 0, 0)]
/-- LoveGlass.orders -/
def zc_97 : List (Nat × zI) := [(0, .iconst 1, 1, 0, 0, 0), (1, .istore_n 1, 1, 0, 0, 0), (2, .iconst 2, 1, 0, 0, 0), (3, .istore_n 2, 1, 0, 0, 0), (4, .iload_n 2, 1, 0, 0, 0), (5, .iload_n 0, 1, 0, 0, 0), (6, .if_icmp .gt 13, 3, 19, 0, 0), (9, .iload_n 1, 1, 0, 0, 0), (10, .iload_n 2, 1, 0, 0, 0), (11, .imul, 1, 0, 0, 0), (12, .istore_n 1, 1, 0, 0, 0), (13, .iinc 2 1, 3, 0, 0, 0), (16, .goto (-12), 3, 4, 0, 0), (19, .iload_n 1, 1, 0, 0, 0), (20, .ireturn, 1, 0, 0, 0)]
/-- LoveGlass.fraction -/
def zc_98 : List (Nat × zI) := [(0, .iload_n 0, 1, 0, 0, 0), (1, .iload_n 1, 1, 0, 0, 0), (2, .invokestatic 283, 3, 99, 0, 3144), (5, .istore_n 3, 1, 0, 0, 0), (6, .iload_n 3, 1, 0, 0, 0), (7, .iconst 1, 1, 0, 0, 0), (8, .if_icmp .ge 5, 3, 13, 0, 0), (11, .iconst 0, 1, 0, 0, 0), (12, .ireturn, 1, 0, 0, 0), (13, .iload_n 2, 1, 0, 0, 0), (14, .ifCond .eq 9, 3, 23, 0, 0), (17, .iload_n 0, 1, 0, 0, 0), (18, .iload_n 3, 1, 0, 0, 0), (19, .idiv, 1, 0, 0, 0), (20, .goto 6, 3, 26, 0, 0), (23, .iload_n 1, 1, 0, 0, 0), (24, .iload_n 3, 1, 0, 0, 0), (25, .idiv, 1, 0, 0, 0), (26, .ireturn, 1, 0, 0, 0)]
/-- LoveGlass.commonDivisor -/
def zc_99 : List (Nat × zI) := [(0, .iload_n 0, 1, 0, 0, 0), (1, .istore_n 2, 1, 0, 0, 0), (2, .iload_n 1, 1, 0, 0, 0), (3, .istore_n 3, 1, 0, 0, 0), (4, .iconst 0, 1, 0, 0, 0), (5, .istore 4, 2, 0, 0, 0), (7, .iload 4, 2, 0, 0, 0), (9, .bipush 100, 2, 0, 0, 0), (11, .if_icmp .ge 23, 3, 34, 0, 0), (14, .iload_n 3, 1, 0, 0, 0), (15, .ifCond .le 19, 3, 34, 0, 0), (18, .iload_n 2, 1, 0, 0, 0), (19, .iload_n 3, 1, 0, 0, 0), (20, .irem, 1, 0, 0, 0), (21, .istore 5, 2, 0, 0, 0), (23, .iload_n 3, 1, 0, 0, 0), (24, .istore_n 2, 1, 0, 0, 0), (25, .iload 5, 2, 0, 0, 0), (27, .istore_n 3, 1, 0, 0, 0), (28, .iinc 4 1, 3, 0, 0, 0), (31, .goto (-24), 3, 7, 0, 0), (34, .iload_n 2, 1, 0, 0, 0), (35, .ireturn, 1, 0, 0, 0)]
/-- LoveGlass.time -/
def zc_100 : List (Nat × zI) := [(0, .aload_n 0, 1, 0, 0, 0), (1, .getfield 21, 3, 7, 1, 1194), (4, .iload_n 1, 1, 0, 0, 0), (5, .invokevirtual 161, 3, 26, 0, 2143), (8, .ifCond .ne 5, 3, 13, 0, 0), (11, .iconst (-1), 1, 0, 0, 0), (12, .ireturn, 1, 0, 0, 0), (13, .aload_n 0, 1, 0, 0, 0), (14, .getfield 48, 3, 7, 6, 1199), (17, .iload_n 2, 1, 0, 0, 0), (18, .iload_n 3, 1, 0, 0, 0), (19, .iload 4, 2, 0, 0, 0), (21, .invokevirtual 286, 3, 62, 0, 3151), (24, .ifCond .ne 6, 3, 30, 0, 0), (27, .bipush (-2), 2, 0, 0, 0), (29, .ireturn, 1, 0, 0, 0), (30, .aload_n 0, 1, 0, 0, 0), (31, .getfield 48, 3, 7, 6, 1199), (34, .invokevirtual 289, 3, 60, 0, 3156), (37, .ifCond .eq 6, 3, 43, 0, 0), (40, .bipush (-4), 2, 0, 0, 0), (42, .ireturn, 1, 0, 0, 0), (43, .aload_n 0, 1, 0, 0, 0), (44, .getfield 48, 3, 7, 6, 1199), (47, .iload_n 1, 1, 0, 0, 0), (48, .iload_n 2, 1, 0, 0, 0), (49, .iload_n 3, 1, 0, 0, 0), (50, .iload 4, 2, 0, 0, 0), (52, .invokevirtual 290, 3, 63, 0, 3161), (55, .aload_n 0, 1, 0, 0, 0), (56, .getfield 48, 3, 7, 6, 1199), (59, .invokevirtual 112, 3, 59, 0, 2076), (62, .ireturn, 1, 0, 0, 0)]
/-- LoveGlass.untime -/
def zc_101 : List (Nat × zI) := [(0, .aload_n 0, 1, 0, 0, 0), (1, .getfield 48, 3, 7, 6, 1199), (4, .invokevirtual 112, 3, 59, 0, 2076), (7, .istore_n 1, 1, 0, 0, 0), (8, .aload_n 0, 1, 0, 0, 0), (9, .getfield 48, 3, 7, 6, 1199), (12, .invokevirtual 293, 3, 61, 0, 3170), (15, .iload_n 1, 1, 0, 0, 0), (16, .ireturn, 1, 0, 0, 0)]
/-- LoveGlass.kinds -/
def zc_102 : List (Nat × zI) := [(0, .iconst 0, 1, 0, 0, 0), (1, .istore_n 1, 1, 0, 0, 0), (2, .iconst 0, 1, 0, 0, 0), (3, .istore_n 2, 1, 0, 0, 0), (4, .iload_n 2, 1, 0, 0, 0), (5, .iconst 4, 1, 0, 0, 0), (6, .if_icmp .ge 30, 3, 36, 0, 0), (9, .aload_n 0, 1, 0, 0, 0), (10, .getfield 48, 3, 7, 6, 1199), (13, .aload_n 0, 1, 0, 0, 0), (14, .getfield 21, 3, 7, 1, 1194), (17, .iload_n 2, 1, 0, 0, 0), (18, .invokevirtual 294, 3, 64, 0, 3179), (21, .ifCond .eq 9, 3, 30, 0, 0), (24, .iload_n 1, 1, 0, 0, 0), (25, .iconst 1, 1, 0, 0, 0), (26, .iload_n 2, 1, 0, 0, 0), (27, .ishl, 1, 0, 0, 0), (28, .ior, 1, 0, 0, 0), (29, .istore_n 1, 1, 0, 0, 0), (30, .iinc 2 1, 3, 0, 0, 0), (33, .goto (-29), 3, 4, 0, 0), (36, .iload_n 1, 1, 0, 0, 0), (37, .ireturn, 1, 0, 0, 0)]
/-- LoveGlass.rests -/
def zc_103 : List (Nat × zI) := [(0, .aload_n 0, 1, 0, 0, 0), (1, .getfield 21, 3, 7, 1, 1194), (4, .iload_n 1, 1, 0, 0, 0), (5, .invokevirtual 152, 3, 25, 0, 2135), (8, .ifCond .eq 14, 3, 22, 0, 0), (11, .aload_n 0, 1, 0, 0, 0), (12, .getfield 21, 3, 7, 1, 1194), (15, .iload_n 2, 1, 0, 0, 0), (16, .invokevirtual 152, 3, 25, 0, 2135), (19, .ifCond .ne 5, 3, 24, 0, 0), (22, .iconst (-1), 1, 0, 0, 0), (23, .ireturn, 1, 0, 0, 0), (24, .iload_n 1, 1, 0, 0, 0), (25, .iload_n 2, 1, 0, 0, 0), (26, .if_icmp .eq 12, 3, 38, 0, 0), (29, .iload_n 3, 1, 0, 0, 0), (30, .ifCond .lt 8, 3, 38, 0, 0), (33, .iload_n 3, 1, 0, 0, 0), (34, .iconst 1, 1, 0, 0, 0), (35, .if_icmp .le 6, 3, 41, 0, 0), (38, .bipush (-2), 2, 0, 0, 0), (40, .ireturn, 1, 0, 0, 0), (41, .aload_n 0, 1, 0, 0, 0), (42, .getfield 31, 3, 7, 3, 1196), (45, .invokevirtual 173, 3, 44, 0, 2147), (48, .ifCond .ne 6, 3, 54, 0, 0), (51, .bipush (-3), 2, 0, 0, 0), (53, .ireturn, 1, 0, 0, 0), (54, .aload_n 0, 1, 0, 0, 0), (55, .iload_n 1, 1, 0, 0, 0), (56, .aload_n 0, 1, 0, 0, 0), (57, .getfield 31, 3, 7, 3, 1196), (60, .getfield 123, 3, 4, 2, 1100), (63, .invokevirtual 297, 3, 104, 0, 3191), (66, .istore 4, 2, 0, 0, 0), (68, .aload_n 0, 1, 0, 0, 0), (69, .iload_n 1, 1, 0, 0, 0), (70, .aload_n 0, 1, 0, 0, 0), (71, .getfield 31, 3, 7, 3, 1196), (74, .getfield 123, 3, 4, 2, 1100), (77, .iconst 2, 1, 0, 0, 0), (78, .idiv, 1, 0, 0, 0), (79, .invokevirtual 297, 3, 104, 0, 3191), (82, .istore 5, 2, 0, 0, 0), (84, .aload_n 0, 1, 0, 0, 0), (85, .iload_n 2, 1, 0, 0, 0), (86, .aload_n 0, 1, 0, 0, 0), (87, .getfield 31, 3, 7, 3, 1196), (90, .getfield 123, 3, 4, 2, 1100), (93, .invokevirtual 297, 3, 104, 0, 3191), (96, .istore 6, 2, 0, 0, 0), (98, .aload_n 0, 1, 0, 0, 0), (99, .iload_n 2, 1, 0, 0, 0), (100, .aload_n 0, 1, 0, 0, 0), (101, .getfield 31, 3, 7, 3, 1196), (104, .getfield 123, 3, 4, 2, 1100), (107, .iconst 2, 1, 0, 0, 0), (108, .idiv, 1, 0, 0, 0), (109, .invokevirtual 297, 3, 104, 0, 3191), (112, .istore 7, 2, 0, 0, 0), (114, .iconst 0, 1, 0, 0, 0), (115, .istore 8, 2, 0, 0, 0), (117, .bipush (-9), 2, 0, 0, 0), (119, .istore 9, 2, 0, 0, 0), (121, .iconst 0, 1, 0, 0, 0), (122, .istore 10, 2, 0, 0, 0), (124, .iload 10, 2, 0, 0, 0), (126, .iconst 1, 1, 0, 0, 0), (127, .if_icmp .gt 77, 3, 204, 0, 0), (130, .iconst 0, 1, 0, 0, 0), (131, .istore 11, 2, 0, 0, 0), (133, .iload 11, 2, 0, 0, 0), (135, .iconst 1, 1, 0, 0, 0), (136, .if_icmp .gt 62, 3, 198, 0, 0), (139, .iload 10, 2, 0, 0, 0), (141, .iload 11, 2, 0, 0, 0), (143, .iload 4, 2, 0, 0, 0), (145, .iload 5, 2, 0, 0, 0), (147, .invokestatic 300, 3, 105, 0, 3195), (150, .ifCond .eq 42, 3, 192, 0, 0), (153, .iload 11, 2, 0, 0, 0), (155, .iload 10, 2, 0, 0, 0), (157, .iload 6, 2, 0, 0, 0), (159, .iload 7, 2, 0, 0, 0), (161, .invokestatic 300, 3, 105, 0, 3195), (164, .ifCond .eq 28, 3, 192, 0, 0), (167, .iinc 8 1, 3, 0, 0, 0), (170, .iload 9, 2, 0, 0, 0), (172, .bipush (-9), 2, 0, 0, 0), (174, .if_icmp .ne 14, 3, 188, 0, 0), (177, .bipush 10, 2, 0, 0, 0), (179, .iload 10, 2, 0, 0, 0), (181, .imul, 1, 0, 0, 0), (182, .iload 11, 2, 0, 0, 0), (184, .iadd, 1, 0, 0, 0), (185, .goto 5, 3, 190, 0, 0), (188, .iload 9, 2, 0, 0, 0), (190, .istore 9, 2, 0, 0, 0), (192, .iinc 11 1, 3, 0, 0, 0), (195, .goto (-62), 3, 133, 0, 0), (198, .iinc 10 1, 3, 0, 0, 0), (201, .goto (-77), 3, 124, 0, 0), (204, .iload_n 3, 1, 0, 0, 0), (205, .ifCond .ne 8, 3, 213, 0, 0), (208, .iload 8, 2, 0, 0, 0), (210, .goto 5, 3, 215, 0, 0), (213, .iload 9, 2, 0, 0, 0), (215, .ireturn, 1, 0, 0, 0)]
/-- LoveGlass.warmestAfresh -/
def zc_104 : List (Nat × zI) := [(0, .aload_n 0, 1, 0, 0, 0), (1, .getfield 35, 3, 7, 4, 1197), (4, .aload_n 0, 1, 0, 0, 0), (5, .getfield 21, 3, 7, 1, 1194), (8, .aload_n 0, 1, 0, 0, 0), (9, .getfield 31, 3, 7, 3, 1196), (12, .getfield 117, 3, 4, 0, 1094), (15, .iload_n 1, 1, 0, 0, 0), (16, .invokevirtual 196, 3, 42, 0, 2209), (19, .aload_n 0, 1, 0, 0, 0), (20, .getfield 35, 3, 7, 4, 1197), (23, .iload_n 2, 1, 0, 0, 0), (24, .putfield 123, 3, 4, 2, 1100), (27, .aload_n 0, 1, 0, 0, 0), (28, .getfield 55, 3, 7, 7, 1200), (31, .aload_n 0, 1, 0, 0, 0), (32, .getfield 21, 3, 7, 1, 1194), (35, .aload_n 0, 1, 0, 0, 0), (36, .getfield 35, 3, 7, 4, 1197), (39, .invokevirtual 221, 3, 7, 0, 3025), (42, .aload_n 0, 1, 0, 0, 0), (43, .getfield 55, 3, 7, 7, 1200), (46, .aload_n 0, 1, 0, 0, 0), (47, .getfield 21, 3, 7, 1, 1194), (50, .invokevirtual 225, 3, 10, 0, 3057), (53, .ifCond .eq 13, 3, 66, 0, 0), (56, .aload_n 0, 1, 0, 0, 0), (57, .getfield 55, 3, 7, 7, 1200), (60, .getfield 230, 3, 1, 3, 1173), (63, .goto 4, 3, 67, 0, 0), (66, .iconst 0, 1, 0, 0, 0), (67, .ireturn, 1, 0, 0, 0)]
/-- LoveGlass.isContent -/
def zc_105 : List (Nat × zI) := [(0, .iload_n 0, 1, 0, 0, 0), (1, .iload_n 1, 1, 0, 0, 0), (2, .iload_n 2, 1, 0, 0, 0), (3, .iload_n 3, 1, 0, 0, 0), (4, .invokestatic 304, 3, 106, 0, 3198), (7, .iconst 1, 1, 0, 0, 0), (8, .iload_n 0, 1, 0, 0, 0), (9, .isub, 1, 0, 0, 0), (10, .iload_n 1, 1, 0, 0, 0), (11, .iload_n 2, 1, 0, 0, 0), (12, .iload_n 3, 1, 0, 0, 0), (13, .invokestatic 304, 3, 106, 0, 3198), (16, .if_icmp .lt 7, 3, 23, 0, 0), (19, .iconst 1, 1, 0, 0, 0), (20, .goto 4, 3, 24, 0, 0), (23, .iconst 0, 1, 0, 0, 0), (24, .ireturn, 1, 0, 0, 0)]
/-- LoveGlass.gain -/
def zc_106 : List (Nat × zI) := [(0, .iload_n 0, 1, 0, 0, 0), (1, .ifCond .ne 5, 3, 6, 0, 0), (4, .iconst 2, 1, 0, 0, 0), (5, .ireturn, 1, 0, 0, 0), (6, .iload_n 1, 1, 0, 0, 0), (7, .ifCond .ne 7, 3, 14, 0, 0), (10, .iload_n 2, 1, 0, 0, 0), (11, .goto 4, 3, 15, 0, 0), (14, .iload_n 3, 1, 0, 0, 0), (15, .ireturn, 1, 0, 0, 0)]
/-- LoveGlass.misheard -/
def zc_107 : List (Nat × zI) := [(0, .iload_n 1, 1, 0, 0, 0), (1, .ifCond .lt 9, 3, 10, 0, 0), (4, .iload_n 1, 1, 0, 0, 0), (5, .bipush 10, 2, 0, 0, 0), (7, .if_icmp .le 6, 3, 13, 0, 0), (10, .bipush (-2), 2, 0, 0, 0), (12, .ireturn, 1, 0, 0, 0), (13, .aload_n 0, 1, 0, 0, 0), (14, .getfield 68, 3, 7, 11, 1204), (17, .iconst 0, 1, 0, 0, 0), (18, .invokestatic 307, 3, 189, 0, 3205), (21, .aload_n 0, 1, 0, 0, 0), (22, .getfield 68, 3, 7, 11, 1204), (25, .iconst 0, 1, 0, 0, 0), (26, .iconst 1, 1, 0, 0, 0), (27, .iastore, 1, 0, 0, 0), (28, .iconst 1, 1, 0, 0, 0), (29, .istore_n 3, 1, 0, 0, 0), (30, .iconst 0, 1, 0, 0, 0), (31, .istore 4, 2, 0, 0, 0), (33, .iload 4, 2, 0, 0, 0), (35, .aload_n 0, 1, 0, 0, 0), (36, .getfield 31, 3, 7, 3, 1196), (39, .invokevirtual 126, 3, 45, 0, 2085), (42, .if_icmp .ge 41, 3, 83, 0, 0), (45, .aload_n 0, 1, 0, 0, 0), (46, .aload_n 0, 1, 0, 0, 0), (47, .getfield 21, 3, 7, 1, 1194), (50, .getfield 170, 3, 2, 6, 1068), (53, .aload_n 0, 1, 0, 0, 0), (54, .getfield 31, 3, 7, 3, 1196), (57, .getfield 183, 3, 4, 3, 1102), (60, .iload 4, 2, 0, 0, 0), (62, .invokevirtual 143, 3, 36, 0, 2126), (65, .invokevirtual 143, 3, 36, 0, 2126), (68, .iload_n 1, 1, 0, 0, 0), (69, .invokevirtual 313, 3, 108, 0, 3206), (72, .iload_n 3, 1, 0, 0, 0), (73, .bipush 10, 2, 0, 0, 0), (75, .imul, 1, 0, 0, 0), (76, .istore_n 3, 1, 0, 0, 0), (77, .iinc 4 1, 3, 0, 0, 0), (80, .goto (-47), 3, 33, 0, 0), (83, .aload_n 0, 1, 0, 0, 0), (84, .getfield 68, 3, 7, 11, 1204), (87, .iconst 3, 1, 0, 0, 0), (88, .iaload, 1, 0, 0, 0), (89, .iload_n 3, 1, 0, 0, 0), (90, .iload_n 2, 1, 0, 0, 0), (91, .invokestatic 279, 3, 98, 0, 3141), (94, .ireturn, 1, 0, 0, 0)]
/-- LoveGlass.hear -/
def zc_108 : List (Nat × zI) := [(0, .aload_n 0, 1, 0, 0, 0), (1, .getfield 68, 3, 7, 11, 1204), (4, .arraylength, 1, 0, 0, 0), (5, .iconst 1, 1, 0, 0, 0), (6, .isub, 1, 0, 0, 0), (7, .istore_n 3, 1, 0, 0, 0), (8, .iload_n 3, 1, 0, 0, 0), (9, .ifCond .lt 61, 3, 70, 0, 0), (12, .iload_n 3, 1, 0, 0, 0), (13, .iload_n 1, 1, 0, 0, 0), (14, .invokestatic 317, 3, 115, 0, 3210), (17, .istore 4, 2, 0, 0, 0), (19, .aload_n 0, 1, 0, 0, 0), (20, .getfield 68, 3, 7, 11, 1204), (23, .iload_n 3, 1, 0, 0, 0), (24, .iaload, 1, 0, 0, 0), (25, .bipush 10, 2, 0, 0, 0), (27, .iload_n 2, 1, 0, 0, 0), (28, .isub, 1, 0, 0, 0), (29, .imul, 1, 0, 0, 0), (30, .istore 5, 2, 0, 0, 0), (32, .aload_n 0, 1, 0, 0, 0), (33, .getfield 68, 3, 7, 11, 1204), (36, .iload_n 3, 1, 0, 0, 0), (37, .dup2, 1, 0, 0, 0), (38, .iaload, 1, 0, 0, 0), (39, .iload_n 2, 1, 0, 0, 0), (40, .imul, 1, 0, 0, 0), (41, .iastore, 1, 0, 0, 0), (42, .iload 4, 2, 0, 0, 0), (44, .aload_n 0, 1, 0, 0, 0), (45, .getfield 68, 3, 7, 11, 1204), (48, .arraylength, 1, 0, 0, 0), (49, .if_icmp .ge 15, 3, 64, 0, 0), (52, .aload_n 0, 1, 0, 0, 0), (53, .getfield 68, 3, 7, 11, 1204), (56, .iload 4, 2, 0, 0, 0), (58, .dup2, 1, 0, 0, 0), (59, .iaload, 1, 0, 0, 0), (60, .iload 5, 2, 0, 0, 0), (62, .iadd, 1, 0, 0, 0), (63, .iastore, 1, 0, 0, 0), (64, .iinc 3 (-1), 3, 0, 0, 0), (67, .goto (-59), 3, 8, 0, 0), (70, .return_, 1, 0, 0, 0)]
/-- LoveGlass.seed -/
def zc_109 : List (Nat × zI) := [(0, .aload_n 0, 1, 0, 0, 0), (1, .getfield 320, 3, 7, 10, 1203), (4, .lstore_n 3, 1, 0, 0, 0), (5, .aload_n 0, 1, 0, 0, 0), (6, .lload_n 1, 1, 0, 0, 0), (7, .putfield 320, 3, 7, 10, 1203), (10, .lload_n 3, 1, 0, 0, 0), (11, .lreturn, 1, 0, 0, 0)]
/-- LoveGlass.weeks -/
def zc_110 : List (Nat × zI) := [(0, .iload_n 1, 1, 0, 0, 0), (1, .iconst 1, 1, 0, 0, 0), (2, .if_icmp .lt 9, 3, 11, 0, 0), (5, .iload_n 1, 1, 0, 0, 0), (6, .bipush 30, 2, 0, 0, 0), (8, .if_icmp .le 6, 3, 14, 0, 0), (11, .bipush (-2), 2, 0, 0, 0), (13, .ireturn, 1, 0, 0, 0), (14, .aload_n 0, 1, 0, 0, 0), (15, .getfield 35, 3, 7, 4, 1197), (18, .aload_n 0, 1, 0, 0, 0), (19, .getfield 31, 3, 7, 3, 1196), (22, .invokevirtual 200, 3, 43, 0, 2218), (25, .iconst 0, 1, 0, 0, 0), (26, .istore_n 2, 1, 0, 0, 0), (27, .iconst 0, 1, 0, 0, 0), (28, .istore_n 3, 1, 0, 0, 0), (29, .iload_n 3, 1, 0, 0, 0), (30, .iload_n 1, 1, 0, 0, 0), (31, .if_icmp .ge 61, 3, 92, 0, 0), (34, .aload_n 0, 1, 0, 0, 0), (35, .aload_n 0, 1, 0, 0, 0), (36, .getfield 320, 3, 7, 10, 1203), (39, .ldc2_w 324, 3, 6364136223846793005, 0, 3219), (42, .lmul, 1, 0, 0, 0), (43, .ldc2_w 326, 3, 1442695040888963407, 0, 3220), (46, .ladd, 1, 0, 0, 0), (47, .putfield 320, 3, 7, 10, 1203), (50, .aload_n 0, 1, 0, 0, 0), (51, .aload_n 0, 1, 0, 0, 0), (52, .getfield 320, 3, 7, 10, 1203), (55, .bipush 33, 2, 0, 0, 0), (57, .lushr, 1, 0, 0, 0), (58, .ldc2_w 328, 3, 28, 0, 3221), (61, .lrem, 1, 0, 0, 0), (62, .l2i, 1, 0, 0, 0), (63, .invokevirtual 330, 3, 111, 0, 3222), (66, .ifCond .eq 20, 3, 86, 0, 0), (69, .aload_n 0, 1, 0, 0, 0), (70, .getfield 35, 3, 7, 4, 1197), (73, .aload_n 0, 1, 0, 0, 0), (74, .getfield 21, 3, 7, 1, 1194), (77, .invokevirtual 133, 3, 49, 0, 2103), (80, .ifCond .eq 6, 3, 86, 0, 0), (83, .iinc 2 1, 3, 0, 0, 0), (86, .iinc 3 1, 3, 0, 0, 0), (89, .goto (-60), 3, 29, 0, 0), (92, .iload_n 2, 1, 0, 0, 0), (93, .ireturn, 1, 0, 0, 0)]
/-- LoveGlass.speaksInWeek -/
def zc_111 : List (Nat × zI) := [(0, .iload_n 1, 1, 0, 0, 0), (1, .bipush 22, 2, 0, 0, 0), (3, .if_icmp .lt 19, 3, 22, 0, 0), (6, .aload_n 0, 1, 0, 0, 0), (7, .getfield 35, 3, 7, 4, 1197), (10, .iload_n 1, 1, 0, 0, 0), (11, .bipush 22, 2, 0, 0, 0), (13, .isub, 1, 0, 0, 0), (14, .iconst 1, 1, 0, 0, 0), (15, .iadd, 1, 0, 0, 0), (16, .invokevirtual 214, 3, 53, 0, 3004), (19, .pop, 1, 0, 0, 0), (20, .iconst 0, 1, 0, 0, 0), (21, .ireturn, 1, 0, 0, 0), (22, .iload_n 1, 1, 0, 0, 0), (23, .bipush 16, 2, 0, 0, 0), (25, .if_icmp .lt 19, 3, 44, 0, 0), (28, .aload_n 0, 1, 0, 0, 0), (29, .getfield 35, 3, 7, 4, 1197), (32, .aload_n 0, 1, 0, 0, 0), (33, .getfield 21, 3, 7, 1, 1194), (36, .iload_n 1, 1, 0, 0, 0), (37, .bipush 16, 2, 0, 0, 0), (39, .isub, 1, 0, 0, 0), (40, .invokevirtual 203, 3, 51, 0, 2219), (43, .ireturn, 1, 0, 0, 0), (44, .iload_n 1, 1, 0, 0, 0), (45, .iconst 4, 1, 0, 0, 0), (46, .idiv, 1, 0, 0, 0), (47, .istore_n 2, 1, 0, 0, 0), (48, .iload_n 1, 1, 0, 0, 0), (49, .iconst 4, 1, 0, 0, 0), (50, .irem, 1, 0, 0, 0), (51, .istore_n 3, 1, 0, 0, 0), (52, .aload_n 0, 1, 0, 0, 0), (53, .getfield 21, 3, 7, 1, 1194), (56, .iload_n 2, 1, 0, 0, 0), (57, .invokevirtual 137, 3, 24, 0, 2118), (60, .ifCond .eq 27, 3, 87, 0, 0), (63, .aload_n 0, 1, 0, 0, 0), (64, .getfield 21, 3, 7, 1, 1194), (67, .iload_n 3, 1, 0, 0, 0), (68, .invokevirtual 152, 3, 25, 0, 2135), (71, .ifCond .eq 16, 3, 87, 0, 0), (74, .aload_n 0, 1, 0, 0, 0), (75, .getfield 35, 3, 7, 4, 1197), (78, .aload_n 0, 1, 0, 0, 0), (79, .getfield 21, 3, 7, 1, 1194), (82, .iload_n 2, 1, 0, 0, 0), (83, .iload_n 3, 1, 0, 0, 0), (84, .invokevirtual 196, 3, 42, 0, 2209), (87, .iconst 0, 1, 0, 0, 0), (88, .ireturn, 1, 0, 0, 0)]
/-- LoveGlass.keep -/
def zc_112 : List (Nat × zI) := [(0, .iload_n 1, 1, 0, 0, 0), (1, .ifCond .lt 8, 3, 9, 0, 0), (4, .iload_n 1, 1, 0, 0, 0), (5, .iconst 2, 1, 0, 0, 0), (6, .if_icmp .lt 5, 3, 11, 0, 0), (9, .iconst (-1), 1, 0, 0, 0), (10, .ireturn, 1, 0, 0, 0), (11, .aload_n 0, 1, 0, 0, 0), (12, .getfield 64, 3, 7, 8, 1201), (15, .iload_n 1, 1, 0, 0, 0), (16, .aload_n 0, 1, 0, 0, 0), (17, .getfield 31, 3, 7, 3, 1196), (20, .invokevirtual 333, 3, 56, 0, 3230), (23, .aload_n 0, 1, 0, 0, 0), (24, .dup, 1, 0, 0, 0), (25, .getfield 98, 3, 7, 9, 1202), (28, .iconst 1, 1, 0, 0, 0), (29, .iload_n 1, 1, 0, 0, 0), (30, .ishl, 1, 0, 0, 0), (31, .ior, 1, 0, 0, 0), (32, .putfield 98, 3, 7, 9, 1202), (35, .aload_n 0, 1, 0, 0, 0), (36, .getfield 31, 3, 7, 3, 1196), (39, .getfield 123, 3, 4, 2, 1100), (42, .ireturn, 1, 0, 0, 0)]
/-- LoveGlass.again -/
def zc_113 : List (Nat × zI) := [(0, .iload_n 1, 1, 0, 0, 0), (1, .ifCond .lt 8, 3, 9, 0, 0), (4, .iload_n 1, 1, 0, 0, 0), (5, .iconst 2, 1, 0, 0, 0), (6, .if_icmp .lt 5, 3, 11, 0, 0), (9, .iconst (-1), 1, 0, 0, 0), (10, .ireturn, 1, 0, 0, 0), (11, .aload_n 0, 1, 0, 0, 0), (12, .getfield 98, 3, 7, 9, 1202), (15, .iload_n 1, 1, 0, 0, 0), (16, .invokestatic 255, 3, 114, 0, 3108), (19, .ifCond .ne 6, 3, 25, 0, 0), (22, .bipush (-3), 2, 0, 0, 0), (24, .ireturn, 1, 0, 0, 0), (25, .aload_n 0, 1, 0, 0, 0), (26, .getfield 64, 3, 7, 8, 1201), (29, .iload_n 1, 1, 0, 0, 0), (30, .aload_n 0, 1, 0, 0, 0), (31, .getfield 31, 3, 7, 3, 1196), (34, .invokevirtual 337, 3, 57, 0, 3235), (37, .aload_n 0, 1, 0, 0, 0), (38, .getfield 41, 3, 7, 5, 1198), (41, .invokevirtual 97, 3, 2, 0, 2052), (44, .aload_n 0, 1, 0, 0, 0), (45, .getfield 31, 3, 7, 3, 1196), (48, .getfield 123, 3, 4, 2, 1100), (51, .ireturn, 1, 0, 0, 0)]
/-- LoveGlass.isIn -/
def zc_114 : List (Nat × zI) := [(0, .iload_n 0, 1, 0, 0, 0), (1, .iload_n 1, 1, 0, 0, 0), (2, .ishr, 1, 0, 0, 0), (3, .iconst 1, 1, 0, 0, 0), (4, .iand, 1, 0, 0, 0), (5, .iconst 1, 1, 0, 0, 0), (6, .if_icmp .ne 7, 3, 13, 0, 0), (9, .iconst 1, 1, 0, 0, 0), (10, .goto 4, 3, 14, 0, 0), (13, .iconst 0, 1, 0, 0, 0), (14, .ireturn, 1, 0, 0, 0)]
/-- LoveGlass.stageBehind -/
def zc_115 : List (Nat × zI) := [(0, .iload_n 0, 1, 0, 0, 0), (1, .iconst 3, 1, 0, 0, 0), (2, .if_icmp .ge 16, 3, 18, 0, 0), (5, .iload_n 1, 1, 0, 0, 0), (6, .iload_n 0, 1, 0, 0, 0), (7, .iconst 1, 1, 0, 0, 0), (8, .iadd, 1, 0, 0, 0), (9, .if_icmp .ne 9, 3, 18, 0, 0), (12, .iload_n 0, 1, 0, 0, 0), (13, .iconst 1, 1, 0, 0, 0), (14, .iadd, 1, 0, 0, 0), (15, .goto 4, 3, 19, 0, 0), (18, .iload_n 0, 1, 0, 0, 0), (19, .ireturn, 1, 0, 0, 0)]
/-- LoveGlassModel.<init> -/
def zc_116 : List (Nat × zI) := [(0, .aload_n 0, 1, 0, 0, 0), (1, .invokespecial 1, 3, 0, 2, 4001), (4, .aload_n 0, 1, 0, 0, 0), (5, .bipush 56, 2, 0, 0, 0), (7, .newarray .int, 2, 0, 0, 1043), (9, .putfield 7, 3, 8, 1, 4003), (12, .aload_n 0, 1, 0, 0, 0), (13, .bipush 8, 2, 0, 0, 0), (15, .newarray .int, 2, 0, 0, 1043), (17, .putfield 13, 3, 8, 5, 4007), (20, .aload_n 0, 1, 0, 0, 0), (21, .bipush 8, 2, 0, 0, 0), (23, .newarray .int, 2, 0, 0, 1043), (25, .putfield 16, 3, 8, 7, 4009), (28, .aload_n 0, 1, 0, 0, 0), (29, .bipush 18, 2, 0, 0, 0), (31, .newarray .int, 2, 0, 0, 1043), (33, .putfield 19, 3, 8, 9, 4011), (36, .aload_n 0, 1, 0, 0, 0), (37, .bipush 8, 2, 0, 0, 0), (39, .newarray .int, 2, 0, 0, 1043), (41, .putfield 22, 3, 8, 11, 4013), (44, .aload_n 0, 1, 0, 0, 0), (45, .bipush 8, 2, 0, 0, 0), (47, .newarray .int, 2, 0, 0, 1043), (49, .putfield 25, 3, 8, 13, 4015), (52, .aload_n 0, 1, 0, 0, 0), (53, .bipush 18, 2, 0, 0, 0), (55, .newarray .int, 2, 0, 0, 1043), (57, .putfield 28, 3, 8, 15, 4017), (60, .aload_n 0, 1, 0, 0, 0), (61, .bipush 10, 2, 0, 0, 0), (63, .newarray .int, 2, 0, 0, 1043), (65, .putfield 31, 3, 8, 16, 4018), (68, .aload_n 0, 1, 0, 0, 0), (69, .bipush 10, 2, 0, 0, 0), (71, .newarray .int, 2, 0, 0, 1043), (73, .putfield 34, 3, 8, 17, 4019), (76, .aload_n 0, 1, 0, 0, 0), (77, .sipush 140, 3, 0, 0, 0), (80, .newarray .int, 2, 0, 0, 1043), (82, .putfield 37, 3, 8, 18, 4020), (85, .aload_n 0, 1, 0, 0, 0), (86, .bipush 20, 2, 0, 0, 0), (88, .newarray .int, 2, 0, 0, 1043), (90, .putfield 40, 3, 8, 20, 4022), (93, .aload_n 0, 1, 0, 0, 0), (94, .iconst 2, 1, 0, 0, 0), (95, .newarray .boolean, 2, 1, 0, 4126), (97, .putfield 43, 3, 8, 21, 4023), (100, .aload_n 0, 1, 0, 0, 0), (101, .bipush 6, 2, 0, 0, 0), (103, .newarray .int, 2, 0, 0, 1043), (105, .putfield 47, 3, 8, 23, 4025), (108, .aload_n 0, 1, 0, 0, 0), (109, .bipush 6, 2, 0, 0, 0), (111, .newarray .int, 2, 0, 0, 1043), (113, .putfield 50, 3, 8, 24, 4026), (116, .aload_n 0, 1, 0, 0, 0), (117, .bipush 6, 2, 0, 0, 0), (119, .newarray .int, 2, 0, 0, 1043), (121, .putfield 53, 3, 8, 25, 4027), (124, .aload_n 0, 1, 0, 0, 0), (125, .bipush 6, 2, 0, 0, 0), (127, .newarray .int, 2, 0, 0, 1043), (129, .putfield 56, 3, 8, 26, 4028), (132, .aload_n 0, 1, 0, 0, 0), (133, .bipush 8, 2, 0, 0, 0), (135, .newarray .int, 2, 0, 0, 1043), (137, .putfield 59, 3, 8, 28, 4030), (140, .aload_n 0, 1, 0, 0, 0), (141, .bipush 8, 2, 0, 0, 0), (143, .newarray .int, 2, 0, 0, 1043), (145, .putfield 62, 3, 8, 29, 4031), (148, .aload_n 0, 1, 0, 0, 0), (149, .bipush 8, 2, 0, 0, 0), (151, .newarray .int, 2, 0, 0, 1043), (153, .putfield 65, 3, 8, 39, 4041), (156, .aload_n 0, 1, 0, 0, 0), (157, .bipush 64, 2, 0, 0, 0), (159, .newarray .int, 2, 0, 0, 1043), (161, .putfield 68, 3, 8, 40, 4042), (164, .aload_n 0, 1, 0, 0, 0), (165, .getfield 31, 3, 8, 16, 4018), (168, .iconst 0, 1, 0, 0, 0), (169, .bipush (-9), 2, 0, 0, 0), (171, .iastore, 1, 0, 0, 0), (172, .aload_n 0, 1, 0, 0, 0), (173, .getfield 31, 3, 8, 16, 4018), (176, .iconst 1, 1, 0, 0, 0), (177, .bipush (-9), 2, 0, 0, 0), (179, .iastore, 1, 0, 0, 0), (180, .return_, 1, 0, 0, 0)]
/-- LoveGlassModel.in -/
def zc_117 : List (Nat × zI) := [(0, .lload_n 0, 1, 0, 0, 0), (1, .lload_n 2, 1, 0, 0, 0), (2, .lcmp, 1, 0, 0, 0), (3, .ifCond .lt 14, 3, 17, 0, 0), (6, .lload_n 0, 1, 0, 0, 0), (7, .lload 4, 2, 0, 0, 0), (9, .lcmp, 1, 0, 0, 0), (10, .ifCond .gt 7, 3, 17, 0, 0), (13, .iconst 1, 1, 0, 0, 0), (14, .goto 4, 3, 18, 0, 0), (17, .iconst 0, 1, 0, 0, 0), (18, .ireturn, 1, 0, 0, 0)]
/-- LoveGlassModel.has -/
def zc_118 : List (Nat × zI) := [(0, .iload_n 0, 1, 0, 0, 0), (1, .iload_n 1, 1, 0, 0, 0), (2, .ishr, 1, 0, 0, 0), (3, .iconst 1, 1, 0, 0, 0), (4, .iand, 1, 0, 0, 0), (5, .iconst 1, 1, 0, 0, 0), (6, .if_icmp .ne 7, 3, 13, 0, 0), (9, .iconst 1, 1, 0, 0, 0), (10, .goto 4, 3, 14, 0, 0), (13, .iconst 0, 1, 0, 0, 0), (14, .ireturn, 1, 0, 0, 0)]
/-- LoveGlassModel.many -/
def zc_119 : List (Nat × zI) := [(0, .iconst 0, 1, 0, 0, 0), (1, .istore_n 1, 1, 0, 0, 0), (2, .iconst 0, 1, 0, 0, 0), (3, .istore_n 2, 1, 0, 0, 0), (4, .iload_n 2, 1, 0, 0, 0), (5, .bipush 6, 2, 0, 0, 0), (7, .if_icmp .ge 17, 3, 24, 0, 0), (10, .iload_n 1, 1, 0, 0, 0), (11, .iload_n 0, 1, 0, 0, 0), (12, .iload_n 2, 1, 0, 0, 0), (13, .ishr, 1, 0, 0, 0), (14, .iconst 1, 1, 0, 0, 0), (15, .iand, 1, 0, 0, 0), (16, .iadd, 1, 0, 0, 0), (17, .istore_n 1, 1, 0, 0, 0), (18, .iinc 2 1, 3, 0, 0, 0), (21, .goto (-17), 3, 4, 0, 0), (24, .iload_n 1, 1, 0, 0, 0), (25, .ireturn, 1, 0, 0, 0)]
/-- LoveGlassModel.power -/
def zc_120 : List (Nat × zI) := [(0, .iconst 1, 1, 0, 0, 0), (1, .istore_n 2, 1, 0, 0, 0), (2, .iconst 0, 1, 0, 0, 0), (3, .istore_n 3, 1, 0, 0, 0), (4, .iload_n 3, 1, 0, 0, 0), (5, .iload_n 1, 1, 0, 0, 0), (6, .if_icmp .ge 13, 3, 19, 0, 0), (9, .iload_n 2, 1, 0, 0, 0), (10, .iload_n 0, 1, 0, 0, 0), (11, .imul, 1, 0, 0, 0), (12, .istore_n 2, 1, 0, 0, 0), (13, .iinc 3 1, 3, 0, 0, 0), (16, .goto (-12), 3, 4, 0, 0), (19, .iload_n 2, 1, 0, 0, 0), (20, .ireturn, 1, 0, 0, 0)]
/-- LoveGlassModel.noGlass -/
def zc_121 : List (Nat × zI) := [(0, .iload_n 1, 1, 0, 0, 0), (1, .i2l, 1, 0, 0, 0), (2, .lconst 0, 1, 0, 0, 0), (3, .aload_n 0, 1, 0, 0, 0), (4, .getfield 75, 3, 8, 4, 4006), (7, .iconst 1, 1, 0, 0, 0), (8, .isub, 1, 0, 0, 0), (9, .i2l, 1, 0, 0, 0), (10, .invokestatic 78, 3, 117, 0, 4132), (13, .ifCond .ne 7, 3, 20, 0, 0), (16, .iconst 1, 1, 0, 0, 0), (17, .goto 4, 3, 21, 0, 0), (20, .iconst 0, 1, 0, 0, 0), (21, .ireturn, 1, 0, 0, 0)]
/-- LoveGlassModel.noSuitor -/
def zc_122 : List (Nat × zI) := [(0, .iload_n 1, 1, 0, 0, 0), (1, .i2l, 1, 0, 0, 0), (2, .lconst 0, 1, 0, 0, 0), (3, .aload_n 0, 1, 0, 0, 0), (4, .getfield 82, 3, 8, 6, 4008), (7, .iconst 1, 1, 0, 0, 0), (8, .isub, 1, 0, 0, 0), (9, .i2l, 1, 0, 0, 0), (10, .invokestatic 78, 3, 117, 0, 4132), (13, .ifCond .ne 7, 3, 20, 0, 0), (16, .iconst 1, 1, 0, 0, 0), (17, .goto 4, 3, 21, 0, 0), (20, .iconst 0, 1, 0, 0, 0), (21, .ireturn, 1, 0, 0, 0)]
/-- LoveGlassModel.noSaying -/
def zc_123 : List (Nat × zI) := [(0, .iload_n 1, 1, 0, 0, 0), (1, .i2l, 1, 0, 0, 0), (2, .lconst 0, 1, 0, 0, 0), (3, .aload_n 0, 1, 0, 0, 0), (4, .getfield 85, 3, 8, 8, 4010), (7, .iconst 1, 1, 0, 0, 0), (8, .isub, 1, 0, 0, 0), (9, .i2l, 1, 0, 0, 0), (10, .invokestatic 78, 3, 117, 0, 4132), (13, .ifCond .ne 7, 3, 20, 0, 0), (16, .iconst 1, 1, 0, 0, 0), (17, .goto 4, 3, 21, 0, 0), (20, .iconst 0, 1, 0, 0, 0), (21, .ireturn, 1, 0, 0, 0)]
/-- LoveGlassModel.write -/
def zc_124 : List (Nat × zI) := [(0, .aload_n 0, 1, 0, 0, 0), (1, .iconst 0, 1, 0, 0, 0), (2, .putfield 71, 3, 8, 0, 4002), (5, .iload_n 1, 1, 0, 0, 0), (6, .i2l, 1, 0, 0, 0), (7, .lconst 0, 1, 0, 0, 0), (8, .ldc2_w 88, 3, 255, 0, 4131), (11, .invokestatic 78, 3, 117, 0, 4132), (14, .ifCond .ne 6, 3, 20, 0, 0), (17, .bipush (-2), 2, 0, 0, 0), (19, .ireturn, 1, 0, 0, 0), (20, .aload_n 0, 1, 0, 0, 0), (21, .getfield 90, 3, 8, 2, 4004), (24, .bipush 56, 2, 0, 0, 0), (26, .if_icmp .ne 6, 3, 32, 0, 0), (29, .bipush (-4), 2, 0, 0, 0), (31, .ireturn, 1, 0, 0, 0), (32, .aload_n 0, 1, 0, 0, 0), (33, .getfield 7, 3, 8, 1, 4003), (36, .aload_n 0, 1, 0, 0, 0), (37, .getfield 90, 3, 8, 2, 4004), (40, .iload_n 1, 1, 0, 0, 0), (41, .iastore, 1, 0, 0, 0), (42, .aload_n 0, 1, 0, 0, 0), (43, .dup, 1, 0, 0, 0), (44, .getfield 90, 3, 8, 2, 4004), (47, .iconst 1, 1, 0, 0, 0), (48, .iadd, 1, 0, 0, 0), (49, .putfield 90, 3, 8, 2, 4004), (52, .aload_n 0, 1, 0, 0, 0), (53, .getfield 90, 3, 8, 2, 4004), (56, .ireturn, 1, 0, 0, 0)]
/-- LoveGlassModel.wipe -/
def zc_125 : List (Nat × zI) := [(0, .aload_n 0, 1, 0, 0, 0), (1, .iconst 0, 1, 0, 0, 0), (2, .putfield 71, 3, 8, 0, 4002), (5, .aload_n 0, 1, 0, 0, 0), (6, .getfield 90, 3, 8, 2, 4004), (9, .istore_n 1, 1, 0, 0, 0), (10, .aload_n 0, 1, 0, 0, 0), (11, .iconst 0, 1, 0, 0, 0), (12, .putfield 90, 3, 8, 2, 4004), (15, .iload_n 1, 1, 0, 0, 0), (16, .ireturn, 1, 0, 0, 0)]
/-- LoveGlassModel.figure -/
def zc_126 : List (Nat × zI) := [(0, .aload_n 0, 1, 0, 0, 0), (1, .getfield 93, 3, 8, 3, 4005), (4, .aload_n 0, 1, 0, 0, 0), (5, .getfield 90, 3, 8, 2, 4004), (8, .if_icmp .eq 26, 3, 34, 0, 0), (11, .aload_n 0, 1, 0, 0, 0), (12, .getfield 7, 3, 8, 1, 4003), (15, .aload_n 0, 1, 0, 0, 0), (16, .getfield 93, 3, 8, 3, 4005), (19, .iaload, 1, 0, 0, 0), (20, .bipush 48, 2, 0, 0, 0), (22, .isub, 1, 0, 0, 0), (23, .i2l, 1, 0, 0, 0), (24, .iload_n 1, 1, 0, 0, 0), (25, .i2l, 1, 0, 0, 0), (26, .iload_n 2, 1, 0, 0, 0), (27, .i2l, 1, 0, 0, 0), (28, .invokestatic 78, 3, 117, 0, 4132), (31, .ifCond .ne 6, 3, 37, 0, 0), (34, .bipush (-9), 2, 0, 0, 0), (36, .ireturn, 1, 0, 0, 0), (37, .aload_n 0, 1, 0, 0, 0), (38, .dup, 1, 0, 0, 0), (39, .getfield 93, 3, 8, 3, 4005), (42, .iconst 1, 1, 0, 0, 0), (43, .iadd, 1, 0, 0, 0), (44, .putfield 93, 3, 8, 3, 4005), (47, .aload_n 0, 1, 0, 0, 0), (48, .getfield 7, 3, 8, 1, 4003), (51, .aload_n 0, 1, 0, 0, 0), (52, .getfield 93, 3, 8, 3, 4005), (55, .iconst 1, 1, 0, 0, 0), (56, .isub, 1, 0, 0, 0), (57, .iaload, 1, 0, 0, 0), (58, .bipush 48, 2, 0, 0, 0), (60, .isub, 1, 0, 0, 0), (61, .ireturn, 1, 0, 0, 0)]
/-- LoveGlassModel.readOneGlass -/
def zc_127 : List (Nat × zI) := [(0, .aload_n 0, 1, 0, 0, 0), (1, .iconst 1, 1, 0, 0, 0), (2, .bipush 9, 2, 0, 0, 0), (4, .invokevirtual 96, 3, 126, 0, 4155), (7, .istore_n 1, 1, 0, 0, 0), (8, .iload_n 1, 1, 0, 0, 0), (9, .bipush (-9), 2, 0, 0, 0), (11, .if_icmp .ne 8, 3, 19, 0, 0), (14, .bipush (-9), 2, 0, 0, 0), (16, .goto 9, 3, 25, 0, 0), (19, .aload_n 0, 1, 0, 0, 0), (20, .iconst 0, 1, 0, 0, 0), (21, .iconst 3, 1, 0, 0, 0), (22, .invokevirtual 96, 3, 126, 0, 4155), (25, .istore_n 2, 1, 0, 0, 0), (26, .iload_n 2, 1, 0, 0, 0), (27, .bipush (-9), 2, 0, 0, 0), (29, .if_icmp .ne 5, 3, 34, 0, 0), (32, .iconst 0, 1, 0, 0, 0), (33, .ireturn, 1, 0, 0, 0), (34, .aload_n 0, 1, 0, 0, 0), (35, .getfield 22, 3, 8, 11, 4013), (38, .iconst 2, 1, 0, 0, 0), (39, .aload_n 0, 1, 0, 0, 0), (40, .getfield 100, 3, 8, 10, 4012), (43, .imul, 1, 0, 0, 0), (44, .iload_n 1, 1, 0, 0, 0), (45, .iastore, 1, 0, 0, 0), (46, .aload_n 0, 1, 0, 0, 0), (47, .getfield 22, 3, 8, 11, 4013), (50, .iconst 2, 1, 0, 0, 0), (51, .aload_n 0, 1, 0, 0, 0), (52, .getfield 100, 3, 8, 10, 4012), (55, .imul, 1, 0, 0, 0), (56, .iconst 1, 1, 0, 0, 0), (57, .iadd, 1, 0, 0, 0), (58, .iload_n 2, 1, 0, 0, 0), (59, .iastore, 1, 0, 0, 0), (60, .aload_n 0, 1, 0, 0, 0), (61, .dup, 1, 0, 0, 0), (62, .getfield 100, 3, 8, 10, 4012), (65, .iconst 1, 1, 0, 0, 0), (66, .iadd, 1, 0, 0, 0), (67, .putfield 100, 3, 8, 10, 4012), (70, .iconst 1, 1, 0, 0, 0), (71, .ireturn, 1, 0, 0, 0)]
/-- LoveGlassModel.readOneSuitor -/
def zc_128 : List (Nat × zI) := [(0, .aload_n 0, 1, 0, 0, 0), (1, .iconst 1, 1, 0, 0, 0), (2, .iconst 4, 1, 0, 0, 0), (3, .invokevirtual 96, 3, 126, 0, 4155), (6, .istore_n 1, 1, 0, 0, 0), (7, .iload_n 1, 1, 0, 0, 0), (8, .bipush (-9), 2, 0, 0, 0), (10, .if_icmp .ne 8, 3, 18, 0, 0), (13, .bipush (-9), 2, 0, 0, 0), (15, .goto 9, 3, 24, 0, 0), (18, .aload_n 0, 1, 0, 0, 0), (19, .iconst 0, 1, 0, 0, 0), (20, .iconst 3, 1, 0, 0, 0), (21, .invokevirtual 96, 3, 126, 0, 4155), (24, .istore_n 2, 1, 0, 0, 0), (25, .iload_n 2, 1, 0, 0, 0), (26, .bipush (-9), 2, 0, 0, 0), (28, .if_icmp .ne 5, 3, 33, 0, 0), (31, .iconst 0, 1, 0, 0, 0), (32, .ireturn, 1, 0, 0, 0), (33, .aload_n 0, 1, 0, 0, 0), (34, .getfield 25, 3, 8, 13, 4015), (37, .iconst 2, 1, 0, 0, 0), (38, .aload_n 0, 1, 0, 0, 0), (39, .getfield 103, 3, 8, 12, 4014), (42, .imul, 1, 0, 0, 0), (43, .iload_n 1, 1, 0, 0, 0), (44, .iastore, 1, 0, 0, 0), (45, .aload_n 0, 1, 0, 0, 0), (46, .getfield 25, 3, 8, 13, 4015), (49, .iconst 2, 1, 0, 0, 0), (50, .aload_n 0, 1, 0, 0, 0), (51, .getfield 103, 3, 8, 12, 4014), (54, .imul, 1, 0, 0, 0), (55, .iconst 1, 1, 0, 0, 0), (56, .iadd, 1, 0, 0, 0), (57, .iload_n 2, 1, 0, 0, 0), (58, .iastore, 1, 0, 0, 0), (59, .aload_n 0, 1, 0, 0, 0), (60, .dup, 1, 0, 0, 0), (61, .getfield 103, 3, 8, 12, 4014), (64, .iconst 1, 1, 0, 0, 0), (65, .iadd, 1, 0, 0, 0), (66, .putfield 103, 3, 8, 12, 4014), (69, .iconst 1, 1, 0, 0, 0), (70, .ireturn, 1, 0, 0, 0)]
/-- LoveGlassModel.readOneSaying -/
def zc_129 : List (Nat × zI) := [(0, .aload_n 0, 1, 0, 0, 0), (1, .iconst 1, 1, 0, 0, 0), (2, .bipush 9, 2, 0, 0, 0), (4, .invokevirtual 96, 3, 126, 0, 4155), (7, .istore_n 1, 1, 0, 0, 0), (8, .iload_n 1, 1, 0, 0, 0), (9, .bipush (-9), 2, 0, 0, 0), (11, .if_icmp .ne 8, 3, 19, 0, 0), (14, .bipush (-9), 2, 0, 0, 0), (16, .goto 10, 3, 26, 0, 0), (19, .aload_n 0, 1, 0, 0, 0), (20, .iconst 0, 1, 0, 0, 0), (21, .bipush 9, 2, 0, 0, 0), (23, .invokevirtual 96, 3, 126, 0, 4155), (26, .istore_n 2, 1, 0, 0, 0), (27, .iload_n 2, 1, 0, 0, 0), (28, .bipush (-9), 2, 0, 0, 0), (30, .if_icmp .ne 8, 3, 38, 0, 0), (33, .bipush (-9), 2, 0, 0, 0), (35, .goto 9, 3, 44, 0, 0), (38, .aload_n 0, 1, 0, 0, 0), (39, .iconst 0, 1, 0, 0, 0), (40, .iconst 3, 1, 0, 0, 0), (41, .invokevirtual 96, 3, 126, 0, 4155), (44, .istore_n 3, 1, 0, 0, 0), (45, .iload_n 3, 1, 0, 0, 0), (46, .bipush (-9), 2, 0, 0, 0), (48, .if_icmp .ne 5, 3, 53, 0, 0), (51, .iconst 0, 1, 0, 0, 0), (52, .ireturn, 1, 0, 0, 0), (53, .aload_n 0, 1, 0, 0, 0), (54, .getfield 28, 3, 8, 15, 4017), (57, .iconst 3, 1, 0, 0, 0), (58, .aload_n 0, 1, 0, 0, 0), (59, .getfield 106, 3, 8, 14, 4016), (62, .imul, 1, 0, 0, 0), (63, .iload_n 1, 1, 0, 0, 0), (64, .iastore, 1, 0, 0, 0), (65, .aload_n 0, 1, 0, 0, 0), (66, .getfield 28, 3, 8, 15, 4017), (69, .iconst 3, 1, 0, 0, 0), (70, .aload_n 0, 1, 0, 0, 0), (71, .getfield 106, 3, 8, 14, 4016), (74, .imul, 1, 0, 0, 0), (75, .iconst 1, 1, 0, 0, 0), (76, .iadd, 1, 0, 0, 0), (77, .iload_n 2, 1, 0, 0, 0), (78, .iastore, 1, 0, 0, 0), (79, .aload_n 0, 1, 0, 0, 0), (80, .getfield 28, 3, 8, 15, 4017), (83, .iconst 3, 1, 0, 0, 0), (84, .aload_n 0, 1, 0, 0, 0), (85, .getfield 106, 3, 8, 14, 4016), (88, .imul, 1, 0, 0, 0), (89, .iconst 2, 1, 0, 0, 0), (90, .iadd, 1, 0, 0, 0), (91, .iload_n 3, 1, 0, 0, 0), (92, .iastore, 1, 0, 0, 0), (93, .aload_n 0, 1, 0, 0, 0), (94, .dup, 1, 0, 0, 0), (95, .getfield 106, 3, 8, 14, 4016), (98, .iconst 1, 1, 0, 0, 0), (99, .iadd, 1, 0, 0, 0), (100, .putfield 106, 3, 8, 14, 4016), (103, .iconst 1, 1, 0, 0, 0), (104, .ireturn, 1, 0, 0, 0)]
/-- LoveGlassModel.readPart -/
def zc_130 : List (Nat × zI) := [(0, .aload_n 0, 1, 0, 0, 0), (1, .getfield 7, 3, 8, 1, 4003), (4, .aload_n 0, 1, 0, 0, 0), (5, .getfield 93, 3, 8, 3, 4005), (8, .iaload, 1, 0, 0, 0), (9, .istore_n 1, 1, 0, 0, 0), (10, .aload_n 0, 1, 0, 0, 0), (11, .dup, 1, 0, 0, 0), (12, .getfield 93, 3, 8, 3, 4005), (15, .iconst 1, 1, 0, 0, 0), (16, .iadd, 1, 0, 0, 0), (17, .putfield 93, 3, 8, 3, 4005), (20, .iload_n 1, 1, 0, 0, 0), (21, .bipush 71, 2, 0, 0, 0), (23, .if_icmp .ne 16, 3, 39, 0, 0), (26, .aload_n 0, 1, 0, 0, 0), (27, .getfield 100, 3, 8, 10, 4012), (30, .iconst 4, 1, 0, 0, 0), (31, .if_icmp .ge 8, 3, 39, 0, 0), (34, .aload_n 0, 1, 0, 0, 0), (35, .invokevirtual 109, 3, 127, 0, 4151), (38, .ireturn, 1, 0, 0, 0), (39, .iload_n 1, 1, 0, 0, 0), (40, .bipush 83, 2, 0, 0, 0), (42, .if_icmp .ne 16, 3, 58, 0, 0), (45, .aload_n 0, 1, 0, 0, 0), (46, .getfield 103, 3, 8, 12, 4014), (49, .iconst 4, 1, 0, 0, 0), (50, .if_icmp .ge 8, 3, 58, 0, 0), (53, .aload_n 0, 1, 0, 0, 0), (54, .invokevirtual 113, 3, 128, 0, 4159), (57, .ireturn, 1, 0, 0, 0), (58, .iload_n 1, 1, 0, 0, 0), (59, .bipush 89, 2, 0, 0, 0), (61, .if_icmp .ne 17, 3, 78, 0, 0), (64, .aload_n 0, 1, 0, 0, 0), (65, .getfield 106, 3, 8, 14, 4016), (68, .bipush 6, 2, 0, 0, 0), (70, .if_icmp .ge 8, 3, 78, 0, 0), (73, .aload_n 0, 1, 0, 0, 0), (74, .invokevirtual 116, 3, 129, 0, 4163), (77, .ireturn, 1, 0, 0, 0), (78, .aload_n 0, 1, 0, 0, 0), (79, .dup, 1, 0, 0, 0), (80, .getfield 93, 3, 8, 3, 4005), (83, .iconst 1, 1, 0, 0, 0), (84, .isub, 1, 0, 0, 0), (85, .putfield 93, 3, 8, 3, 4005), (88, .iconst 0, 1, 0, 0, 0), (89, .ireturn, 1, 0, 0, 0)]
/-- LoveGlassModel.readPort -/
def zc_131 : List (Nat × zI) := [(0, .aload_n 0, 1, 0, 0, 0), (1, .iconst 0, 1, 0, 0, 0), (2, .putfield 93, 3, 8, 3, 4005), (5, .aload_n 0, 1, 0, 0, 0), (6, .iconst 0, 1, 0, 0, 0), (7, .putfield 100, 3, 8, 10, 4012), (10, .aload_n 0, 1, 0, 0, 0), (11, .iconst 0, 1, 0, 0, 0), (12, .putfield 103, 3, 8, 12, 4014), (15, .aload_n 0, 1, 0, 0, 0), (16, .iconst 0, 1, 0, 0, 0), (17, .putfield 106, 3, 8, 14, 4016), (20, .aload_n 0, 1, 0, 0, 0), (21, .getfield 90, 3, 8, 2, 4004), (24, .ifCond .eq 14, 3, 38, 0, 0), (27, .aload_n 0, 1, 0, 0, 0), (28, .getfield 7, 3, 8, 1, 4003), (31, .iconst 0, 1, 0, 0, 0), (32, .iaload, 1, 0, 0, 0), (33, .bipush 69, 2, 0, 0, 0), (35, .if_icmp .eq 5, 3, 40, 0, 0), (38, .iconst 0, 1, 0, 0, 0), (39, .ireturn, 1, 0, 0, 0), (40, .aload_n 0, 1, 0, 0, 0), (41, .iconst 1, 1, 0, 0, 0), (42, .putfield 93, 3, 8, 3, 4005), (45, .aload_n 0, 1, 0, 0, 0), (46, .getfield 93, 3, 8, 3, 4005), (49, .aload_n 0, 1, 0, 0, 0), (50, .getfield 90, 3, 8, 2, 4004), (53, .if_icmp .ge 15, 3, 68, 0, 0), (56, .aload_n 0, 1, 0, 0, 0), (57, .invokevirtual 119, 3, 130, 0, 4147), (60, .ifCond .ne (-15), 3, 45, 0, 0), (63, .aload_n 0, 1, 0, 0, 0), (64, .getfield 93, 3, 8, 3, 4005), (67, .ireturn, 1, 0, 0, 0), (68, .bipush (-9), 2, 0, 0, 0), (70, .ireturn, 1, 0, 0, 0)]
/-- LoveGlassModel.fault -/
def zc_132 : List (Nat × zI) := [(0, .aload_n 0, 1, 0, 0, 0), (1, .iconst 0, 1, 0, 0, 0), (2, .putfield 71, 3, 8, 0, 4002), (5, .aload_n 0, 1, 0, 0, 0), (6, .invokevirtual 122, 3, 131, 0, 4143), (9, .ireturn, 1, 0, 0, 0)]
/-- LoveGlassModel.copyRow -/
def zc_133 : List (Nat × zI) := [(0, .iconst 0, 1, 0, 0, 0), (1, .istore_n 3, 1, 0, 0, 0), (2, .iload_n 3, 1, 0, 0, 0), (3, .iload_n 2, 1, 0, 0, 0), (4, .if_icmp .ge 15, 3, 19, 0, 0), (7, .aload_n 1, 1, 0, 0, 0), (8, .iload_n 3, 1, 0, 0, 0), (9, .aload_n 0, 1, 0, 0, 0), (10, .iload_n 3, 1, 0, 0, 0), (11, .iaload, 1, 0, 0, 0), (12, .iastore, 1, 0, 0, 0), (13, .iinc 3 1, 3, 0, 0, 0), (16, .goto (-14), 3, 2, 0, 0), (19, .return_, 1, 0, 0, 0)]
/-- LoveGlassModel.port -/
def zc_134 : List (Nat × zI) := [(0, .aload_n 0, 1, 0, 0, 0), (1, .iconst 0, 1, 0, 0, 0), (2, .putfield 71, 3, 8, 0, 4002), (5, .aload_n 0, 1, 0, 0, 0), (6, .invokevirtual 122, 3, 131, 0, 4143), (9, .bipush (-9), 2, 0, 0, 0), (11, .if_icmp .eq 6, 3, 17, 0, 0), (14, .bipush (-3), 2, 0, 0, 0), (16, .ireturn, 1, 0, 0, 0), (17, .aload_n 0, 1, 0, 0, 0), (18, .aload_n 0, 1, 0, 0, 0), (19, .getfield 100, 3, 8, 10, 4012), (22, .putfield 75, 3, 8, 4, 4006), (25, .aload_n 0, 1, 0, 0, 0), (26, .aload_n 0, 1, 0, 0, 0), (27, .getfield 103, 3, 8, 12, 4014), (30, .putfield 82, 3, 8, 6, 4008), (33, .aload_n 0, 1, 0, 0, 0), (34, .aload_n 0, 1, 0, 0, 0), (35, .getfield 106, 3, 8, 14, 4016), (38, .putfield 85, 3, 8, 8, 4010), (41, .aload_n 0, 1, 0, 0, 0), (42, .getfield 22, 3, 8, 11, 4013), (45, .aload_n 0, 1, 0, 0, 0), (46, .getfield 13, 3, 8, 5, 4007), (49, .bipush 8, 2, 0, 0, 0), (51, .invokestatic 126, 3, 133, 0, 4171), (54, .aload_n 0, 1, 0, 0, 0), (55, .getfield 25, 3, 8, 13, 4015), (58, .aload_n 0, 1, 0, 0, 0), (59, .getfield 16, 3, 8, 7, 4009), (62, .bipush 8, 2, 0, 0, 0), (64, .invokestatic 126, 3, 133, 0, 4171), (67, .aload_n 0, 1, 0, 0, 0), (68, .getfield 28, 3, 8, 15, 4017), (71, .aload_n 0, 1, 0, 0, 0), (72, .getfield 19, 3, 8, 9, 4011), (75, .bipush 18, 2, 0, 0, 0), (77, .invokestatic 126, 3, 133, 0, 4171), (80, .iconst 0, 1, 0, 0, 0), (81, .istore_n 1, 1, 0, 0, 0), (82, .iload_n 1, 1, 0, 0, 0), (83, .bipush 10, 2, 0, 0, 0), (85, .if_icmp .ge 26, 3, 111, 0, 0), (88, .aload_n 0, 1, 0, 0, 0), (89, .getfield 31, 3, 8, 16, 4018), (92, .iload_n 1, 1, 0, 0, 0), (93, .iload_n 1, 1, 0, 0, 0), (94, .iconst 2, 1, 0, 0, 0), (95, .if_icmp .ge 8, 3, 103, 0, 0), (98, .bipush (-9), 2, 0, 0, 0), (100, .goto 4, 3, 104, 0, 0), (103, .iconst 0, 1, 0, 0, 0), (104, .iastore, 1, 0, 0, 0), (105, .iinc 1 1, 3, 0, 0, 0), (108, .goto (-26), 3, 82, 0, 0), (111, .aload_n 0, 1, 0, 0, 0), (112, .iconst 0, 1, 0, 0, 0), (113, .putfield 130, 3, 8, 19, 4021), (116, .aload_n 0, 1, 0, 0, 0), (117, .getfield 43, 3, 8, 21, 4023), (120, .iconst 0, 1, 0, 0, 0), (121, .iconst 0, 1, 0, 0, 0), (122, .bastore, 1, 0, 0, 0), (123, .aload_n 0, 1, 0, 0, 0), (124, .getfield 43, 3, 8, 21, 4023), (127, .iconst 1, 1, 0, 0, 0), (128, .iconst 0, 1, 0, 0, 0), (129, .bastore, 1, 0, 0, 0), (130, .bipush 100, 2, 0, 0, 0), (132, .aload_n 0, 1, 0, 0, 0), (133, .getfield 75, 3, 8, 4, 4006), (136, .imul, 1, 0, 0, 0), (137, .bipush 10, 2, 0, 0, 0), (139, .aload_n 0, 1, 0, 0, 0), (140, .getfield 82, 3, 8, 6, 4008), (143, .imul, 1, 0, 0, 0), (144, .iadd, 1, 0, 0, 0), (145, .aload_n 0, 1, 0, 0, 0), (146, .getfield 85, 3, 8, 8, 4010), (149, .iadd, 1, 0, 0, 0), (150, .ireturn, 1, 0, 0, 0)]
/-- LoveGlassModel.grainsOf -/
def zc_135 : List (Nat × zI) := [(0, .aload_n 0, 1, 0, 0, 0), (1, .getfield 13, 3, 8, 5, 4007), (4, .iconst 2, 1, 0, 0, 0), (5, .iload_n 1, 1, 0, 0, 0), (6, .imul, 1, 0, 0, 0), (7, .iaload, 1, 0, 0, 0), (8, .istore_n 2, 1, 0, 0, 0), (9, .aload_n 0, 1, 0, 0, 0), (10, .getfield 13, 3, 8, 5, 4007), (13, .iconst 2, 1, 0, 0, 0), (14, .iload_n 1, 1, 0, 0, 0), (15, .imul, 1, 0, 0, 0), (16, .iconst 1, 1, 0, 0, 0), (17, .iadd, 1, 0, 0, 0), (18, .iaload, 1, 0, 0, 0), (19, .iconst 2, 1, 0, 0, 0), (20, .if_icmp .ne 10, 3, 30, 0, 0), (23, .bipush 15, 2, 0, 0, 0), (25, .iload_n 2, 1, 0, 0, 0), (26, .imul, 1, 0, 0, 0), (27, .goto 7, 3, 34, 0, 0), (30, .bipush 10, 2, 0, 0, 0), (32, .iload_n 2, 1, 0, 0, 0), (33, .imul, 1, 0, 0, 0), (34, .ireturn, 1, 0, 0, 0)]
/-- LoveGlassModel.takesBy -/
def zc_136 : List (Nat × zI) := [(0, .aload_n 0, 1, 0, 0, 0), (1, .getfield 19, 3, 8, 9, 4011), (4, .iconst 3, 1, 0, 0, 0), (5, .iload_n 1, 1, 0, 0, 0), (6, .imul, 1, 0, 0, 0), (7, .iaload, 1, 0, 0, 0), (8, .iload_n 2, 1, 0, 0, 0), (9, .imul, 1, 0, 0, 0), (10, .istore 5, 2, 0, 0, 0), (12, .iload_n 3, 1, 0, 0, 0), (13, .iconst 1, 1, 0, 0, 0), (14, .if_icmp .ne 21, 3, 35, 0, 0), (17, .aload_n 0, 1, 0, 0, 0), (18, .getfield 19, 3, 8, 9, 4011), (21, .iconst 3, 1, 0, 0, 0), (22, .iload_n 1, 1, 0, 0, 0), (23, .imul, 1, 0, 0, 0), (24, .iconst 2, 1, 0, 0, 0), (25, .iadd, 1, 0, 0, 0), (26, .iaload, 1, 0, 0, 0), (27, .ifCond .ne 8, 3, 35, 0, 0), (30, .iload 5, 2, 0, 0, 0), (32, .iconst 2, 1, 0, 0, 0), (33, .idiv, 1, 0, 0, 0), (34, .ireturn, 1, 0, 0, 0), (35, .iload_n 3, 1, 0, 0, 0), (36, .iconst 2, 1, 0, 0, 0), (37, .if_icmp .ne 13, 3, 50, 0, 0), (40, .iload 4, 2, 0, 0, 0), (42, .ifCond .ne 8, 3, 50, 0, 0), (45, .iconst 2, 1, 0, 0, 0), (46, .iload 5, 2, 0, 0, 0), (48, .imul, 1, 0, 0, 0), (49, .ireturn, 1, 0, 0, 0), (50, .iload_n 3, 1, 0, 0, 0), (51, .iconst 3, 1, 0, 0, 0), (52, .if_icmp .ne 11, 3, 63, 0, 0), (55, .iload 5, 2, 0, 0, 0), (57, .iload 4, 2, 0, 0, 0), (59, .iadd, 1, 0, 0, 0), (60, .goto 5, 3, 65, 0, 0), (63, .iload 5, 2, 0, 0, 0), (65, .ireturn, 1, 0, 0, 0)]
/-- LoveGlassModel.takesOf -/
def zc_137 : List (Nat × zI) := [(0, .aload_n 0, 1, 0, 0, 0), (1, .iload_n 1, 1, 0, 0, 0), (2, .aload_n 0, 1, 0, 0, 0), (3, .getfield 16, 3, 8, 7, 4009), (6, .iconst 2, 1, 0, 0, 0), (7, .iload_n 2, 1, 0, 0, 0), (8, .imul, 1, 0, 0, 0), (9, .iaload, 1, 0, 0, 0), (10, .aload_n 0, 1, 0, 0, 0), (11, .getfield 16, 3, 8, 7, 4009), (14, .iconst 2, 1, 0, 0, 0), (15, .iload_n 2, 1, 0, 0, 0), (16, .imul, 1, 0, 0, 0), (17, .iconst 1, 1, 0, 0, 0), (18, .iadd, 1, 0, 0, 0), (19, .iaload, 1, 0, 0, 0), (20, .iload 4, 2, 0, 0, 0), (22, .invokevirtual 133, 3, 136, 0, 4229), (25, .aload_n 0, 1, 0, 0, 0), (26, .getfield 13, 3, 8, 5, 4007), (29, .iconst 2, 1, 0, 0, 0), (30, .iload_n 3, 1, 0, 0, 0), (31, .imul, 1, 0, 0, 0), (32, .iconst 1, 1, 0, 0, 0), (33, .iadd, 1, 0, 0, 0), (34, .iaload, 1, 0, 0, 0), (35, .iconst 1, 1, 0, 0, 0), (36, .if_icmp .ne 7, 3, 43, 0, 0), (39, .iconst 2, 1, 0, 0, 0), (40, .goto 4, 3, 44, 0, 0), (43, .iconst 0, 1, 0, 0, 0), (44, .iadd, 1, 0, 0, 0), (45, .ireturn, 1, 0, 0, 0)]
/-- LoveGlassModel.saidSet -/
def zc_138 : List (Nat × zI) := [(0, .iconst 0, 1, 0, 0, 0), (1, .istore_n 1, 1, 0, 0, 0), (2, .iconst 0, 1, 0, 0, 0), (3, .istore_n 2, 1, 0, 0, 0), (4, .iload_n 2, 1, 0, 0, 0), (5, .aload_n 0, 1, 0, 0, 0), (6, .iconst 3, 1, 0, 0, 0), (7, .iaload, 1, 0, 0, 0), (8, .if_icmp .ge 19, 3, 27, 0, 0), (11, .iload_n 1, 1, 0, 0, 0), (12, .iconst 1, 1, 0, 0, 0), (13, .aload_n 0, 1, 0, 0, 0), (14, .iconst 4, 1, 0, 0, 0), (15, .iload_n 2, 1, 0, 0, 0), (16, .iadd, 1, 0, 0, 0), (17, .iaload, 1, 0, 0, 0), (18, .ishl, 1, 0, 0, 0), (19, .ior, 1, 0, 0, 0), (20, .istore_n 1, 1, 0, 0, 0), (21, .iinc 2 1, 3, 0, 0, 0), (24, .goto (-20), 3, 4, 0, 0), (27, .iload_n 1, 1, 0, 0, 0), (28, .ireturn, 1, 0, 0, 0)]
/-- LoveGlassModel.warmthOf -/
def zc_139 : List (Nat × zI) := [(0, .iconst 0, 1, 0, 0, 0), (1, .istore_n 2, 1, 0, 0, 0), (2, .iconst 0, 1, 0, 0, 0), (3, .istore_n 3, 1, 0, 0, 0), (4, .iload_n 3, 1, 0, 0, 0), (5, .aload_n 1, 1, 0, 0, 0), (6, .iconst 3, 1, 0, 0, 0), (7, .iaload, 1, 0, 0, 0), (8, .if_icmp .ge 26, 3, 34, 0, 0), (11, .iload_n 2, 1, 0, 0, 0), (12, .aload_n 0, 1, 0, 0, 0), (13, .getfield 19, 3, 8, 9, 4011), (16, .iconst 3, 1, 0, 0, 0), (17, .aload_n 1, 1, 0, 0, 0), (18, .iconst 4, 1, 0, 0, 0), (19, .iload_n 3, 1, 0, 0, 0), (20, .iadd, 1, 0, 0, 0), (21, .iaload, 1, 0, 0, 0), (22, .imul, 1, 0, 0, 0), (23, .iconst 1, 1, 0, 0, 0), (24, .iadd, 1, 0, 0, 0), (25, .iaload, 1, 0, 0, 0), (26, .iadd, 1, 0, 0, 0), (27, .istore_n 2, 1, 0, 0, 0), (28, .iinc 3 1, 3, 0, 0, 0), (31, .goto (-27), 3, 4, 0, 0), (34, .iload_n 2, 1, 0, 0, 0), (35, .ireturn, 1, 0, 0, 0)]
/-- LoveGlassModel.declares -/
def zc_140 : List (Nat × zI) := [(0, .iconst 1, 1, 0, 0, 0), (1, .istore_n 3, 1, 0, 0, 0), (2, .iconst 0, 1, 0, 0, 0), (3, .istore 4, 2, 0, 0, 0), (5, .iload 4, 2, 0, 0, 0), (7, .aload_n 1, 1, 0, 0, 0), (8, .iconst 3, 1, 0, 0, 0), (9, .iaload, 1, 0, 0, 0), (10, .if_icmp .ge 50, 3, 60, 0, 0), (13, .iload_n 3, 1, 0, 0, 0), (14, .iload_n 3, 1, 0, 0, 0), (15, .iconst 4, 1, 0, 0, 0), (16, .if_icmp .ge 35, 3, 51, 0, 0), (19, .iload_n 2, 1, 0, 0, 0), (20, .iload 4, 2, 0, 0, 0), (22, .invokestatic 137, 3, 118, 0, 4189), (25, .ifCond .ne 26, 3, 51, 0, 0), (28, .aload_n 0, 1, 0, 0, 0), (29, .getfield 19, 3, 8, 9, 4011), (32, .iconst 3, 1, 0, 0, 0), (33, .aload_n 1, 1, 0, 0, 0), (34, .iconst 4, 1, 0, 0, 0), (35, .iload 4, 2, 0, 0, 0), (37, .iadd, 1, 0, 0, 0), (38, .iaload, 1, 0, 0, 0), (39, .imul, 1, 0, 0, 0), (40, .iconst 2, 1, 0, 0, 0), (41, .iadd, 1, 0, 0, 0), (42, .iaload, 1, 0, 0, 0), (43, .iload_n 3, 1, 0, 0, 0), (44, .if_icmp .ne 7, 3, 51, 0, 0), (47, .iconst 1, 1, 0, 0, 0), (48, .goto 4, 3, 52, 0, 0), (51, .iconst 0, 1, 0, 0, 0), (52, .iadd, 1, 0, 0, 0), (53, .istore_n 3, 1, 0, 0, 0), (54, .iinc 4 1, 3, 0, 0, 0), (57, .goto (-52), 3, 5, 0, 0), (60, .iload_n 3, 1, 0, 0, 0), (61, .iconst 4, 1, 0, 0, 0), (62, .if_icmp .ne 7, 3, 69, 0, 0), (65, .iconst 1, 1, 0, 0, 0), (66, .goto 4, 3, 70, 0, 0), (69, .iconst 0, 1, 0, 0, 0), (70, .ireturn, 1, 0, 0, 0)]
/-- LoveGlassModel.about -/
def zc_141 : List (Nat × zI) := [(0, .aload_n 0, 1, 0, 0, 0), (1, .iconst 0, 1, 0, 0, 0), (2, .putfield 71, 3, 8, 0, 4002), (5, .iload_n 1, 1, 0, 0, 0), (6, .tableswitch 159 0 12 #[66, 71, 76, 81, 88, 95, 102, 109, 117, 126, 144, 149, 154], 66, 0, 0, 0), (72, .aload_n 0, 1, 0, 0, 0), (73, .getfield 75, 3, 8, 4, 4006), (76, .ireturn, 1, 0, 0, 0), (77, .aload_n 0, 1, 0, 0, 0), (78, .getfield 82, 3, 8, 6, 4008), (81, .ireturn, 1, 0, 0, 0), (82, .aload_n 0, 1, 0, 0, 0), (83, .getfield 85, 3, 8, 8, 4010), (86, .ireturn, 1, 0, 0, 0), (87, .aload_n 0, 1, 0, 0, 0), (88, .getfield 31, 3, 8, 16, 4018), (91, .iconst 0, 1, 0, 0, 0), (92, .iaload, 1, 0, 0, 0), (93, .ireturn, 1, 0, 0, 0), (94, .aload_n 0, 1, 0, 0, 0), (95, .getfield 31, 3, 8, 16, 4018), (98, .iconst 1, 1, 0, 0, 0), (99, .iaload, 1, 0, 0, 0), (100, .ireturn, 1, 0, 0, 0), (101, .aload_n 0, 1, 0, 0, 0), (102, .getfield 31, 3, 8, 16, 4018), (105, .iconst 2, 1, 0, 0, 0), (106, .iaload, 1, 0, 0, 0), (107, .ireturn, 1, 0, 0, 0), (108, .aload_n 0, 1, 0, 0, 0), (109, .getfield 31, 3, 8, 16, 4018), (112, .iconst 3, 1, 0, 0, 0), (113, .iaload, 1, 0, 0, 0), (114, .ireturn, 1, 0, 0, 0), (115, .aload_n 0, 1, 0, 0, 0), (116, .getfield 31, 3, 8, 16, 4018), (119, .invokestatic 141, 3, 138, 0, 4178), (122, .ireturn, 1, 0, 0, 0), (123, .aload_n 0, 1, 0, 0, 0), (124, .aload_n 0, 1, 0, 0, 0), (125, .getfield 31, 3, 8, 16, 4018), (128, .invokevirtual 145, 3, 139, 0, 4181), (131, .ireturn, 1, 0, 0, 0), (132, .aload_n 0, 1, 0, 0, 0), (133, .aload_n 0, 1, 0, 0, 0), (134, .getfield 31, 3, 8, 16, 4018), (137, .iconst 0, 1, 0, 0, 0), (138, .invokevirtual 148, 3, 140, 0, 4185), (141, .ifCond .eq 7, 3, 148, 0, 0), (144, .iconst 1, 1, 0, 0, 0), (145, .goto 4, 3, 149, 0, 0), (148, .iconst 0, 1, 0, 0, 0), (149, .ireturn, 1, 0, 0, 0), (150, .aload_n 0, 1, 0, 0, 0), (151, .getfield 130, 3, 8, 19, 4021), (154, .ireturn, 1, 0, 0, 0), (155, .aload_n 0, 1, 0, 0, 0), (156, .getfield 152, 3, 8, 22, 4024), (159, .ireturn, 1, 0, 0, 0), (160, .aload_n 0, 1, 0, 0, 0), (161, .getfield 90, 3, 8, 2, 4004), (164, .ireturn, 1, 0, 0, 0), (165, .bipush (-2), 2, 0, 0, 0), (167, .ireturn, 1, 0, 0, 0)]
/-- LoveGlassModel.glass -/
def zc_142 : List (Nat × zI) := [(0, .aload_n 0, 1, 0, 0, 0), (1, .iconst 0, 1, 0, 0, 0), (2, .putfield 71, 3, 8, 0, 4002), (5, .aload_n 0, 1, 0, 0, 0), (6, .iload_n 1, 1, 0, 0, 0), (7, .invokevirtual 155, 3, 121, 0, 4196), (10, .ifCond .eq 5, 3, 15, 0, 0), (13, .iconst (-1), 1, 0, 0, 0), (14, .ireturn, 1, 0, 0, 0), (15, .iload_n 2, 1, 0, 0, 0), (16, .i2l, 1, 0, 0, 0), (17, .lconst 0, 1, 0, 0, 0), (18, .lconst 1, 1, 0, 0, 0), (19, .invokestatic 78, 3, 117, 0, 4132), (22, .ifCond .eq 16, 3, 38, 0, 0), (25, .aload_n 0, 1, 0, 0, 0), (26, .getfield 13, 3, 8, 5, 4007), (29, .iconst 2, 1, 0, 0, 0), (30, .iload_n 1, 1, 0, 0, 0), (31, .imul, 1, 0, 0, 0), (32, .iload_n 2, 1, 0, 0, 0), (33, .iadd, 1, 0, 0, 0), (34, .iaload, 1, 0, 0, 0), (35, .goto 18, 3, 53, 0, 0), (38, .iload_n 2, 1, 0, 0, 0), (39, .iconst 2, 1, 0, 0, 0), (40, .if_icmp .ne 11, 3, 51, 0, 0), (43, .aload_n 0, 1, 0, 0, 0), (44, .iload_n 1, 1, 0, 0, 0), (45, .invokevirtual 159, 3, 135, 0, 4200), (48, .goto 5, 3, 53, 0, 0), (51, .bipush (-2), 2, 0, 0, 0), (53, .ireturn, 1, 0, 0, 0)]
/-- LoveGlassModel.suitor -/
def zc_143 : List (Nat × zI) := [(0, .aload_n 0, 1, 0, 0, 0), (1, .iconst 0, 1, 0, 0, 0), (2, .putfield 71, 3, 8, 0, 4002), (5, .aload_n 0, 1, 0, 0, 0), (6, .iload_n 1, 1, 0, 0, 0), (7, .invokevirtual 163, 3, 122, 0, 4208), (10, .ifCond .eq 5, 3, 15, 0, 0), (13, .iconst (-1), 1, 0, 0, 0), (14, .ireturn, 1, 0, 0, 0), (15, .iload_n 2, 1, 0, 0, 0), (16, .i2l, 1, 0, 0, 0), (17, .lconst 0, 1, 0, 0, 0), (18, .lconst 1, 1, 0, 0, 0), (19, .invokestatic 78, 3, 117, 0, 4132), (22, .ifCond .eq 16, 3, 38, 0, 0), (25, .aload_n 0, 1, 0, 0, 0), (26, .getfield 16, 3, 8, 7, 4009), (29, .iconst 2, 1, 0, 0, 0), (30, .iload_n 1, 1, 0, 0, 0), (31, .imul, 1, 0, 0, 0), (32, .iload_n 2, 1, 0, 0, 0), (33, .iadd, 1, 0, 0, 0), (34, .iaload, 1, 0, 0, 0), (35, .goto 5, 3, 40, 0, 0), (38, .bipush (-2), 2, 0, 0, 0), (40, .ireturn, 1, 0, 0, 0)]
/-- LoveGlassModel.takesNow -/
def zc_144 : List (Nat × zI) := [(0, .aload_n 0, 1, 0, 0, 0), (1, .iload_n 2, 1, 0, 0, 0), (2, .aload_n 1, 1, 0, 0, 0), (3, .iconst 1, 1, 0, 0, 0), (4, .iaload, 1, 0, 0, 0), (5, .aload_n 1, 1, 0, 0, 0), (6, .iconst 0, 1, 0, 0, 0), (7, .iaload, 1, 0, 0, 0), (8, .aload_n 1, 1, 0, 0, 0), (9, .iconst 3, 1, 0, 0, 0), (10, .iaload, 1, 0, 0, 0), (11, .invokevirtual 166, 3, 137, 0, 4225), (14, .ireturn, 1, 0, 0, 0)]
/-- LoveGlassModel.saying -/
def zc_145 : List (Nat × zI) := [(0, .aload_n 0, 1, 0, 0, 0), (1, .iconst 0, 1, 0, 0, 0), (2, .putfield 71, 3, 8, 0, 4002), (5, .aload_n 0, 1, 0, 0, 0), (6, .iload_n 1, 1, 0, 0, 0), (7, .invokevirtual 169, 3, 123, 0, 4216), (10, .ifCond .eq 5, 3, 15, 0, 0), (13, .iconst (-1), 1, 0, 0, 0), (14, .ireturn, 1, 0, 0, 0), (15, .iload_n 2, 1, 0, 0, 0), (16, .i2l, 1, 0, 0, 0), (17, .lconst 0, 1, 0, 0, 0), (18, .ldc2_w 172, 3, 2, 0, 4220), (21, .invokestatic 78, 3, 117, 0, 4132), (24, .ifCond .eq 14, 3, 38, 0, 0), (27, .aload_n 0, 1, 0, 0, 0), (28, .getfield 19, 3, 8, 9, 4011), (31, .iconst 3, 1, 0, 0, 0), (32, .iload_n 1, 1, 0, 0, 0), (33, .imul, 1, 0, 0, 0), (34, .iload_n 2, 1, 0, 0, 0), (35, .iadd, 1, 0, 0, 0), (36, .iaload, 1, 0, 0, 0), (37, .ireturn, 1, 0, 0, 0), (38, .iload_n 2, 1, 0, 0, 0), (39, .iconst 3, 1, 0, 0, 0), (40, .if_icmp .eq 6, 3, 46, 0, 0), (43, .bipush (-2), 2, 0, 0, 0), (45, .ireturn, 1, 0, 0, 0), (46, .aload_n 0, 1, 0, 0, 0), (47, .getfield 31, 3, 8, 16, 4018), (50, .iconst 0, 1, 0, 0, 0), (51, .iaload, 1, 0, 0, 0), (52, .bipush (-9), 2, 0, 0, 0), (54, .if_icmp .eq 17, 3, 71, 0, 0), (57, .aload_n 0, 1, 0, 0, 0), (58, .getfield 31, 3, 8, 16, 4018), (61, .invokestatic 141, 3, 138, 0, 4178), (64, .iload_n 1, 1, 0, 0, 0), (65, .invokestatic 137, 3, 118, 0, 4189), (68, .ifCond .eq 8, 3, 76, 0, 0), (71, .bipush (-9), 2, 0, 0, 0), (73, .goto 12, 3, 85, 0, 0), (76, .aload_n 0, 1, 0, 0, 0), (77, .aload_n 0, 1, 0, 0, 0), (78, .getfield 31, 3, 8, 16, 4018), (81, .iload_n 1, 1, 0, 0, 0), (82, .invokevirtual 174, 3, 144, 0, 4221), (85, .ireturn, 1, 0, 0, 0)]
/-- LoveGlassModel.said -/
def zc_146 : List (Nat × zI) := [(0, .aload_n 0, 1, 0, 0, 0), (1, .iconst 0, 1, 0, 0, 0), (2, .putfield 71, 3, 8, 0, 4002), (5, .iload_n 1, 1, 0, 0, 0), (6, .i2l, 1, 0, 0, 0), (7, .lconst 0, 1, 0, 0, 0), (8, .aload_n 0, 1, 0, 0, 0), (9, .getfield 31, 3, 8, 16, 4018), (12, .iconst 3, 1, 0, 0, 0), (13, .iaload, 1, 0, 0, 0), (14, .iconst 1, 1, 0, 0, 0), (15, .isub, 1, 0, 0, 0), (16, .i2l, 1, 0, 0, 0), (17, .invokestatic 78, 3, 117, 0, 4132), (20, .ifCond .eq 14, 3, 34, 0, 0), (23, .aload_n 0, 1, 0, 0, 0), (24, .getfield 31, 3, 8, 16, 4018), (27, .iconst 4, 1, 0, 0, 0), (28, .iload_n 1, 1, 0, 0, 0), (29, .iadd, 1, 0, 0, 0), (30, .iaload, 1, 0, 0, 0), (31, .goto 4, 3, 35, 0, 0), (34, .iconst (-1), 1, 0, 0, 0), (35, .ireturn, 1, 0, 0, 0)]
/-- LoveGlassModel.takes -/
def zc_147 : List (Nat × zI) := [(0, .aload_n 0, 1, 0, 0, 0), (1, .iconst 0, 1, 0, 0, 0), (2, .putfield 71, 3, 8, 0, 4002), (5, .aload_n 0, 1, 0, 0, 0), (6, .iload_n 1, 1, 0, 0, 0), (7, .invokevirtual 169, 3, 123, 0, 4216), (10, .ifCond .ne 19, 3, 29, 0, 0), (13, .aload_n 0, 1, 0, 0, 0), (14, .iload_n 2, 1, 0, 0, 0), (15, .invokevirtual 163, 3, 122, 0, 4208), (18, .ifCond .ne 11, 3, 29, 0, 0), (21, .aload_n 0, 1, 0, 0, 0), (22, .iload_n 3, 1, 0, 0, 0), (23, .invokevirtual 155, 3, 121, 0, 4196), (26, .ifCond .eq 5, 3, 31, 0, 0), (29, .iconst (-1), 1, 0, 0, 0), (30, .ireturn, 1, 0, 0, 0), (31, .iload 4, 2, 0, 0, 0), (33, .i2l, 1, 0, 0, 0), (34, .lconst 0, 1, 0, 0, 0), (35, .ldc2_w 178, 3, 5, 0, 5001), (38, .invokestatic 78, 3, 117, 0, 4132), (41, .ifCond .eq 15, 3, 56, 0, 0), (44, .aload_n 0, 1, 0, 0, 0), (45, .iload_n 1, 1, 0, 0, 0), (46, .iload_n 2, 1, 0, 0, 0), (47, .iload_n 3, 1, 0, 0, 0), (48, .iload 4, 2, 0, 0, 0), (50, .invokevirtual 166, 3, 137, 0, 4225), (53, .goto 5, 3, 58, 0, 0), (56, .bipush (-2), 2, 0, 0, 0), (58, .ireturn, 1, 0, 0, 0)]
/-- LoveGlassModel.note -/
def zc_148 : List (Nat × zI) := [(0, .aload_n 0, 1, 0, 0, 0), (1, .getfield 130, 3, 8, 19, 4021), (4, .bipush 14, 2, 0, 0, 0), (6, .if_icmp .ne 43, 3, 49, 0, 0), (9, .iconst 0, 1, 0, 0, 0), (10, .istore_n 1, 1, 0, 0, 0), (11, .iload_n 1, 1, 0, 0, 0), (12, .sipush 130, 3, 0, 0, 0), (15, .if_icmp .ge 24, 3, 39, 0, 0), (18, .aload_n 0, 1, 0, 0, 0), (19, .getfield 37, 3, 8, 18, 4020), (22, .iload_n 1, 1, 0, 0, 0), (23, .aload_n 0, 1, 0, 0, 0), (24, .getfield 37, 3, 8, 18, 4020), (27, .iload_n 1, 1, 0, 0, 0), (28, .bipush 10, 2, 0, 0, 0), (30, .iadd, 1, 0, 0, 0), (31, .iaload, 1, 0, 0, 0), (32, .iastore, 1, 0, 0, 0), (33, .iinc 1 1, 3, 0, 0, 0), (36, .goto (-25), 3, 11, 0, 0), (39, .aload_n 0, 1, 0, 0, 0), (40, .dup, 1, 0, 0, 0), (41, .getfield 130, 3, 8, 19, 4021), (44, .iconst 1, 1, 0, 0, 0), (45, .isub, 1, 0, 0, 0), (46, .putfield 130, 3, 8, 19, 4021), (49, .iconst 0, 1, 0, 0, 0), (50, .istore_n 1, 1, 0, 0, 0), (51, .iload_n 1, 1, 0, 0, 0), (52, .bipush 10, 2, 0, 0, 0), (54, .if_icmp .ge 29, 3, 83, 0, 0), (57, .aload_n 0, 1, 0, 0, 0), (58, .getfield 37, 3, 8, 18, 4020), (61, .bipush 10, 2, 0, 0, 0), (63, .aload_n 0, 1, 0, 0, 0), (64, .getfield 130, 3, 8, 19, 4021), (67, .imul, 1, 0, 0, 0), (68, .iload_n 1, 1, 0, 0, 0), (69, .iadd, 1, 0, 0, 0), (70, .aload_n 0, 1, 0, 0, 0), (71, .getfield 31, 3, 8, 16, 4018), (74, .iload_n 1, 1, 0, 0, 0), (75, .iaload, 1, 0, 0, 0), (76, .iastore, 1, 0, 0, 0), (77, .iinc 1 1, 3, 0, 0, 0), (80, .goto (-29), 3, 51, 0, 0), (83, .aload_n 0, 1, 0, 0, 0), (84, .dup, 1, 0, 0, 0), (85, .getfield 130, 3, 8, 19, 4021), (88, .iconst 1, 1, 0, 0, 0), (89, .iadd, 1, 0, 0, 0), (90, .putfield 130, 3, 8, 19, 4021), (93, .return_, 1, 0, 0, 0)]
/-- LoveGlassModel.run -/
def zc_149 : List (Nat × zI) := [(0, .aload_n 1, 1, 0, 0, 0), (1, .iconst 0, 1, 0, 0, 0), (2, .iload_n 2, 1, 0, 0, 0), (3, .iastore, 1, 0, 0, 0), (4, .aload_n 1, 1, 0, 0, 0), (5, .iconst 1, 1, 0, 0, 0), (6, .iload_n 3, 1, 0, 0, 0), (7, .iastore, 1, 0, 0, 0), (8, .aload_n 1, 1, 0, 0, 0), (9, .iconst 2, 1, 0, 0, 0), (10, .aload_n 0, 1, 0, 0, 0), (11, .iload_n 2, 1, 0, 0, 0), (12, .invokevirtual 159, 3, 135, 0, 4200), (15, .iastore, 1, 0, 0, 0), (16, .iconst 3, 1, 0, 0, 0), (17, .istore 4, 2, 0, 0, 0), (19, .iload 4, 2, 0, 0, 0), (21, .bipush 10, 2, 0, 0, 0), (23, .if_icmp .ge 14, 3, 37, 0, 0), (26, .aload_n 1, 1, 0, 0, 0), (27, .iload 4, 2, 0, 0, 0), (29, .iconst 0, 1, 0, 0, 0), (30, .iastore, 1, 0, 0, 0), (31, .iinc 4 1, 3, 0, 0, 0), (34, .goto (-15), 3, 19, 0, 0), (37, .return_, 1, 0, 0, 0)]
/-- LoveGlassModel.turn -/
def zc_150 : List (Nat × zI) := [(0, .aload_n 0, 1, 0, 0, 0), (1, .iconst 0, 1, 0, 0, 0), (2, .putfield 71, 3, 8, 0, 4002), (5, .aload_n 0, 1, 0, 0, 0), (6, .iload_n 1, 1, 0, 0, 0), (7, .invokevirtual 155, 3, 121, 0, 4196), (10, .ifCond .ne 11, 3, 21, 0, 0), (13, .aload_n 0, 1, 0, 0, 0), (14, .iload_n 2, 1, 0, 0, 0), (15, .invokevirtual 163, 3, 122, 0, 4208), (18, .ifCond .eq 5, 3, 23, 0, 0), (21, .iconst (-1), 1, 0, 0, 0), (22, .ireturn, 1, 0, 0, 0), (23, .aload_n 0, 1, 0, 0, 0), (24, .invokevirtual 180, 3, 148, 0, 5006), (27, .aload_n 0, 1, 0, 0, 0), (28, .aload_n 0, 1, 0, 0, 0), (29, .getfield 31, 3, 8, 16, 4018), (32, .iload_n 1, 1, 0, 0, 0), (33, .iload_n 2, 1, 0, 0, 0), (34, .invokevirtual 183, 3, 149, 0, 5010), (37, .aload_n 0, 1, 0, 0, 0), (38, .getfield 31, 3, 8, 16, 4018), (41, .iconst 2, 1, 0, 0, 0), (42, .iaload, 1, 0, 0, 0), (43, .ireturn, 1, 0, 0, 0)]
/-- LoveGlassModel.canSay -/
def zc_151 : List (Nat × zI) := [(0, .aload_n 1, 1, 0, 0, 0), (1, .iconst 0, 1, 0, 0, 0), (2, .iaload, 1, 0, 0, 0), (3, .bipush (-9), 2, 0, 0, 0), (5, .if_icmp .eq 30, 3, 35, 0, 0), (8, .aload_n 1, 1, 0, 0, 0), (9, .invokestatic 141, 3, 138, 0, 4178), (12, .iload_n 2, 1, 0, 0, 0), (13, .invokestatic 137, 3, 118, 0, 4189), (16, .ifCond .ne 19, 3, 35, 0, 0), (19, .aload_n 0, 1, 0, 0, 0), (20, .aload_n 1, 1, 0, 0, 0), (21, .iload_n 2, 1, 0, 0, 0), (22, .invokevirtual 174, 3, 144, 0, 4221), (25, .aload_n 1, 1, 0, 0, 0), (26, .iconst 2, 1, 0, 0, 0), (27, .iaload, 1, 0, 0, 0), (28, .if_icmp .gt 7, 3, 35, 0, 0), (31, .iconst 1, 1, 0, 0, 0), (32, .goto 4, 3, 36, 0, 0), (35, .iconst 0, 1, 0, 0, 0), (36, .ireturn, 1, 0, 0, 0)]
/-- LoveGlassModel.goSay -/
def zc_152 : List (Nat × zI) := [(0, .aload_n 1, 1, 0, 0, 0), (1, .iconst 2, 1, 0, 0, 0), (2, .dup2, 1, 0, 0, 0), (3, .iaload, 1, 0, 0, 0), (4, .aload_n 0, 1, 0, 0, 0), (5, .aload_n 1, 1, 0, 0, 0), (6, .iload_n 2, 1, 0, 0, 0), (7, .invokevirtual 174, 3, 144, 0, 4221), (10, .isub, 1, 0, 0, 0), (11, .iastore, 1, 0, 0, 0), (12, .aload_n 1, 1, 0, 0, 0), (13, .iconst 4, 1, 0, 0, 0), (14, .aload_n 1, 1, 0, 0, 0), (15, .iconst 3, 1, 0, 0, 0), (16, .iaload, 1, 0, 0, 0), (17, .iadd, 1, 0, 0, 0), (18, .iload_n 2, 1, 0, 0, 0), (19, .iastore, 1, 0, 0, 0), (20, .aload_n 1, 1, 0, 0, 0), (21, .iconst 3, 1, 0, 0, 0), (22, .dup2, 1, 0, 0, 0), (23, .iaload, 1, 0, 0, 0), (24, .iconst 1, 1, 0, 0, 0), (25, .iadd, 1, 0, 0, 0), (26, .iastore, 1, 0, 0, 0), (27, .return_, 1, 0, 0, 0)]
/-- LoveGlassModel.say -/
def zc_153 : List (Nat × zI) := [(0, .aload_n 0, 1, 0, 0, 0), (1, .iconst 0, 1, 0, 0, 0), (2, .putfield 71, 3, 8, 0, 4002), (5, .aload_n 0, 1, 0, 0, 0), (6, .iload_n 1, 1, 0, 0, 0), (7, .invokevirtual 169, 3, 123, 0, 4216), (10, .ifCond .eq 5, 3, 15, 0, 0), (13, .iconst (-1), 1, 0, 0, 0), (14, .ireturn, 1, 0, 0, 0), (15, .aload_n 0, 1, 0, 0, 0), (16, .aload_n 0, 1, 0, 0, 0), (17, .getfield 31, 3, 8, 16, 4018), (20, .iload_n 1, 1, 0, 0, 0), (21, .invokevirtual 187, 3, 151, 0, 5018), (24, .ifCond .ne 6, 3, 30, 0, 0), (27, .bipush (-3), 2, 0, 0, 0), (29, .ireturn, 1, 0, 0, 0), (30, .aload_n 0, 1, 0, 0, 0), (31, .invokevirtual 180, 3, 148, 0, 5006), (34, .aload_n 0, 1, 0, 0, 0), (35, .aload_n 0, 1, 0, 0, 0), (36, .getfield 31, 3, 8, 16, 4018), (39, .iload_n 1, 1, 0, 0, 0), (40, .invokevirtual 190, 3, 152, 0, 5022), (43, .aload_n 0, 1, 0, 0, 0), (44, .getfield 31, 3, 8, 16, 4018), (47, .iconst 2, 1, 0, 0, 0), (48, .iaload, 1, 0, 0, 0), (49, .ireturn, 1, 0, 0, 0)]
/-- LoveGlassModel.pauseOf -/
def zc_154 : List (Nat × zI) := [(0, .aload_n 1, 1, 0, 0, 0), (1, .iconst 0, 1, 0, 0, 0), (2, .iaload, 1, 0, 0, 0), (3, .bipush (-9), 2, 0, 0, 0), (5, .if_icmp .ne 6, 3, 11, 0, 0), (8, .bipush (-9), 2, 0, 0, 0), (10, .ireturn, 1, 0, 0, 0), (11, .aload_n 0, 1, 0, 0, 0), (12, .getfield 13, 3, 8, 5, 4007), (15, .iconst 2, 1, 0, 0, 0), (16, .aload_n 1, 1, 0, 0, 0), (17, .iconst 0, 1, 0, 0, 0), (18, .iaload, 1, 0, 0, 0), (19, .imul, 1, 0, 0, 0), (20, .iconst 1, 1, 0, 0, 0), (21, .iadd, 1, 0, 0, 0), (22, .iaload, 1, 0, 0, 0), (23, .iconst 3, 1, 0, 0, 0), (24, .if_icmp .ne 7, 3, 31, 0, 0), (27, .iconst 0, 1, 0, 0, 0), (28, .goto 4, 3, 32, 0, 0), (31, .iconst 1, 1, 0, 0, 0), (32, .istore_n 2, 1, 0, 0, 0), (33, .iload_n 2, 1, 0, 0, 0), (34, .aload_n 1, 1, 0, 0, 0), (35, .iconst 2, 1, 0, 0, 0), (36, .iaload, 1, 0, 0, 0), (37, .if_icmp .le 8, 3, 45, 0, 0), (40, .bipush (-9), 2, 0, 0, 0), (42, .goto 4, 3, 46, 0, 0), (45, .iload_n 2, 1, 0, 0, 0), (46, .ireturn, 1, 0, 0, 0)]
/-- LoveGlassModel.pause -/
def zc_155 : List (Nat × zI) := [(0, .aload_n 0, 1, 0, 0, 0), (1, .iconst 0, 1, 0, 0, 0), (2, .putfield 71, 3, 8, 0, 4002), (5, .aload_n 0, 1, 0, 0, 0), (6, .aload_n 0, 1, 0, 0, 0), (7, .getfield 31, 3, 8, 16, 4018), (10, .invokevirtual 194, 3, 154, 0, 5030), (13, .istore_n 1, 1, 0, 0, 0), (14, .iload_n 1, 1, 0, 0, 0), (15, .bipush (-9), 2, 0, 0, 0), (17, .if_icmp .ne 6, 3, 23, 0, 0), (20, .bipush (-3), 2, 0, 0, 0), (22, .ireturn, 1, 0, 0, 0), (23, .aload_n 0, 1, 0, 0, 0), (24, .invokevirtual 180, 3, 148, 0, 5006), (27, .aload_n 0, 1, 0, 0, 0), (28, .getfield 31, 3, 8, 16, 4018), (31, .iconst 2, 1, 0, 0, 0), (32, .dup2, 1, 0, 0, 0), (33, .iaload, 1, 0, 0, 0), (34, .iload_n 1, 1, 0, 0, 0), (35, .isub, 1, 0, 0, 0), (36, .iastore, 1, 0, 0, 0), (37, .aload_n 0, 1, 0, 0, 0), (38, .getfield 31, 3, 8, 16, 4018), (41, .iconst 2, 1, 0, 0, 0), (42, .iaload, 1, 0, 0, 0), (43, .ireturn, 1, 0, 0, 0)]
/-- LoveGlassModel.canDraw -/
def zc_156 : List (Nat × zI) := [(0, .aload_n 0, 1, 0, 0, 0), (1, .iconst 0, 1, 0, 0, 0), (2, .iaload, 1, 0, 0, 0), (3, .bipush (-9), 2, 0, 0, 0), (5, .if_icmp .eq 13, 3, 18, 0, 0), (8, .aload_n 0, 1, 0, 0, 0), (9, .iconst 2, 1, 0, 0, 0), (10, .iaload, 1, 0, 0, 0), (11, .ifCond .le 7, 3, 18, 0, 0), (14, .iconst 1, 1, 0, 0, 0), (15, .goto 4, 3, 19, 0, 0), (18, .iconst 0, 1, 0, 0, 0), (19, .ireturn, 1, 0, 0, 0)]
/-- LoveGlassModel.goDraw -/
def zc_157 : List (Nat × zI) := [(0, .aload_n 0, 1, 0, 0, 0), (1, .iconst 2, 1, 0, 0, 0), (2, .aload_n 0, 1, 0, 0, 0), (3, .iconst 2, 1, 0, 0, 0), (4, .iaload, 1, 0, 0, 0), (5, .iload_n 1, 1, 0, 0, 0), (6, .if_icmp .ge 7, 3, 13, 0, 0), (9, .iconst 0, 1, 0, 0, 0), (10, .goto 8, 3, 18, 0, 0), (13, .aload_n 0, 1, 0, 0, 0), (14, .iconst 2, 1, 0, 0, 0), (15, .iaload, 1, 0, 0, 0), (16, .iload_n 1, 1, 0, 0, 0), (17, .isub, 1, 0, 0, 0), (18, .iastore, 1, 0, 0, 0), (19, .return_, 1, 0, 0, 0)]
/-- LoveGlassModel.draw -/
def zc_158 : List (Nat × zI) := [(0, .aload_n 0, 1, 0, 0, 0), (1, .iconst 0, 1, 0, 0, 0), (2, .putfield 71, 3, 8, 0, 4002), (5, .iload_n 1, 1, 0, 0, 0), (6, .i2l, 1, 0, 0, 0), (7, .lconst 1, 1, 0, 0, 0), (8, .ldc2_w 197, 3, 9, 0, 5038), (11, .invokestatic 78, 3, 117, 0, 4132), (14, .ifCond .ne 6, 3, 20, 0, 0), (17, .bipush (-2), 2, 0, 0, 0), (19, .ireturn, 1, 0, 0, 0), (20, .aload_n 0, 1, 0, 0, 0), (21, .getfield 31, 3, 8, 16, 4018), (24, .invokestatic 199, 3, 156, 0, 5039), (27, .ifCond .ne 6, 3, 33, 0, 0), (30, .bipush (-3), 2, 0, 0, 0), (32, .ireturn, 1, 0, 0, 0), (33, .aload_n 0, 1, 0, 0, 0), (34, .invokevirtual 180, 3, 148, 0, 5006), (37, .aload_n 0, 1, 0, 0, 0), (38, .getfield 31, 3, 8, 16, 4018), (41, .iload_n 1, 1, 0, 0, 0), (42, .invokestatic 203, 3, 157, 0, 5042), (45, .aload_n 0, 1, 0, 0, 0), (46, .getfield 31, 3, 8, 16, 4018), (49, .iconst 2, 1, 0, 0, 0), (50, .iaload, 1, 0, 0, 0), (51, .ireturn, 1, 0, 0, 0)]
/-- LoveGlassModel.undo -/
def zc_159 : List (Nat × zI) := [(0, .aload_n 0, 1, 0, 0, 0), (1, .iconst 0, 1, 0, 0, 0), (2, .putfield 71, 3, 8, 0, 4002), (5, .aload_n 0, 1, 0, 0, 0), (6, .getfield 130, 3, 8, 19, 4021), (9, .ifCond .ne 6, 3, 15, 0, 0), (12, .bipush (-3), 2, 0, 0, 0), (14, .ireturn, 1, 0, 0, 0), (15, .aload_n 0, 1, 0, 0, 0), (16, .dup, 1, 0, 0, 0), (17, .getfield 130, 3, 8, 19, 4021), (20, .iconst 1, 1, 0, 0, 0), (21, .isub, 1, 0, 0, 0), (22, .putfield 130, 3, 8, 19, 4021), (25, .iconst 0, 1, 0, 0, 0), (26, .istore_n 1, 1, 0, 0, 0), (27, .iload_n 1, 1, 0, 0, 0), (28, .bipush 10, 2, 0, 0, 0), (30, .if_icmp .ge 29, 3, 59, 0, 0), (33, .aload_n 0, 1, 0, 0, 0), (34, .getfield 31, 3, 8, 16, 4018), (37, .iload_n 1, 1, 0, 0, 0), (38, .aload_n 0, 1, 0, 0, 0), (39, .getfield 37, 3, 8, 18, 4020), (42, .bipush 10, 2, 0, 0, 0), (44, .aload_n 0, 1, 0, 0, 0), (45, .getfield 130, 3, 8, 19, 4021), (48, .imul, 1, 0, 0, 0), (49, .iload_n 1, 1, 0, 0, 0), (50, .iadd, 1, 0, 0, 0), (51, .iaload, 1, 0, 0, 0), (52, .iastore, 1, 0, 0, 0), (53, .iinc 1 1, 3, 0, 0, 0), (56, .goto (-29), 3, 27, 0, 0), (59, .aload_n 0, 1, 0, 0, 0), (60, .getfield 130, 3, 8, 19, 4021), (63, .ireturn, 1, 0, 0, 0)]
/-- LoveGlassModel.begin -/
def zc_160 : List (Nat × zI) := [(0, .aload_n 0, 1, 0, 0, 0), (1, .getfield 31, 3, 8, 16, 4018), (4, .aload_n 0, 1, 0, 0, 0), (5, .getfield 34, 3, 8, 17, 4019), (8, .bipush 10, 2, 0, 0, 0), (10, .invokestatic 126, 3, 133, 0, 4171), (13, .return_, 1, 0, 0, 0)]
/-- LoveGlassModel.lookAt -/
def zc_161 : List (Nat × zI) := [(0, .aload_n 0, 1, 0, 0, 0), (1, .aload_n 0, 1, 0, 0, 0), (2, .getfield 34, 3, 8, 17, 4019), (5, .iconst 0, 1, 0, 0, 0), (6, .invokevirtual 148, 3, 140, 0, 4185), (9, .ifCond .ne 4, 3, 13, 0, 0), (12, .return_, 1, 0, 0, 0), (13, .aload_n 0, 1, 0, 0, 0), (14, .aload_n 0, 1, 0, 0, 0), (15, .getfield 34, 3, 8, 17, 4019), (18, .invokevirtual 145, 3, 139, 0, 4181), (21, .istore_n 3, 1, 0, 0, 0), (22, .iload_n 3, 1, 0, 0, 0), (23, .aload_n 0, 1, 0, 0, 0), (24, .getfield 206, 3, 8, 30, 4032), (27, .if_icmp .gt 35, 3, 62, 0, 0), (30, .iload_n 3, 1, 0, 0, 0), (31, .aload_n 0, 1, 0, 0, 0), (32, .getfield 206, 3, 8, 30, 4032), (35, .if_icmp .ne 31, 3, 66, 0, 0), (38, .iload_n 1, 1, 0, 0, 0), (39, .aload_n 0, 1, 0, 0, 0), (40, .getfield 209, 3, 8, 31, 4033), (43, .if_icmp .lt 19, 3, 62, 0, 0), (46, .iload_n 1, 1, 0, 0, 0), (47, .aload_n 0, 1, 0, 0, 0), (48, .getfield 209, 3, 8, 31, 4033), (51, .if_icmp .ne 15, 3, 66, 0, 0), (54, .iload_n 2, 1, 0, 0, 0), (55, .aload_n 0, 1, 0, 0, 0), (56, .getfield 212, 3, 8, 32, 4034), (59, .if_icmp .ge 7, 3, 66, 0, 0), (62, .iconst 1, 1, 0, 0, 0), (63, .goto 4, 3, 67, 0, 0), (66, .iconst 0, 1, 0, 0, 0), (67, .istore 4, 2, 0, 0, 0), (69, .iload 4, 2, 0, 0, 0), (71, .ifCond .eq 18, 3, 89, 0, 0), (74, .aload_n 0, 1, 0, 0, 0), (75, .iload_n 3, 1, 0, 0, 0), (76, .putfield 206, 3, 8, 30, 4032), (79, .aload_n 0, 1, 0, 0, 0), (80, .iload_n 1, 1, 0, 0, 0), (81, .putfield 209, 3, 8, 31, 4033), (84, .aload_n 0, 1, 0, 0, 0), (85, .iload_n 2, 1, 0, 0, 0), (86, .putfield 212, 3, 8, 32, 4034), (89, .aload_n 0, 1, 0, 0, 0), (90, .getfield 215, 3, 8, 33, 4035), (93, .bipush (-9), 2, 0, 0, 0), (95, .if_icmp .eq 27, 3, 122, 0, 0), (98, .iload_n 1, 1, 0, 0, 0), (99, .aload_n 0, 1, 0, 0, 0), (100, .getfield 215, 3, 8, 33, 4035), (103, .if_icmp .lt 19, 3, 122, 0, 0), (106, .iload_n 1, 1, 0, 0, 0), (107, .aload_n 0, 1, 0, 0, 0), (108, .getfield 215, 3, 8, 33, 4035), (111, .if_icmp .ne 21, 3, 132, 0, 0), (114, .iload_n 2, 1, 0, 0, 0), (115, .aload_n 0, 1, 0, 0, 0), (116, .getfield 218, 3, 8, 34, 4036), (119, .if_icmp .ge 13, 3, 132, 0, 0), (122, .aload_n 0, 1, 0, 0, 0), (123, .iload_n 1, 1, 0, 0, 0), (124, .putfield 215, 3, 8, 33, 4035), (127, .aload_n 0, 1, 0, 0, 0), (128, .iload_n 2, 1, 0, 0, 0), (129, .putfield 218, 3, 8, 34, 4036), (132, .return_, 1, 0, 0, 0)]
/-- LoveGlassModel.search -/
def zc_162 : List (Nat × zI) := [(0, .aload_n 0, 1, 0, 0, 0), (1, .bipush (-9), 2, 0, 0, 0), (3, .putfield 206, 3, 8, 30, 4032), (6, .aload_n 0, 1, 0, 0, 0), (7, .iconst 0, 1, 0, 0, 0), (8, .putfield 209, 3, 8, 31, 4033), (11, .aload_n 0, 1, 0, 0, 0), (12, .bipush (-9), 2, 0, 0, 0), (14, .putfield 212, 3, 8, 32, 4034), (17, .aload_n 0, 1, 0, 0, 0), (18, .bipush (-9), 2, 0, 0, 0), (20, .putfield 215, 3, 8, 33, 4035), (23, .aload_n 0, 1, 0, 0, 0), (24, .bipush (-9), 2, 0, 0, 0), (26, .putfield 218, 3, 8, 34, 4036), (29, .iconst 0, 1, 0, 0, 0), (30, .istore_n 2, 1, 0, 0, 0), (31, .iconst 0, 1, 0, 0, 0), (32, .istore_n 3, 1, 0, 0, 0), (33, .aload_n 0, 1, 0, 0, 0), (34, .getfield 34, 3, 8, 17, 4019), (37, .iconst 2, 1, 0, 0, 0), (38, .iaload, 1, 0, 0, 0), (39, .istore 4, 2, 0, 0, 0), (41, .aload_n 0, 1, 0, 0, 0), (42, .getfield 59, 3, 8, 28, 4030), (45, .iconst 0, 1, 0, 0, 0), (46, .iconst 0, 1, 0, 0, 0), (47, .iastore, 1, 0, 0, 0), (48, .aload_n 0, 1, 0, 0, 0), (49, .iconst 0, 1, 0, 0, 0), (50, .iconst 0, 1, 0, 0, 0), (51, .invokevirtual 221, 3, 161, 0, 5065), (54, .iload_n 2, 1, 0, 0, 0), (55, .ifCond .lt 155, 3, 210, 0, 0), (58, .aload_n 0, 1, 0, 0, 0), (59, .getfield 59, 3, 8, 28, 4030), (62, .iload_n 2, 1, 0, 0, 0), (63, .iaload, 1, 0, 0, 0), (64, .istore 5, 2, 0, 0, 0), (66, .iload 5, 2, 0, 0, 0), (68, .aload_n 0, 1, 0, 0, 0), (69, .getfield 85, 3, 8, 8, 4010), (72, .if_icmp .ne 43, 3, 115, 0, 0), (75, .iinc 2 (-1), 3, 0, 0, 0), (78, .iload_n 2, 1, 0, 0, 0), (79, .ifCond .lt 128, 3, 207, 0, 0), (82, .aload_n 0, 1, 0, 0, 0), (83, .getfield 34, 3, 8, 17, 4019), (86, .iconst 3, 1, 0, 0, 0), (87, .dup2, 1, 0, 0, 0), (88, .iaload, 1, 0, 0, 0), (89, .iconst 1, 1, 0, 0, 0), (90, .isub, 1, 0, 0, 0), (91, .iastore, 1, 0, 0, 0), (92, .aload_n 0, 1, 0, 0, 0), (93, .getfield 34, 3, 8, 17, 4019), (96, .iconst 2, 1, 0, 0, 0), (97, .dup2, 1, 0, 0, 0), (98, .iaload, 1, 0, 0, 0), (99, .aload_n 0, 1, 0, 0, 0), (100, .getfield 62, 3, 8, 29, 4031), (103, .iload_n 2, 1, 0, 0, 0), (104, .iaload, 1, 0, 0, 0), (105, .iadd, 1, 0, 0, 0), (106, .iastore, 1, 0, 0, 0), (107, .iload_n 3, 1, 0, 0, 0), (108, .bipush 10, 2, 0, 0, 0), (110, .idiv, 1, 0, 0, 0), (111, .istore_n 3, 1, 0, 0, 0), (112, .goto 95, 3, 207, 0, 0), (115, .aload_n 0, 1, 0, 0, 0), (116, .getfield 59, 3, 8, 28, 4030), (119, .iload_n 2, 1, 0, 0, 0), (120, .dup2, 1, 0, 0, 0), (121, .iaload, 1, 0, 0, 0), (122, .iconst 1, 1, 0, 0, 0), (123, .iadd, 1, 0, 0, 0), (124, .iastore, 1, 0, 0, 0), (125, .iload_n 1, 1, 0, 0, 0), (126, .iload 5, 2, 0, 0, 0), (128, .invokestatic 137, 3, 118, 0, 4189), (131, .ifCond .eq 76, 3, 207, 0, 0), (134, .aload_n 0, 1, 0, 0, 0), (135, .aload_n 0, 1, 0, 0, 0), (136, .getfield 34, 3, 8, 17, 4019), (139, .iload 5, 2, 0, 0, 0), (141, .invokevirtual 187, 3, 151, 0, 5018), (144, .ifCond .eq 63, 3, 207, 0, 0), (147, .aload_n 0, 1, 0, 0, 0), (148, .getfield 62, 3, 8, 29, 4031), (151, .iload_n 2, 1, 0, 0, 0), (152, .aload_n 0, 1, 0, 0, 0), (153, .aload_n 0, 1, 0, 0, 0), (154, .getfield 34, 3, 8, 17, 4019), (157, .iload 5, 2, 0, 0, 0), (159, .invokevirtual 174, 3, 144, 0, 4221), (162, .iastore, 1, 0, 0, 0), (163, .aload_n 0, 1, 0, 0, 0), (164, .aload_n 0, 1, 0, 0, 0), (165, .getfield 34, 3, 8, 17, 4019), (168, .iload 5, 2, 0, 0, 0), (170, .invokevirtual 190, 3, 152, 0, 5022), (173, .bipush 10, 2, 0, 0, 0), (175, .iload_n 3, 1, 0, 0, 0), (176, .imul, 1, 0, 0, 0), (177, .iload 5, 2, 0, 0, 0), (179, .iadd, 1, 0, 0, 0), (180, .iconst 1, 1, 0, 0, 0), (181, .iadd, 1, 0, 0, 0), (182, .istore_n 3, 1, 0, 0, 0), (183, .iinc 2 1, 3, 0, 0, 0), (186, .aload_n 0, 1, 0, 0, 0), (187, .getfield 59, 3, 8, 28, 4030), (190, .iload_n 2, 1, 0, 0, 0), (191, .iconst 0, 1, 0, 0, 0), (192, .iastore, 1, 0, 0, 0), (193, .aload_n 0, 1, 0, 0, 0), (194, .iload 4, 2, 0, 0, 0), (196, .aload_n 0, 1, 0, 0, 0), (197, .getfield 34, 3, 8, 17, 4019), (200, .iconst 2, 1, 0, 0, 0), (201, .iaload, 1, 0, 0, 0), (202, .isub, 1, 0, 0, 0), (203, .iload_n 3, 1, 0, 0, 0), (204, .invokevirtual 221, 3, 161, 0, 5065), (207, .goto (-153), 3, 54, 0, 0), (210, .return_, 1, 0, 0, 0)]
/-- LoveGlassModel.searchNow -/
def zc_163 : List (Nat × zI) := [(0, .aload_n 0, 1, 0, 0, 0), (1, .invokevirtual 225, 3, 160, 0, 5057), (4, .aload_n 0, 1, 0, 0, 0), (5, .bipush (-9), 2, 0, 0, 0), (7, .putfield 206, 3, 8, 30, 4032), (10, .aload_n 0, 1, 0, 0, 0), (11, .bipush (-9), 2, 0, 0, 0), (13, .putfield 212, 3, 8, 32, 4034), (16, .aload_n 0, 1, 0, 0, 0), (17, .bipush (-9), 2, 0, 0, 0), (19, .putfield 215, 3, 8, 33, 4035), (22, .aload_n 0, 1, 0, 0, 0), (23, .bipush (-9), 2, 0, 0, 0), (25, .putfield 218, 3, 8, 34, 4036), (28, .aload_n 0, 1, 0, 0, 0), (29, .getfield 31, 3, 8, 16, 4018), (32, .iconst 0, 1, 0, 0, 0), (33, .iaload, 1, 0, 0, 0), (34, .bipush (-9), 2, 0, 0, 0), (36, .if_icmp .eq 9, 3, 45, 0, 0), (39, .aload_n 0, 1, 0, 0, 0), (40, .bipush 63, 2, 0, 0, 0), (42, .invokevirtual 228, 3, 162, 0, 5061), (45, .return_, 1, 0, 0, 0)]
/-- LoveGlassModel.warmest -/
def zc_164 : List (Nat × zI) := [(0, .aload_n 0, 1, 0, 0, 0), (1, .iconst 0, 1, 0, 0, 0), (2, .putfield 71, 3, 8, 0, 4002), (5, .aload_n 0, 1, 0, 0, 0), (6, .invokevirtual 232, 3, 163, 0, 5053), (9, .iload_n 1, 1, 0, 0, 0), (10, .ifCond .eq 10, 3, 20, 0, 0), (13, .aload_n 0, 1, 0, 0, 0), (14, .getfield 212, 3, 8, 32, 4034), (17, .goto 7, 3, 24, 0, 0), (20, .aload_n 0, 1, 0, 0, 0), (21, .getfield 206, 3, 8, 30, 4032), (24, .ireturn, 1, 0, 0, 0)]
/-- LoveGlassModel.shortest -/
def zc_165 : List (Nat × zI) := [(0, .aload_n 0, 1, 0, 0, 0), (1, .iconst 0, 1, 0, 0, 0), (2, .putfield 71, 3, 8, 0, 4002), (5, .aload_n 0, 1, 0, 0, 0), (6, .invokevirtual 232, 3, 163, 0, 5053), (9, .iload_n 1, 1, 0, 0, 0), (10, .ifCond .eq 10, 3, 20, 0, 0), (13, .aload_n 0, 1, 0, 0, 0), (14, .getfield 218, 3, 8, 34, 4036), (17, .goto 7, 3, 24, 0, 0), (20, .aload_n 0, 1, 0, 0, 0), (21, .getfield 215, 3, 8, 33, 4035), (24, .ireturn, 1, 0, 0, 0)]
/-- LoveGlassModel.canIn -/
def zc_166 : List (Nat × zI) := [(0, .aload_n 0, 1, 0, 0, 0), (1, .aload_n 0, 1, 0, 0, 0), (2, .getfield 34, 3, 8, 17, 4019), (5, .iload_n 2, 1, 0, 0, 0), (6, .iload_n 1, 1, 0, 0, 0), (7, .invokevirtual 183, 3, 149, 0, 5010), (10, .aload_n 0, 1, 0, 0, 0), (11, .bipush 63, 2, 0, 0, 0), (13, .invokevirtual 228, 3, 162, 0, 5061), (16, .aload_n 0, 1, 0, 0, 0), (17, .getfield 206, 3, 8, 30, 4032), (20, .bipush (-9), 2, 0, 0, 0), (22, .if_icmp .eq 7, 3, 29, 0, 0), (25, .iconst 1, 1, 0, 0, 0), (26, .goto 4, 3, 30, 0, 0), (29, .iconst 0, 1, 0, 0, 0), (30, .ireturn, 1, 0, 0, 0)]
/-- LoveGlassModel.can -/
def zc_167 : List (Nat × zI) := [(0, .aload_n 0, 1, 0, 0, 0), (1, .iconst 0, 1, 0, 0, 0), (2, .putfield 71, 3, 8, 0, 4002), (5, .aload_n 0, 1, 0, 0, 0), (6, .iload_n 1, 1, 0, 0, 0), (7, .invokevirtual 155, 3, 121, 0, 4196), (10, .ifCond .eq 5, 3, 15, 0, 0), (13, .iconst (-1), 1, 0, 0, 0), (14, .ireturn, 1, 0, 0, 0), (15, .iconst 0, 1, 0, 0, 0), (16, .istore_n 2, 1, 0, 0, 0), (17, .iconst 0, 1, 0, 0, 0), (18, .istore_n 3, 1, 0, 0, 0), (19, .iload_n 3, 1, 0, 0, 0), (20, .aload_n 0, 1, 0, 0, 0), (21, .getfield 82, 3, 8, 6, 4008), (24, .if_icmp .ge 28, 3, 52, 0, 0), (27, .iload_n 2, 1, 0, 0, 0), (28, .aload_n 0, 1, 0, 0, 0), (29, .iload_n 3, 1, 0, 0, 0), (30, .iload_n 1, 1, 0, 0, 0), (31, .invokevirtual 235, 3, 166, 0, 5077), (34, .ifCond .eq 9, 3, 43, 0, 0), (37, .iconst 1, 1, 0, 0, 0), (38, .iload_n 3, 1, 0, 0, 0), (39, .ishl, 1, 0, 0, 0), (40, .goto 4, 3, 44, 0, 0), (43, .iconst 0, 1, 0, 0, 0), (44, .ior, 1, 0, 0, 0), (45, .istore_n 2, 1, 0, 0, 0), (46, .iinc 3 1, 3, 0, 0, 0), (49, .goto (-30), 3, 19, 0, 0), (52, .iload_n 2, 1, 0, 0, 0), (53, .ireturn, 1, 0, 0, 0)]
/-- LoveGlassModel.does -/
def zc_168 : List (Nat × zI) := [(0, .aload_n 0, 1, 0, 0, 0), (1, .iconst 0, 1, 0, 0, 0), (2, .putfield 71, 3, 8, 0, 4002), (5, .aload_n 0, 1, 0, 0, 0), (6, .iload_n 1, 1, 0, 0, 0), (7, .invokevirtual 163, 3, 122, 0, 4208), (10, .ifCond .eq 5, 3, 15, 0, 0), (13, .iconst (-1), 1, 0, 0, 0), (14, .ireturn, 1, 0, 0, 0), (15, .bipush (-9), 2, 0, 0, 0), (17, .istore_n 2, 1, 0, 0, 0), (18, .iconst 0, 1, 0, 0, 0), (19, .istore_n 3, 1, 0, 0, 0), (20, .iload_n 3, 1, 0, 0, 0), (21, .aload_n 0, 1, 0, 0, 0), (22, .getfield 75, 3, 8, 4, 4006), (25, .if_icmp .ge 55, 3, 80, 0, 0), (28, .iload_n 2, 1, 0, 0, 0), (29, .bipush (-9), 2, 0, 0, 0), (31, .if_icmp .eq 16, 3, 47, 0, 0), (34, .aload_n 0, 1, 0, 0, 0), (35, .iload_n 3, 1, 0, 0, 0), (36, .invokevirtual 159, 3, 135, 0, 4200), (39, .aload_n 0, 1, 0, 0, 0), (40, .iload_n 2, 1, 0, 0, 0), (41, .invokevirtual 159, 3, 135, 0, 4200), (44, .if_icmp .ge 16, 3, 60, 0, 0), (47, .aload_n 0, 1, 0, 0, 0), (48, .iload_n 1, 1, 0, 0, 0), (49, .iload_n 3, 1, 0, 0, 0), (50, .invokevirtual 235, 3, 166, 0, 5077), (53, .ifCond .eq 7, 3, 60, 0, 0), (56, .iconst 1, 1, 0, 0, 0), (57, .goto 4, 3, 61, 0, 0), (60, .iconst 0, 1, 0, 0, 0), (61, .istore 4, 2, 0, 0, 0), (63, .iload 4, 2, 0, 0, 0), (65, .ifCond .eq 7, 3, 72, 0, 0), (68, .iload_n 3, 1, 0, 0, 0), (69, .goto 4, 3, 73, 0, 0), (72, .iload_n 2, 1, 0, 0, 0), (73, .istore_n 2, 1, 0, 0, 0), (74, .iinc 3 1, 3, 0, 0, 0), (77, .goto (-57), 3, 20, 0, 0), (80, .iload_n 2, 1, 0, 0, 0), (81, .ireturn, 1, 0, 0, 0)]
/-- LoveGlassModel.findMatch -/
def zc_169 : List (Nat × zI) := [(0, .iconst 0, 1, 0, 0, 0), (1, .istore_n 1, 1, 0, 0, 0), (2, .iload_n 1, 1, 0, 0, 0), (3, .aload_n 0, 1, 0, 0, 0), (4, .getfield 82, 3, 8, 6, 4008), (7, .aload_n 0, 1, 0, 0, 0), (8, .getfield 75, 3, 8, 4, 4006), (11, .imul, 1, 0, 0, 0), (12, .if_icmp .ge 39, 3, 51, 0, 0), (15, .aload_n 0, 1, 0, 0, 0), (16, .getfield 68, 3, 8, 40, 4042), (19, .iload_n 1, 1, 0, 0, 0), (20, .aload_n 0, 1, 0, 0, 0), (21, .iload_n 1, 1, 0, 0, 0), (22, .aload_n 0, 1, 0, 0, 0), (23, .getfield 75, 3, 8, 4, 4006), (26, .idiv, 1, 0, 0, 0), (27, .iload_n 1, 1, 0, 0, 0), (28, .aload_n 0, 1, 0, 0, 0), (29, .getfield 75, 3, 8, 4, 4006), (32, .irem, 1, 0, 0, 0), (33, .invokevirtual 235, 3, 166, 0, 5077), (36, .ifCond .eq 7, 3, 43, 0, 0), (39, .iconst 1, 1, 0, 0, 0), (40, .goto 4, 3, 44, 0, 0), (43, .iconst 0, 1, 0, 0, 0), (44, .iastore, 1, 0, 0, 0), (45, .iinc 1 1, 3, 0, 0, 0), (48, .goto (-46), 3, 2, 0, 0), (51, .aload_n 0, 1, 0, 0, 0), (52, .bipush (-9), 2, 0, 0, 0), (54, .putfield 238, 3, 8, 35, 4037), (57, .aload_n 0, 1, 0, 0, 0), (58, .bipush (-9), 2, 0, 0, 0), (60, .putfield 241, 3, 8, 36, 4038), (63, .aload_n 0, 1, 0, 0, 0), (64, .getfield 75, 3, 8, 4, 4006), (67, .iconst 1, 1, 0, 0, 0), (68, .iadd, 1, 0, 0, 0), (69, .istore_n 1, 1, 0, 0, 0), (70, .iconst 0, 1, 0, 0, 0), (71, .istore_n 2, 1, 0, 0, 0), (72, .iload_n 2, 1, 0, 0, 0), (73, .iload_n 1, 1, 0, 0, 0), (74, .aload_n 0, 1, 0, 0, 0), (75, .getfield 82, 3, 8, 6, 4008), (78, .invokestatic 244, 3, 120, 0, 5093), (81, .if_icmp .ge 157, 3, 238, 0, 0), (84, .iconst 0, 1, 0, 0, 0), (85, .istore_n 3, 1, 0, 0, 0), (86, .iconst 0, 1, 0, 0, 0), (87, .istore 4, 2, 0, 0, 0), (89, .iconst 1, 1, 0, 0, 0), (90, .istore 5, 2, 0, 0, 0), (92, .iconst 1, 1, 0, 0, 0), (93, .istore 6, 2, 0, 0, 0), (95, .iconst 0, 1, 0, 0, 0), (96, .istore 7, 2, 0, 0, 0), (98, .iload 7, 2, 0, 0, 0), (100, .aload_n 0, 1, 0, 0, 0), (101, .getfield 82, 3, 8, 6, 4008), (104, .if_icmp .ge 102, 3, 206, 0, 0), (107, .iload_n 2, 1, 0, 0, 0), (108, .iload_n 1, 1, 0, 0, 0), (109, .aload_n 0, 1, 0, 0, 0), (110, .getfield 82, 3, 8, 6, 4008), (113, .iconst 1, 1, 0, 0, 0), (114, .isub, 1, 0, 0, 0), (115, .iload 7, 2, 0, 0, 0), (117, .isub, 1, 0, 0, 0), (118, .invokestatic 244, 3, 120, 0, 5093), (121, .idiv, 1, 0, 0, 0), (122, .iload_n 1, 1, 0, 0, 0), (123, .irem, 1, 0, 0, 0), (124, .istore 8, 2, 0, 0, 0), (126, .iload 6, 2, 0, 0, 0), (128, .ifCond .eq 21, 3, 149, 0, 0), (131, .iload 8, 2, 0, 0, 0), (133, .ifCond .eq 12, 3, 145, 0, 0), (136, .iload_n 3, 1, 0, 0, 0), (137, .iload 8, 2, 0, 0, 0), (139, .invokestatic 137, 3, 118, 0, 4189), (142, .ifCond .ne 7, 3, 149, 0, 0), (145, .iconst 1, 1, 0, 0, 0), (146, .goto 4, 3, 150, 0, 0), (149, .iconst 0, 1, 0, 0, 0), (150, .istore 6, 2, 0, 0, 0), (152, .iload_n 3, 1, 0, 0, 0), (153, .iconst 1, 1, 0, 0, 0), (154, .iload 8, 2, 0, 0, 0), (156, .ishl, 1, 0, 0, 0), (157, .ior, 1, 0, 0, 0), (158, .istore_n 3, 1, 0, 0, 0), (159, .iload 4, 2, 0, 0, 0), (161, .iload 8, 2, 0, 0, 0), (163, .ifCond .ne 7, 3, 170, 0, 0), (166, .iconst 0, 1, 0, 0, 0), (167, .goto 20, 3, 187, 0, 0), (170, .aload_n 0, 1, 0, 0, 0), (171, .getfield 68, 3, 8, 40, 4042), (174, .iload 7, 2, 0, 0, 0), (176, .aload_n 0, 1, 0, 0, 0), (177, .getfield 75, 3, 8, 4, 4006), (180, .imul, 1, 0, 0, 0), (181, .iload 8, 2, 0, 0, 0), (183, .iadd, 1, 0, 0, 0), (184, .iconst 1, 1, 0, 0, 0), (185, .isub, 1, 0, 0, 0), (186, .iaload, 1, 0, 0, 0), (187, .iadd, 1, 0, 0, 0), (188, .istore 4, 2, 0, 0, 0), (190, .bipush 10, 2, 0, 0, 0), (192, .iload 5, 2, 0, 0, 0), (194, .imul, 1, 0, 0, 0), (195, .iload 8, 2, 0, 0, 0), (197, .iadd, 1, 0, 0, 0), (198, .istore 5, 2, 0, 0, 0), (200, .iinc 7 1, 3, 0, 0, 0), (203, .goto (-105), 3, 98, 0, 0), (206, .iload 6, 2, 0, 0, 0), (208, .ifCond .eq 24, 3, 232, 0, 0), (211, .iload 4, 2, 0, 0, 0), (213, .aload_n 0, 1, 0, 0, 0), (214, .getfield 238, 3, 8, 35, 4037), (217, .if_icmp .le 15, 3, 232, 0, 0), (220, .aload_n 0, 1, 0, 0, 0), (221, .iload 4, 2, 0, 0, 0), (223, .putfield 238, 3, 8, 35, 4037), (226, .aload_n 0, 1, 0, 0, 0), (227, .iload 5, 2, 0, 0, 0), (229, .putfield 241, 3, 8, 36, 4038), (232, .iinc 2 1, 3, 0, 0, 0), (235, .goto (-163), 3, 72, 0, 0), (238, .return_, 1, 0, 0, 0)]
/-- LoveGlassModel.matched -/
def zc_170 : List (Nat × zI) := [(0, .aload_n 0, 1, 0, 0, 0), (1, .iconst 0, 1, 0, 0, 0), (2, .putfield 71, 3, 8, 0, 4002), (5, .aload_n 0, 1, 0, 0, 0), (6, .invokevirtual 247, 3, 169, 0, 5089), (9, .iload_n 1, 1, 0, 0, 0), (10, .ifCond .eq 10, 3, 20, 0, 0), (13, .aload_n 0, 1, 0, 0, 0), (14, .getfield 241, 3, 8, 36, 4038), (17, .goto 7, 3, 24, 0, 0), (20, .aload_n 0, 1, 0, 0, 0), (21, .getfield 238, 3, 8, 35, 4037), (24, .ireturn, 1, 0, 0, 0)]
/-- LoveGlassModel.isDone -/
def zc_171 : List (Nat × zI) := [(0, .iload_n 1, 1, 0, 0, 0), (1, .ifCond .ne 44, 3, 45, 0, 0), (4, .aload_n 0, 1, 0, 0, 0), (5, .iload_n 2, 1, 0, 0, 0), (6, .invokevirtual 169, 3, 123, 0, 4216), (9, .ifCond .ne 19, 3, 28, 0, 0), (12, .aload_n 0, 1, 0, 0, 0), (13, .aload_n 0, 1, 0, 0, 0), (14, .getfield 34, 3, 8, 17, 4019), (17, .iload_n 2, 1, 0, 0, 0), (18, .invokevirtual 187, 3, 151, 0, 5018), (21, .ifCond .eq 7, 3, 28, 0, 0), (24, .iconst 1, 1, 0, 0, 0), (25, .goto 4, 3, 29, 0, 0), (28, .iconst 0, 1, 0, 0, 0), (29, .istore_n 3, 1, 0, 0, 0), (30, .iload_n 3, 1, 0, 0, 0), (31, .ifCond .eq 12, 3, 43, 0, 0), (34, .aload_n 0, 1, 0, 0, 0), (35, .aload_n 0, 1, 0, 0, 0), (36, .getfield 34, 3, 8, 17, 4019), (39, .iload_n 2, 1, 0, 0, 0), (40, .invokevirtual 190, 3, 152, 0, 5022), (43, .iload_n 3, 1, 0, 0, 0), (44, .ireturn, 1, 0, 0, 0), (45, .iload_n 1, 1, 0, 0, 0), (46, .iconst 1, 1, 0, 0, 0), (47, .if_icmp .ne 53, 3, 100, 0, 0), (50, .iload_n 2, 1, 0, 0, 0), (51, .ifCond .le 8, 3, 59, 0, 0), (54, .bipush (-9), 2, 0, 0, 0), (56, .goto 11, 3, 67, 0, 0), (59, .aload_n 0, 1, 0, 0, 0), (60, .aload_n 0, 1, 0, 0, 0), (61, .getfield 34, 3, 8, 17, 4019), (64, .invokevirtual 194, 3, 154, 0, 5030), (67, .istore_n 3, 1, 0, 0, 0), (68, .aload_n 0, 1, 0, 0, 0), (69, .getfield 34, 3, 8, 17, 4019), (72, .iconst 2, 1, 0, 0, 0), (73, .dup2, 1, 0, 0, 0), (74, .iaload, 1, 0, 0, 0), (75, .iload_n 3, 1, 0, 0, 0), (76, .bipush (-9), 2, 0, 0, 0), (78, .if_icmp .ne 7, 3, 85, 0, 0), (81, .iconst 0, 1, 0, 0, 0), (82, .goto 4, 3, 86, 0, 0), (85, .iload_n 3, 1, 0, 0, 0), (86, .isub, 1, 0, 0, 0), (87, .iastore, 1, 0, 0, 0), (88, .iload_n 3, 1, 0, 0, 0), (89, .bipush (-9), 2, 0, 0, 0), (91, .if_icmp .eq 7, 3, 98, 0, 0), (94, .iconst 1, 1, 0, 0, 0), (95, .goto 4, 3, 99, 0, 0), (98, .iconst 0, 1, 0, 0, 0), (99, .ireturn, 1, 0, 0, 0), (100, .iload_n 1, 1, 0, 0, 0), (101, .iconst 2, 1, 0, 0, 0), (102, .if_icmp .ne 37, 3, 139, 0, 0), (105, .iload_n 2, 1, 0, 0, 0), (106, .ifCond .le 17, 3, 123, 0, 0), (109, .aload_n 0, 1, 0, 0, 0), (110, .getfield 34, 3, 8, 17, 4019), (113, .invokestatic 199, 3, 156, 0, 5039), (116, .ifCond .eq 7, 3, 123, 0, 0), (119, .iconst 1, 1, 0, 0, 0), (120, .goto 4, 3, 124, 0, 0), (123, .iconst 0, 1, 0, 0, 0), (124, .istore_n 3, 1, 0, 0, 0), (125, .iload_n 3, 1, 0, 0, 0), (126, .ifCond .eq 11, 3, 137, 0, 0), (129, .aload_n 0, 1, 0, 0, 0), (130, .getfield 34, 3, 8, 17, 4019), (133, .iload_n 2, 1, 0, 0, 0), (134, .invokestatic 203, 3, 157, 0, 5042), (137, .iload_n 3, 1, 0, 0, 0), (138, .ireturn, 1, 0, 0, 0), (139, .iload_n 1, 1, 0, 0, 0), (140, .iconst 3, 1, 0, 0, 0), (141, .if_icmp .ne 27, 3, 168, 0, 0), (144, .iload_n 2, 1, 0, 0, 0), (145, .ifCond .ne 19, 3, 164, 0, 0), (148, .aload_n 0, 1, 0, 0, 0), (149, .aload_n 0, 1, 0, 0, 0), (150, .getfield 34, 3, 8, 17, 4019), (153, .iconst 0, 1, 0, 0, 0), (154, .invokevirtual 148, 3, 140, 0, 4185), (157, .ifCond .eq 7, 3, 164, 0, 0), (160, .iconst 1, 1, 0, 0, 0), (161, .goto 29, 3, 190, 0, 0), (164, .iconst 0, 1, 0, 0, 0), (165, .goto 25, 3, 190, 0, 0), (168, .iload_n 1, 1, 0, 0, 0), (169, .iconst 4, 1, 0, 0, 0), (170, .if_icmp .ne 19, 3, 189, 0, 0), (173, .aload_n 0, 1, 0, 0, 0), (174, .aload_n 0, 1, 0, 0, 0), (175, .getfield 34, 3, 8, 17, 4019), (178, .invokevirtual 145, 3, 139, 0, 4181), (181, .iload_n 2, 1, 0, 0, 0), (182, .if_icmp .lt 7, 3, 189, 0, 0), (185, .iconst 1, 1, 0, 0, 0), (186, .goto 4, 3, 190, 0, 0), (189, .iconst 0, 1, 0, 0, 0), (190, .ireturn, 1, 0, 0, 0)]
/-- LoveGlassModel.judge -/
def zc_172 : List (Nat × zI) := [(0, .aload_n 0, 1, 0, 0, 0), (1, .iconst 0, 1, 0, 0, 0), (2, .putfield 71, 3, 8, 0, 4002), (5, .iload_n 1, 1, 0, 0, 0), (6, .i2l, 1, 0, 0, 0), (7, .lconst 1, 1, 0, 0, 0), (8, .ldc2_w 250, 3, 4, 0, 5100), (11, .invokestatic 78, 3, 117, 0, 4132), (14, .ifCond .eq 21, 3, 35, 0, 0), (17, .iload_n 2, 1, 0, 0, 0), (18, .i2l, 1, 0, 0, 0), (19, .lconst 0, 1, 0, 0, 0), (20, .bipush 100, 2, 0, 0, 0), (22, .iload_n 1, 1, 0, 0, 0), (23, .invokestatic 244, 3, 120, 0, 5093), (26, .iconst 1, 1, 0, 0, 0), (27, .isub, 1, 0, 0, 0), (28, .i2l, 1, 0, 0, 0), (29, .invokestatic 78, 3, 117, 0, 4132), (32, .ifCond .ne 6, 3, 38, 0, 0), (35, .bipush (-2), 2, 0, 0, 0), (37, .ireturn, 1, 0, 0, 0), (38, .aload_n 0, 1, 0, 0, 0), (39, .invokevirtual 225, 3, 160, 0, 5057), (42, .iconst 0, 1, 0, 0, 0), (43, .istore_n 3, 1, 0, 0, 0), (44, .iload_n 3, 1, 0, 0, 0), (45, .iload_n 1, 1, 0, 0, 0), (46, .if_icmp .ge 45, 3, 91, 0, 0), (49, .iload_n 2, 1, 0, 0, 0), (50, .bipush 100, 2, 0, 0, 0), (52, .iload_n 1, 1, 0, 0, 0), (53, .iconst 1, 1, 0, 0, 0), (54, .isub, 1, 0, 0, 0), (55, .iload_n 3, 1, 0, 0, 0), (56, .isub, 1, 0, 0, 0), (57, .invokestatic 244, 3, 120, 0, 5093), (60, .idiv, 1, 0, 0, 0), (61, .bipush 100, 2, 0, 0, 0), (63, .irem, 1, 0, 0, 0), (64, .istore 4, 2, 0, 0, 0), (66, .aload_n 0, 1, 0, 0, 0), (67, .iload 4, 2, 0, 0, 0), (69, .bipush 10, 2, 0, 0, 0), (71, .idiv, 1, 0, 0, 0), (72, .iload 4, 2, 0, 0, 0), (74, .bipush 10, 2, 0, 0, 0), (76, .irem, 1, 0, 0, 0), (77, .invokevirtual 252, 3, 171, 0, 5101), (80, .ifCond .ne 5, 3, 85, 0, 0), (83, .iload_n 3, 1, 0, 0, 0), (84, .ireturn, 1, 0, 0, 0), (85, .iinc 3 1, 3, 0, 0, 0), (88, .goto (-44), 3, 44, 0, 0), (91, .bipush (-9), 2, 0, 0, 0), (93, .ireturn, 1, 0, 0, 0)]
/-- LoveGlassModel.ways -/
def zc_173 : List (Nat × zI) := [(0, .iconst 1, 1, 0, 0, 0), (1, .istore_n 1, 1, 0, 0, 0), (2, .iconst 2, 1, 0, 0, 0), (3, .istore_n 2, 1, 0, 0, 0), (4, .iload_n 2, 1, 0, 0, 0), (5, .iload_n 0, 1, 0, 0, 0), (6, .if_icmp .gt 13, 3, 19, 0, 0), (9, .iload_n 1, 1, 0, 0, 0), (10, .iload_n 2, 1, 0, 0, 0), (11, .imul, 1, 0, 0, 0), (12, .istore_n 1, 1, 0, 0, 0), (13, .iinc 2 1, 3, 0, 0, 0), (16, .goto (-12), 3, 4, 0, 0), (19, .iload_n 1, 1, 0, 0, 0), (20, .ireturn, 1, 0, 0, 0)]
/-- LoveGlassModel.divisor -/
def zc_174 : List (Nat × zI) := [(0, .iload_n 0, 1, 0, 0, 0), (1, .ifCond .ge 8, 3, 9, 0, 0), (4, .iload_n 0, 1, 0, 0, 0), (5, .ineg, 1, 0, 0, 0), (6, .goto 4, 3, 10, 0, 0), (9, .iload_n 0, 1, 0, 0, 0), (10, .istore_n 2, 1, 0, 0, 0), (11, .iload_n 1, 1, 0, 0, 0), (12, .istore_n 3, 1, 0, 0, 0), (13, .iload_n 3, 1, 0, 0, 0), (14, .ifCond .eq 16, 3, 30, 0, 0), (17, .iload_n 2, 1, 0, 0, 0), (18, .iload_n 3, 1, 0, 0, 0), (19, .irem, 1, 0, 0, 0), (20, .istore 4, 2, 0, 0, 0), (22, .iload_n 3, 1, 0, 0, 0), (23, .istore_n 2, 1, 0, 0, 0), (24, .iload 4, 2, 0, 0, 0), (26, .istore_n 3, 1, 0, 0, 0), (27, .goto (-14), 3, 13, 0, 0), (30, .iload_n 2, 1, 0, 0, 0), (31, .ireturn, 1, 0, 0, 0)]
/-- LoveGlassModel.fraction -/
def zc_175 : List (Nat × zI) := [(0, .iload_n 0, 1, 0, 0, 0), (1, .iload_n 1, 1, 0, 0, 0), (2, .invokestatic 255, 3, 174, 0, 5122), (5, .istore_n 3, 1, 0, 0, 0), (6, .iload_n 2, 1, 0, 0, 0), (7, .ifCond .eq 9, 3, 16, 0, 0), (10, .iload_n 0, 1, 0, 0, 0), (11, .iload_n 3, 1, 0, 0, 0), (12, .idiv, 1, 0, 0, 0), (13, .goto 6, 3, 19, 0, 0), (16, .iload_n 1, 1, 0, 0, 0), (17, .iload_n 3, 1, 0, 0, 0), (18, .idiv, 1, 0, 0, 0), (19, .ireturn, 1, 0, 0, 0)]
/-- LoveGlassModel.warmthBy -/
def zc_176 : List (Nat × zI) := [(0, .aload_n 0, 1, 0, 0, 0), (1, .aload_n 0, 1, 0, 0, 0), (2, .getfield 34, 3, 8, 17, 4019), (5, .iload_n 1, 1, 0, 0, 0), (6, .iload_n 2, 1, 0, 0, 0), (7, .invokevirtual 183, 3, 149, 0, 5010), (10, .aload_n 0, 1, 0, 0, 0), (11, .getfield 34, 3, 8, 17, 4019), (14, .iconst 2, 1, 0, 0, 0), (15, .iload_n 3, 1, 0, 0, 0), (16, .iastore, 1, 0, 0, 0), (17, .aload_n 0, 1, 0, 0, 0), (18, .iload 4, 2, 0, 0, 0), (20, .invokevirtual 228, 3, 162, 0, 5061), (23, .aload_n 0, 1, 0, 0, 0), (24, .getfield 206, 3, 8, 30, 4032), (27, .bipush (-9), 2, 0, 0, 0), (29, .if_icmp .ne 7, 3, 36, 0, 0), (32, .iconst 0, 1, 0, 0, 0), (33, .goto 7, 3, 40, 0, 0), (36, .aload_n 0, 1, 0, 0, 0), (37, .getfield 206, 3, 8, 30, 4032), (40, .ireturn, 1, 0, 0, 0)]
/-- LoveGlassModel.share -/
def zc_177 : List (Nat × zI) := [(0, .aload_n 0, 1, 0, 0, 0), (1, .iconst 0, 1, 0, 0, 0), (2, .putfield 71, 3, 8, 0, 4002), (5, .aload_n 0, 1, 0, 0, 0), (6, .iload_n 1, 1, 0, 0, 0), (7, .invokevirtual 169, 3, 123, 0, 4216), (10, .ifCond .eq 5, 3, 15, 0, 0), (13, .iconst (-1), 1, 0, 0, 0), (14, .ireturn, 1, 0, 0, 0), (15, .aload_n 0, 1, 0, 0, 0), (16, .getfield 31, 3, 8, 16, 4018), (19, .iconst 0, 1, 0, 0, 0), (20, .iaload, 1, 0, 0, 0), (21, .bipush (-9), 2, 0, 0, 0), (23, .if_icmp .ne 6, 3, 29, 0, 0), (26, .bipush (-3), 2, 0, 0, 0), (28, .ireturn, 1, 0, 0, 0), (29, .iconst 0, 1, 0, 0, 0), (30, .istore_n 3, 1, 0, 0, 0), (31, .iload_n 3, 1, 0, 0, 0), (32, .iconst 1, 1, 0, 0, 0), (33, .aload_n 0, 1, 0, 0, 0), (34, .getfield 85, 3, 8, 8, 4010), (37, .ishl, 1, 0, 0, 0), (38, .if_icmp .ge 42, 3, 80, 0, 0), (41, .aload_n 0, 1, 0, 0, 0), (42, .getfield 68, 3, 8, 40, 4042), (45, .iload_n 3, 1, 0, 0, 0), (46, .aload_n 0, 1, 0, 0, 0), (47, .aload_n 0, 1, 0, 0, 0), (48, .getfield 31, 3, 8, 16, 4018), (51, .iconst 0, 1, 0, 0, 0), (52, .iaload, 1, 0, 0, 0), (53, .aload_n 0, 1, 0, 0, 0), (54, .getfield 31, 3, 8, 16, 4018), (57, .iconst 1, 1, 0, 0, 0), (58, .iaload, 1, 0, 0, 0), (59, .aload_n 0, 1, 0, 0, 0), (60, .aload_n 0, 1, 0, 0, 0), (61, .getfield 31, 3, 8, 16, 4018), (64, .iconst 0, 1, 0, 0, 0), (65, .iaload, 1, 0, 0, 0), (66, .invokevirtual 159, 3, 135, 0, 4200), (69, .iload_n 3, 1, 0, 0, 0), (70, .invokevirtual 258, 3, 176, 0, 5109), (73, .iastore, 1, 0, 0, 0), (74, .iinc 3 1, 3, 0, 0, 0), (77, .goto (-46), 3, 31, 0, 0), (80, .iconst 0, 1, 0, 0, 0), (81, .istore_n 3, 1, 0, 0, 0), (82, .iconst 0, 1, 0, 0, 0), (83, .istore 4, 2, 0, 0, 0), (85, .iload 4, 2, 0, 0, 0), (87, .iconst 1, 1, 0, 0, 0), (88, .aload_n 0, 1, 0, 0, 0), (89, .getfield 85, 3, 8, 8, 4010), (92, .ishl, 1, 0, 0, 0), (93, .if_icmp .ge 66, 3, 159, 0, 0), (96, .iload 4, 2, 0, 0, 0), (98, .iload_n 1, 1, 0, 0, 0), (99, .invokestatic 137, 3, 118, 0, 4189), (102, .ifCond .ne 51, 3, 153, 0, 0), (105, .iload 4, 2, 0, 0, 0), (107, .invokestatic 261, 3, 119, 0, 5113), (110, .istore 5, 2, 0, 0, 0), (112, .iload_n 3, 1, 0, 0, 0), (113, .iload 5, 2, 0, 0, 0), (115, .invokestatic 264, 3, 173, 0, 5116), (118, .aload_n 0, 1, 0, 0, 0), (119, .getfield 85, 3, 8, 8, 4010), (122, .iconst 1, 1, 0, 0, 0), (123, .isub, 1, 0, 0, 0), (124, .iload 5, 2, 0, 0, 0), (126, .isub, 1, 0, 0, 0), (127, .invokestatic 264, 3, 173, 0, 5116), (130, .imul, 1, 0, 0, 0), (131, .aload_n 0, 1, 0, 0, 0), (132, .getfield 68, 3, 8, 40, 4042), (135, .iload 4, 2, 0, 0, 0), (137, .iconst 1, 1, 0, 0, 0), (138, .iload_n 1, 1, 0, 0, 0), (139, .ishl, 1, 0, 0, 0), (140, .ior, 1, 0, 0, 0), (141, .iaload, 1, 0, 0, 0), (142, .aload_n 0, 1, 0, 0, 0), (143, .getfield 68, 3, 8, 40, 4042), (146, .iload 4, 2, 0, 0, 0), (148, .iaload, 1, 0, 0, 0), (149, .isub, 1, 0, 0, 0), (150, .imul, 1, 0, 0, 0), (151, .iadd, 1, 0, 0, 0), (152, .istore_n 3, 1, 0, 0, 0), (153, .iinc 4 1, 3, 0, 0, 0), (156, .goto (-71), 3, 85, 0, 0), (159, .iload_n 3, 1, 0, 0, 0), (160, .aload_n 0, 1, 0, 0, 0), (161, .getfield 85, 3, 8, 8, 4010), (164, .invokestatic 264, 3, 173, 0, 5116), (167, .iload_n 2, 1, 0, 0, 0), (168, .invokestatic 267, 3, 175, 0, 5119), (171, .ireturn, 1, 0, 0, 0)]
/-- LoveGlassModel.time -/
def zc_178 : List (Nat × zI) := [(0, .aload_n 0, 1, 0, 0, 0), (1, .iconst 0, 1, 0, 0, 0), (2, .putfield 71, 3, 8, 0, 4002), (5, .aload_n 0, 1, 0, 0, 0), (6, .iload_n 1, 1, 0, 0, 0), (7, .invokevirtual 169, 3, 123, 0, 4216), (10, .ifCond .eq 5, 3, 15, 0, 0), (13, .iconst (-1), 1, 0, 0, 0), (14, .ireturn, 1, 0, 0, 0), (15, .iload_n 2, 1, 0, 0, 0), (16, .i2l, 1, 0, 0, 0), (17, .lconst 0, 1, 0, 0, 0), (18, .ldc2_w 178, 3, 5, 0, 5001), (21, .invokestatic 78, 3, 117, 0, 4132), (24, .ifCond .eq 28, 3, 52, 0, 0), (27, .iload_n 3, 1, 0, 0, 0), (28, .i2l, 1, 0, 0, 0), (29, .lconst 1, 1, 0, 0, 0), (30, .ldc2_w 250, 3, 4, 0, 5100), (33, .invokestatic 78, 3, 117, 0, 4132), (36, .ifCond .eq 16, 3, 52, 0, 0), (39, .iload 4, 2, 0, 0, 0), (41, .i2l, 1, 0, 0, 0), (42, .lconst 0, 1, 0, 0, 0), (43, .ldc2_w 271, 3, 99, 0, 5129), (46, .invokestatic 78, 3, 117, 0, 4132), (49, .ifCond .ne 6, 3, 55, 0, 0), (52, .bipush (-2), 2, 0, 0, 0), (54, .ireturn, 1, 0, 0, 0), (55, .aload_n 0, 1, 0, 0, 0), (56, .getfield 152, 3, 8, 22, 4024), (59, .bipush 6, 2, 0, 0, 0), (61, .if_icmp .ne 6, 3, 67, 0, 0), (64, .bipush (-4), 2, 0, 0, 0), (66, .ireturn, 1, 0, 0, 0), (67, .aload_n 0, 1, 0, 0, 0), (68, .getfield 47, 3, 8, 23, 4025), (71, .aload_n 0, 1, 0, 0, 0), (72, .getfield 152, 3, 8, 22, 4024), (75, .iload_n 1, 1, 0, 0, 0), (76, .iastore, 1, 0, 0, 0), (77, .aload_n 0, 1, 0, 0, 0), (78, .getfield 50, 3, 8, 24, 4026), (81, .aload_n 0, 1, 0, 0, 0), (82, .getfield 152, 3, 8, 22, 4024), (85, .iload_n 2, 1, 0, 0, 0), (86, .iastore, 1, 0, 0, 0), (87, .aload_n 0, 1, 0, 0, 0), (88, .getfield 53, 3, 8, 25, 4027), (91, .aload_n 0, 1, 0, 0, 0), (92, .getfield 152, 3, 8, 22, 4024), (95, .iload_n 3, 1, 0, 0, 0), (96, .iastore, 1, 0, 0, 0), (97, .aload_n 0, 1, 0, 0, 0), (98, .getfield 56, 3, 8, 26, 4028), (101, .aload_n 0, 1, 0, 0, 0), (102, .getfield 152, 3, 8, 22, 4024), (105, .iload 4, 2, 0, 0, 0), (107, .iastore, 1, 0, 0, 0), (108, .aload_n 0, 1, 0, 0, 0), (109, .dup, 1, 0, 0, 0), (110, .getfield 152, 3, 8, 22, 4024), (113, .iconst 1, 1, 0, 0, 0), (114, .iadd, 1, 0, 0, 0), (115, .putfield 152, 3, 8, 22, 4024), (118, .aload_n 0, 1, 0, 0, 0), (119, .getfield 152, 3, 8, 22, 4024), (122, .ireturn, 1, 0, 0, 0)]
/-- LoveGlassModel.untime -/
def zc_179 : List (Nat × zI) := [(0, .aload_n 0, 1, 0, 0, 0), (1, .iconst 0, 1, 0, 0, 0), (2, .putfield 71, 3, 8, 0, 4002), (5, .aload_n 0, 1, 0, 0, 0), (6, .getfield 152, 3, 8, 22, 4024), (9, .istore_n 1, 1, 0, 0, 0), (10, .aload_n 0, 1, 0, 0, 0), (11, .iconst 0, 1, 0, 0, 0), (12, .putfield 152, 3, 8, 22, 4024), (15, .iload_n 1, 1, 0, 0, 0), (16, .ireturn, 1, 0, 0, 0)]
/-- LoveGlassModel.kinds -/
def zc_180 : List (Nat × zI) := [(0, .aload_n 0, 1, 0, 0, 0), (1, .iconst 0, 1, 0, 0, 0), (2, .putfield 71, 3, 8, 0, 4002), (5, .iconst 0, 1, 0, 0, 0), (6, .istore_n 1, 1, 0, 0, 0), (7, .iconst 0, 1, 0, 0, 0), (8, .istore_n 2, 1, 0, 0, 0), (9, .iload_n 2, 1, 0, 0, 0), (10, .iconst 4, 1, 0, 0, 0), (11, .if_icmp .ge 103, 3, 114, 0, 0), (14, .iconst 1, 1, 0, 0, 0), (15, .istore_n 3, 1, 0, 0, 0), (16, .iconst 0, 1, 0, 0, 0), (17, .istore 4, 2, 0, 0, 0), (19, .iload 4, 2, 0, 0, 0), (21, .aload_n 0, 1, 0, 0, 0), (22, .getfield 152, 3, 8, 22, 4024), (25, .if_icmp .ge 69, 3, 94, 0, 0), (28, .iload_n 3, 1, 0, 0, 0), (29, .ifCond .eq 57, 3, 86, 0, 0), (32, .aload_n 0, 1, 0, 0, 0), (33, .aload_n 0, 1, 0, 0, 0), (34, .getfield 47, 3, 8, 23, 4025), (37, .iload 4, 2, 0, 0, 0), (39, .iaload, 1, 0, 0, 0), (40, .invokevirtual 169, 3, 123, 0, 4216), (43, .ifCond .ne 39, 3, 82, 0, 0), (46, .aload_n 0, 1, 0, 0, 0), (47, .aload_n 0, 1, 0, 0, 0), (48, .getfield 47, 3, 8, 23, 4025), (51, .iload 4, 2, 0, 0, 0), (53, .iaload, 1, 0, 0, 0), (54, .aload_n 0, 1, 0, 0, 0), (55, .getfield 53, 3, 8, 25, 4027), (58, .iload 4, 2, 0, 0, 0), (60, .iaload, 1, 0, 0, 0), (61, .iload_n 2, 1, 0, 0, 0), (62, .aload_n 0, 1, 0, 0, 0), (63, .getfield 50, 3, 8, 24, 4026), (66, .iload 4, 2, 0, 0, 0), (68, .iaload, 1, 0, 0, 0), (69, .invokevirtual 133, 3, 136, 0, 4229), (72, .aload_n 0, 1, 0, 0, 0), (73, .getfield 56, 3, 8, 26, 4028), (76, .iload 4, 2, 0, 0, 0), (78, .iaload, 1, 0, 0, 0), (79, .if_icmp .ne 7, 3, 86, 0, 0), (82, .iconst 1, 1, 0, 0, 0), (83, .goto 4, 3, 87, 0, 0), (86, .iconst 0, 1, 0, 0, 0), (87, .istore_n 3, 1, 0, 0, 0), (88, .iinc 4 1, 3, 0, 0, 0), (91, .goto (-72), 3, 19, 0, 0), (94, .iload_n 1, 1, 0, 0, 0), (95, .iload_n 3, 1, 0, 0, 0), (96, .ifCond .eq 9, 3, 105, 0, 0), (99, .iconst 1, 1, 0, 0, 0), (100, .iload_n 2, 1, 0, 0, 0), (101, .ishl, 1, 0, 0, 0), (102, .goto 4, 3, 106, 0, 0), (105, .iconst 0, 1, 0, 0, 0), (106, .ior, 1, 0, 0, 0), (107, .istore_n 1, 1, 0, 0, 0), (108, .iinc 2 1, 3, 0, 0, 0), (111, .goto (-102), 3, 9, 0, 0), (114, .iload_n 1, 1, 0, 0, 0), (115, .ireturn, 1, 0, 0, 0)]
/-- LoveGlassModel.layGains -/
def zc_181 : List (Nat × zI) := [(0, .aload_n 0, 1, 0, 0, 0), (1, .getfield 31, 3, 8, 16, 4018), (4, .iconst 0, 1, 0, 0, 0), (5, .iaload, 1, 0, 0, 0), (6, .istore_n 3, 1, 0, 0, 0), (7, .aload_n 0, 1, 0, 0, 0), (8, .getfield 31, 3, 8, 16, 4018), (11, .iconst 2, 1, 0, 0, 0), (12, .iaload, 1, 0, 0, 0), (13, .istore 4, 2, 0, 0, 0), (15, .iconst 0, 1, 0, 0, 0), (16, .istore 5, 2, 0, 0, 0), (18, .iload 5, 2, 0, 0, 0), (20, .iconst 4, 1, 0, 0, 0), (21, .if_icmp .ge 87, 3, 108, 0, 0), (24, .iload 5, 2, 0, 0, 0), (26, .iconst 3, 1, 0, 0, 0), (27, .if_icmp .ne 10, 3, 37, 0, 0), (30, .iload 4, 2, 0, 0, 0), (32, .iconst 2, 1, 0, 0, 0), (33, .idiv, 1, 0, 0, 0), (34, .goto 5, 3, 39, 0, 0), (37, .iload 4, 2, 0, 0, 0), (39, .istore 6, 2, 0, 0, 0), (41, .aload_n 0, 1, 0, 0, 0), (42, .getfield 65, 3, 8, 39, 4041), (45, .iconst 2, 1, 0, 0, 0), (46, .iload 5, 2, 0, 0, 0), (48, .imul, 1, 0, 0, 0), (49, .iload 5, 2, 0, 0, 0), (51, .iconst 2, 1, 0, 0, 0), (52, .if_icmp .ge 7, 3, 59, 0, 0), (55, .iconst 2, 1, 0, 0, 0), (56, .goto 13, 3, 69, 0, 0), (59, .aload_n 0, 1, 0, 0, 0), (60, .iload_n 3, 1, 0, 0, 0), (61, .iload_n 1, 1, 0, 0, 0), (62, .iload 6, 2, 0, 0, 0), (64, .bipush 63, 2, 0, 0, 0), (66, .invokevirtual 258, 3, 176, 0, 5109), (69, .iastore, 1, 0, 0, 0), (70, .aload_n 0, 1, 0, 0, 0), (71, .getfield 65, 3, 8, 39, 4041), (74, .iconst 2, 1, 0, 0, 0), (75, .iload 5, 2, 0, 0, 0), (77, .imul, 1, 0, 0, 0), (78, .iconst 1, 1, 0, 0, 0), (79, .iadd, 1, 0, 0, 0), (80, .iload 5, 2, 0, 0, 0), (82, .iconst 2, 1, 0, 0, 0), (83, .irem, 1, 0, 0, 0), (84, .ifCond .ne 7, 3, 91, 0, 0), (87, .iconst 2, 1, 0, 0, 0), (88, .goto 13, 3, 101, 0, 0), (91, .aload_n 0, 1, 0, 0, 0), (92, .iload_n 3, 1, 0, 0, 0), (93, .iload_n 2, 1, 0, 0, 0), (94, .iload 6, 2, 0, 0, 0), (96, .bipush 63, 2, 0, 0, 0), (98, .invokevirtual 258, 3, 176, 0, 5109), (101, .iastore, 1, 0, 0, 0), (102, .iinc 5 1, 3, 0, 0, 0), (105, .goto (-87), 3, 18, 0, 0), (108, .return_, 1, 0, 0, 0)]
/-- LoveGlassModel.rests -/
def zc_182 : List (Nat × zI) := [(0, .aload_n 0, 1, 0, 0, 0), (1, .iconst 0, 1, 0, 0, 0), (2, .putfield 71, 3, 8, 0, 4002), (5, .aload_n 0, 1, 0, 0, 0), (6, .iload_n 1, 1, 0, 0, 0), (7, .invokevirtual 163, 3, 122, 0, 4208), (10, .ifCond .ne 11, 3, 21, 0, 0), (13, .aload_n 0, 1, 0, 0, 0), (14, .iload_n 2, 1, 0, 0, 0), (15, .invokevirtual 163, 3, 122, 0, 4208), (18, .ifCond .eq 5, 3, 23, 0, 0), (21, .iconst (-1), 1, 0, 0, 0), (22, .ireturn, 1, 0, 0, 0), (23, .iload_n 1, 1, 0, 0, 0), (24, .iload_n 2, 1, 0, 0, 0), (25, .if_icmp .eq 13, 3, 38, 0, 0), (28, .iload_n 3, 1, 0, 0, 0), (29, .i2l, 1, 0, 0, 0), (30, .lconst 0, 1, 0, 0, 0), (31, .lconst 1, 1, 0, 0, 0), (32, .invokestatic 78, 3, 117, 0, 4132), (35, .ifCond .ne 6, 3, 41, 0, 0), (38, .bipush (-2), 2, 0, 0, 0), (40, .ireturn, 1, 0, 0, 0), (41, .aload_n 0, 1, 0, 0, 0), (42, .getfield 31, 3, 8, 16, 4018), (45, .iconst 0, 1, 0, 0, 0), (46, .iaload, 1, 0, 0, 0), (47, .bipush (-9), 2, 0, 0, 0), (49, .if_icmp .ne 6, 3, 55, 0, 0), (52, .bipush (-3), 2, 0, 0, 0), (54, .ireturn, 1, 0, 0, 0), (55, .aload_n 0, 1, 0, 0, 0), (56, .iload_n 1, 1, 0, 0, 0), (57, .iload_n 2, 1, 0, 0, 0), (58, .invokevirtual 273, 3, 181, 0, 5142), (61, .aload_n 0, 1, 0, 0, 0), (62, .iconst 0, 1, 0, 0, 0), (63, .putfield 276, 3, 8, 37, 4039), (66, .aload_n 0, 1, 0, 0, 0), (67, .bipush (-9), 2, 0, 0, 0), (69, .putfield 279, 3, 8, 38, 4040), (72, .iconst 0, 1, 0, 0, 0), (73, .istore 4, 2, 0, 0, 0), (75, .iload 4, 2, 0, 0, 0), (77, .iconst 4, 1, 0, 0, 0), (78, .if_icmp .ge 120, 3, 198, 0, 0), (81, .aload_n 0, 1, 0, 0, 0), (82, .getfield 65, 3, 8, 39, 4041), (85, .iconst 2, 1, 0, 0, 0), (86, .iload 4, 2, 0, 0, 0), (88, .iconst 2, 1, 0, 0, 0), (89, .ixor, 1, 0, 0, 0), (90, .imul, 1, 0, 0, 0), (91, .iaload, 1, 0, 0, 0), (92, .aload_n 0, 1, 0, 0, 0), (93, .getfield 65, 3, 8, 39, 4041), (96, .iconst 2, 1, 0, 0, 0), (97, .iload 4, 2, 0, 0, 0), (99, .imul, 1, 0, 0, 0), (100, .iaload, 1, 0, 0, 0), (101, .if_icmp .gt 34, 3, 135, 0, 0), (104, .aload_n 0, 1, 0, 0, 0), (105, .getfield 65, 3, 8, 39, 4041), (108, .iconst 2, 1, 0, 0, 0), (109, .iload 4, 2, 0, 0, 0), (111, .iconst 1, 1, 0, 0, 0), (112, .ixor, 1, 0, 0, 0), (113, .imul, 1, 0, 0, 0), (114, .iconst 1, 1, 0, 0, 0), (115, .iadd, 1, 0, 0, 0), (116, .iaload, 1, 0, 0, 0), (117, .aload_n 0, 1, 0, 0, 0), (118, .getfield 65, 3, 8, 39, 4041), (121, .iconst 2, 1, 0, 0, 0), (122, .iload 4, 2, 0, 0, 0), (124, .imul, 1, 0, 0, 0), (125, .iconst 1, 1, 0, 0, 0), (126, .iadd, 1, 0, 0, 0), (127, .iaload, 1, 0, 0, 0), (128, .if_icmp .gt 7, 3, 135, 0, 0), (131, .iconst 1, 1, 0, 0, 0), (132, .goto 4, 3, 136, 0, 0), (135, .iconst 0, 1, 0, 0, 0), (136, .istore 5, 2, 0, 0, 0), (138, .aload_n 0, 1, 0, 0, 0), (139, .iload 5, 2, 0, 0, 0), (141, .ifCond .eq 25, 3, 166, 0, 0), (144, .aload_n 0, 1, 0, 0, 0), (145, .getfield 276, 3, 8, 37, 4039), (148, .ifCond .ne 18, 3, 166, 0, 0), (151, .bipush 10, 2, 0, 0, 0), (153, .iload 4, 2, 0, 0, 0), (155, .iconst 2, 1, 0, 0, 0), (156, .idiv, 1, 0, 0, 0), (157, .imul, 1, 0, 0, 0), (158, .iload 4, 2, 0, 0, 0), (160, .iconst 2, 1, 0, 0, 0), (161, .irem, 1, 0, 0, 0), (162, .iadd, 1, 0, 0, 0), (163, .goto 7, 3, 170, 0, 0), (166, .aload_n 0, 1, 0, 0, 0), (167, .getfield 279, 3, 8, 38, 4040), (170, .putfield 279, 3, 8, 38, 4040), (173, .aload_n 0, 1, 0, 0, 0), (174, .dup, 1, 0, 0, 0), (175, .getfield 276, 3, 8, 37, 4039), (178, .iload 5, 2, 0, 0, 0), (180, .ifCond .eq 7, 3, 187, 0, 0), (183, .iconst 1, 1, 0, 0, 0), (184, .goto 4, 3, 188, 0, 0), (187, .iconst 0, 1, 0, 0, 0), (188, .iadd, 1, 0, 0, 0), (189, .putfield 276, 3, 8, 37, 4039), (192, .iinc 4 1, 3, 0, 0, 0), (195, .goto (-120), 3, 75, 0, 0), (198, .iload_n 3, 1, 0, 0, 0), (199, .ifCond .ne 10, 3, 209, 0, 0), (202, .aload_n 0, 1, 0, 0, 0), (203, .getfield 276, 3, 8, 37, 4039), (206, .goto 7, 3, 213, 0, 0), (209, .aload_n 0, 1, 0, 0, 0), (210, .getfield 279, 3, 8, 38, 4040), (213, .ireturn, 1, 0, 0, 0)]
/-- LoveGlassModel.misheard -/
def zc_183 : List (Nat × zI) := [(0, .aload_n 0, 1, 0, 0, 0), (1, .iconst 0, 1, 0, 0, 0), (2, .putfield 71, 3, 8, 0, 4002), (5, .iload_n 1, 1, 0, 0, 0), (6, .i2l, 1, 0, 0, 0), (7, .lconst 0, 1, 0, 0, 0), (8, .ldc2_w 282, 3, 10, 0, 5150), (11, .invokestatic 78, 3, 117, 0, 4132), (14, .ifCond .ne 6, 3, 20, 0, 0), (17, .bipush (-2), 2, 0, 0, 0), (19, .ireturn, 1, 0, 0, 0), (20, .aload_n 0, 1, 0, 0, 0), (21, .getfield 31, 3, 8, 16, 4018), (24, .iconst 3, 1, 0, 0, 0), (25, .iaload, 1, 0, 0, 0), (26, .istore_n 3, 1, 0, 0, 0), (27, .iconst 0, 1, 0, 0, 0), (28, .istore 4, 2, 0, 0, 0), (30, .iconst 0, 1, 0, 0, 0), (31, .istore 5, 2, 0, 0, 0), (33, .iload 5, 2, 0, 0, 0), (35, .iconst 1, 1, 0, 0, 0), (36, .iload_n 3, 1, 0, 0, 0), (37, .ishl, 1, 0, 0, 0), (38, .if_icmp .ge 56, 3, 94, 0, 0), (41, .iload 5, 2, 0, 0, 0), (43, .invokestatic 261, 3, 119, 0, 5113), (46, .istore 6, 2, 0, 0, 0), (48, .iload 4, 2, 0, 0, 0), (50, .aload_n 0, 1, 0, 0, 0), (51, .aload_n 0, 1, 0, 0, 0), (52, .getfield 31, 3, 8, 16, 4018), (55, .iload 5, 2, 0, 0, 0), (57, .invokevirtual 148, 3, 140, 0, 4185), (60, .ifCond .eq 24, 3, 84, 0, 0), (63, .iload_n 1, 1, 0, 0, 0), (64, .iload 6, 2, 0, 0, 0), (66, .invokestatic 244, 3, 120, 0, 5093), (69, .bipush 10, 2, 0, 0, 0), (71, .iload_n 1, 1, 0, 0, 0), (72, .isub, 1, 0, 0, 0), (73, .iload_n 3, 1, 0, 0, 0), (74, .iload 6, 2, 0, 0, 0), (76, .isub, 1, 0, 0, 0), (77, .invokestatic 244, 3, 120, 0, 5093), (80, .imul, 1, 0, 0, 0), (81, .goto 4, 3, 85, 0, 0), (84, .iconst 0, 1, 0, 0, 0), (85, .iadd, 1, 0, 0, 0), (86, .istore 4, 2, 0, 0, 0), (88, .iinc 5 1, 3, 0, 0, 0), (91, .goto (-58), 3, 33, 0, 0), (94, .iload 4, 2, 0, 0, 0), (96, .bipush 10, 2, 0, 0, 0), (98, .iload_n 3, 1, 0, 0, 0), (99, .invokestatic 244, 3, 120, 0, 5093), (102, .iload_n 2, 1, 0, 0, 0), (103, .invokestatic 267, 3, 175, 0, 5119), (106, .ireturn, 1, 0, 0, 0)]
/-- LoveGlassModel.seed -/
def zc_184 : List (Nat × zI) := [(0, .aload_n 0, 1, 0, 0, 0), (1, .iconst 0, 1, 0, 0, 0), (2, .putfield 71, 3, 8, 0, 4002), (5, .aload_n 0, 1, 0, 0, 0), (6, .getfield 284, 3, 8, 27, 4029), (9, .lstore_n 3, 1, 0, 0, 0), (10, .aload_n 0, 1, 0, 0, 0), (11, .lload_n 1, 1, 0, 0, 0), (12, .putfield 284, 3, 8, 27, 4029), (15, .lload_n 3, 1, 0, 0, 0), (16, .lreturn, 1, 0, 0, 0)]
/-- LoveGlassModel.weeks -/
def zc_185 : List (Nat × zI) := [(0, .aload_n 0, 1, 0, 0, 0), (1, .iconst 0, 1, 0, 0, 0), (2, .putfield 71, 3, 8, 0, 4002), (5, .iload_n 1, 1, 0, 0, 0), (6, .i2l, 1, 0, 0, 0), (7, .lconst 1, 1, 0, 0, 0), (8, .ldc2_w 288, 3, 30, 0, 5159), (11, .invokestatic 78, 3, 117, 0, 4132), (14, .ifCond .ne 6, 3, 20, 0, 0), (17, .bipush (-2), 2, 0, 0, 0), (19, .ireturn, 1, 0, 0, 0), (20, .aload_n 0, 1, 0, 0, 0), (21, .invokevirtual 225, 3, 160, 0, 5057), (24, .iconst 0, 1, 0, 0, 0), (25, .istore_n 2, 1, 0, 0, 0), (26, .iconst 0, 1, 0, 0, 0), (27, .istore_n 3, 1, 0, 0, 0), (28, .iload_n 3, 1, 0, 0, 0), (29, .iload_n 1, 1, 0, 0, 0), (30, .if_icmp .ge 141, 3, 171, 0, 0), (33, .aload_n 0, 1, 0, 0, 0), (34, .aload_n 0, 1, 0, 0, 0), (35, .getfield 284, 3, 8, 27, 4029), (38, .ldc2_w 290, 3, 6364136223846793005, 0, 5160), (41, .lmul, 1, 0, 0, 0), (42, .ldc2_w 292, 3, 1442695040888963407, 0, 5161), (45, .ladd, 1, 0, 0, 0), (46, .putfield 284, 3, 8, 27, 4029), (49, .aload_n 0, 1, 0, 0, 0), (50, .getfield 284, 3, 8, 27, 4029), (53, .bipush 33, 2, 0, 0, 0), (55, .lushr, 1, 0, 0, 0), (56, .ldc2_w 294, 3, 28, 0, 5162), (59, .lrem, 1, 0, 0, 0), (60, .l2i, 1, 0, 0, 0), (61, .istore 4, 2, 0, 0, 0), (63, .iload 4, 2, 0, 0, 0), (65, .bipush 16, 2, 0, 0, 0), (67, .if_icmp .ge 44, 3, 111, 0, 0), (70, .aload_n 0, 1, 0, 0, 0), (71, .iload 4, 2, 0, 0, 0), (73, .iconst 4, 1, 0, 0, 0), (74, .idiv, 1, 0, 0, 0), (75, .invokevirtual 155, 3, 121, 0, 4196), (78, .ifCond .ne 87, 3, 165, 0, 0), (81, .aload_n 0, 1, 0, 0, 0), (82, .iload 4, 2, 0, 0, 0), (84, .iconst 4, 1, 0, 0, 0), (85, .irem, 1, 0, 0, 0), (86, .invokevirtual 163, 3, 122, 0, 4208), (89, .ifCond .ne 76, 3, 165, 0, 0), (92, .aload_n 0, 1, 0, 0, 0), (93, .aload_n 0, 1, 0, 0, 0), (94, .getfield 34, 3, 8, 17, 4019), (97, .iload 4, 2, 0, 0, 0), (99, .iconst 4, 1, 0, 0, 0), (100, .idiv, 1, 0, 0, 0), (101, .iload 4, 2, 0, 0, 0), (103, .iconst 4, 1, 0, 0, 0), (104, .irem, 1, 0, 0, 0), (105, .invokevirtual 183, 3, 149, 0, 5010), (108, .goto 57, 3, 165, 0, 0), (111, .iload 4, 2, 0, 0, 0), (113, .bipush 22, 2, 0, 0, 0), (115, .if_icmp .ge 39, 3, 154, 0, 0), (118, .iload_n 2, 1, 0, 0, 0), (119, .aload_n 0, 1, 0, 0, 0), (120, .iconst 0, 1, 0, 0, 0), (121, .iload 4, 2, 0, 0, 0), (123, .bipush 16, 2, 0, 0, 0), (125, .isub, 1, 0, 0, 0), (126, .invokevirtual 252, 3, 171, 0, 5101), (129, .ifCond .eq 19, 3, 148, 0, 0), (132, .aload_n 0, 1, 0, 0, 0), (133, .aload_n 0, 1, 0, 0, 0), (134, .getfield 34, 3, 8, 17, 4019), (137, .iconst 0, 1, 0, 0, 0), (138, .invokevirtual 148, 3, 140, 0, 4185), (141, .ifCond .eq 7, 3, 148, 0, 0), (144, .iconst 1, 1, 0, 0, 0), (145, .goto 4, 3, 149, 0, 0), (148, .iconst 0, 1, 0, 0, 0), (149, .iadd, 1, 0, 0, 0), (150, .istore_n 2, 1, 0, 0, 0), (151, .goto 14, 3, 165, 0, 0), (154, .aload_n 0, 1, 0, 0, 0), (155, .iconst 2, 1, 0, 0, 0), (156, .iload 4, 2, 0, 0, 0), (158, .bipush 21, 2, 0, 0, 0), (160, .isub, 1, 0, 0, 0), (161, .invokevirtual 252, 3, 171, 0, 5101), (164, .pop, 1, 0, 0, 0), (165, .iinc 3 1, 3, 0, 0, 0), (168, .goto (-140), 3, 28, 0, 0), (171, .iload_n 2, 1, 0, 0, 0), (172, .ireturn, 1, 0, 0, 0)]
/-- LoveGlassModel.keep -/
def zc_186 : List (Nat × zI) := [(0, .aload_n 0, 1, 0, 0, 0), (1, .iconst 0, 1, 0, 0, 0), (2, .putfield 71, 3, 8, 0, 4002), (5, .iload_n 1, 1, 0, 0, 0), (6, .i2l, 1, 0, 0, 0), (7, .lconst 0, 1, 0, 0, 0), (8, .lconst 1, 1, 0, 0, 0), (9, .invokestatic 78, 3, 117, 0, 4132), (12, .ifCond .ne 5, 3, 17, 0, 0), (15, .iconst (-1), 1, 0, 0, 0), (16, .ireturn, 1, 0, 0, 0), (17, .aload_n 0, 1, 0, 0, 0), (18, .getfield 43, 3, 8, 21, 4023), (21, .iload_n 1, 1, 0, 0, 0), (22, .iconst 1, 1, 0, 0, 0), (23, .bastore, 1, 0, 0, 0), (24, .iconst 0, 1, 0, 0, 0), (25, .istore_n 2, 1, 0, 0, 0), (26, .iload_n 2, 1, 0, 0, 0), (27, .bipush 10, 2, 0, 0, 0), (29, .if_icmp .ge 26, 3, 55, 0, 0), (32, .aload_n 0, 1, 0, 0, 0), (33, .getfield 40, 3, 8, 20, 4022), (36, .bipush 10, 2, 0, 0, 0), (38, .iload_n 1, 1, 0, 0, 0), (39, .imul, 1, 0, 0, 0), (40, .iload_n 2, 1, 0, 0, 0), (41, .iadd, 1, 0, 0, 0), (42, .aload_n 0, 1, 0, 0, 0), (43, .getfield 31, 3, 8, 16, 4018), (46, .iload_n 2, 1, 0, 0, 0), (47, .iaload, 1, 0, 0, 0), (48, .iastore, 1, 0, 0, 0), (49, .iinc 2 1, 3, 0, 0, 0), (52, .goto (-26), 3, 26, 0, 0), (55, .aload_n 0, 1, 0, 0, 0), (56, .getfield 31, 3, 8, 16, 4018), (59, .iconst 2, 1, 0, 0, 0), (60, .iaload, 1, 0, 0, 0), (61, .ireturn, 1, 0, 0, 0)]
/-- LoveGlassModel.again -/
def zc_187 : List (Nat × zI) := [(0, .aload_n 0, 1, 0, 0, 0), (1, .iconst 0, 1, 0, 0, 0), (2, .putfield 71, 3, 8, 0, 4002), (5, .iload_n 1, 1, 0, 0, 0), (6, .i2l, 1, 0, 0, 0), (7, .lconst 0, 1, 0, 0, 0), (8, .lconst 1, 1, 0, 0, 0), (9, .invokestatic 78, 3, 117, 0, 4132), (12, .ifCond .ne 5, 3, 17, 0, 0), (15, .iconst (-1), 1, 0, 0, 0), (16, .ireturn, 1, 0, 0, 0), (17, .aload_n 0, 1, 0, 0, 0), (18, .getfield 43, 3, 8, 21, 4023), (21, .iload_n 1, 1, 0, 0, 0), (22, .baload, 1, 0, 0, 0), (23, .ifCond .ne 6, 3, 29, 0, 0), (26, .bipush (-3), 2, 0, 0, 0), (28, .ireturn, 1, 0, 0, 0), (29, .iconst 0, 1, 0, 0, 0), (30, .istore_n 2, 1, 0, 0, 0), (31, .iload_n 2, 1, 0, 0, 0), (32, .bipush 10, 2, 0, 0, 0), (34, .if_icmp .ge 26, 3, 60, 0, 0), (37, .aload_n 0, 1, 0, 0, 0), (38, .getfield 31, 3, 8, 16, 4018), (41, .iload_n 2, 1, 0, 0, 0), (42, .aload_n 0, 1, 0, 0, 0), (43, .getfield 40, 3, 8, 20, 4022), (46, .bipush 10, 2, 0, 0, 0), (48, .iload_n 1, 1, 0, 0, 0), (49, .imul, 1, 0, 0, 0), (50, .iload_n 2, 1, 0, 0, 0), (51, .iadd, 1, 0, 0, 0), (52, .iaload, 1, 0, 0, 0), (53, .iastore, 1, 0, 0, 0), (54, .iinc 2 1, 3, 0, 0, 0), (57, .goto (-26), 3, 31, 0, 0), (60, .aload_n 0, 1, 0, 0, 0), (61, .iconst 0, 1, 0, 0, 0), (62, .putfield 130, 3, 8, 19, 4021), (65, .aload_n 0, 1, 0, 0, 0), (66, .getfield 31, 3, 8, 16, 4018), (69, .iconst 2, 1, 0, 0, 0), (70, .iaload, 1, 0, 0, 0), (71, .ireturn, 1, 0, 0, 0)]
/-- java/lang/Integer.bitCount -/
def zc_188 : List (Nat × zI) := [(0, .iload_n 0, 1, 0, 0, 0), (1, .iload_n 0, 1, 0, 0, 0), (2, .iconst 1, 1, 0, 0, 0), (3, .iushr, 1, 0, 0, 0), (4, .ldc_w 265, 3, 1431655765, 0, 3049), (7, .iand, 1, 0, 0, 0), (8, .isub, 1, 0, 0, 0), (9, .istore_n 0, 1, 0, 0, 0), (10, .iload_n 0, 1, 0, 0, 0), (11, .ldc_w 266, 3, 858993459, 0, 3050), (14, .iand, 1, 0, 0, 0), (15, .iload_n 0, 1, 0, 0, 0), (16, .iconst 2, 1, 0, 0, 0), (17, .iushr, 1, 0, 0, 0), (18, .ldc_w 266, 3, 858993459, 0, 3050), (21, .iand, 1, 0, 0, 0), (22, .iadd, 1, 0, 0, 0), (23, .istore_n 0, 1, 0, 0, 0), (24, .iload_n 0, 1, 0, 0, 0), (25, .iload_n 0, 1, 0, 0, 0), (26, .iconst 4, 1, 0, 0, 0), (27, .iushr, 1, 0, 0, 0), (28, .iadd, 1, 0, 0, 0), (29, .ldc_w 267, 3, 252645135, 0, 3051), (32, .iand, 1, 0, 0, 0), (33, .istore_n 0, 1, 0, 0, 0), (34, .iload_n 0, 1, 0, 0, 0), (35, .iload_n 0, 1, 0, 0, 0), (36, .bipush 8, 2, 0, 0, 0), (38, .iushr, 1, 0, 0, 0), (39, .iadd, 1, 0, 0, 0), (40, .istore_n 0, 1, 0, 0, 0), (41, .iload_n 0, 1, 0, 0, 0), (42, .iload_n 0, 1, 0, 0, 0), (43, .bipush 16, 2, 0, 0, 0), (45, .iushr, 1, 0, 0, 0), (46, .iadd, 1, 0, 0, 0), (47, .istore_n 0, 1, 0, 0, 0), (48, .iload_n 0, 1, 0, 0, 0), (49, .bipush 63, 2, 0, 0, 0), (51, .iand, 1, 0, 0, 0), (52, .ireturn, 1, 0, 0, 0)]
/-- java/util/Arrays.fill -/
def zc_189 : List (Nat × zI) := [(0, .iconst 0, 1, 0, 0, 0), (1, .istore_n 2, 1, 0, 0, 0), (2, .aload_n 0, 1, 0, 0, 0), (3, .arraylength, 1, 0, 0, 0), (4, .istore_n 3, 1, 0, 0, 0), (5, .iload_n 2, 1, 0, 0, 0), (6, .iload_n 3, 1, 0, 0, 0), (7, .if_icmp .ge 13, 3, 20, 0, 0), (10, .aload_n 0, 1, 0, 0, 0), (11, .iload_n 2, 1, 0, 0, 0), (12, .iload_n 1, 1, 0, 0, 0), (13, .iastore, 1, 0, 0, 0), (14, .iinc 2 1, 3, 0, 0, 0), (17, .goto (-12), 3, 5, 0, 0), (20, .return_, 1, 0, 0, 0)]
/-- LoveGlassLaw.law -/
def zc_190 : List (Nat × zI) := [(0, .new 7, 3, 7, 0, 1013), (3, .dup, 1, 0, 0, 0), (4, .invokespecial 9, 3, 65, 0, 1015), (7, .astore_n 1, 1, 0, 0, 0), (8, .new 10, 3, 8, 0, 3236), (11, .dup, 1, 0, 0, 0), (12, .invokespecial 12, 3, 116, 0, 3238), (15, .astore_n 2, 1, 0, 0, 0), (16, .iconst 0, 1, 0, 0, 0), (17, .istore_n 3, 1, 0, 0, 0), (18, .iload_n 3, 1, 0, 0, 0), (19, .aload_n 0, 1, 0, 0, 0), (20, .arraylength, 1, 0, 0, 0), (21, .iconst 5, 1, 0, 0, 0), (22, .isub, 1, 0, 0, 0), (23, .if_icmp .gt 1059, 3, 1082, 0, 0), (26, .aload_n 0, 1, 0, 0, 0), (27, .iload_n 3, 1, 0, 0, 0), (28, .iaload, 1, 0, 0, 0), (29, .bipush 31, 2, 0, 0, 0), (31, .iand, 1, 0, 0, 0), (32, .tableswitch 1044 0 30 #[140, 163, 176, 189, 202, 225, 258, 291, 324, 347, 400, 433, 456, 469, 492, 505, 544, 583, 606, 629, 668, 701, 750, 803, 816, 829, 872, 921, 975, 998, 1021], 140, 0, 0, 0), (172, .aload_n 1, 1, 0, 0, 0), (173, .aload_n 0, 1, 0, 0, 0), (174, .iload_n 3, 1, 0, 0, 0), (175, .iconst 1, 1, 0, 0, 0), (176, .iadd, 1, 0, 0, 0), (177, .iaload, 1, 0, 0, 0), (178, .invokevirtual 13, 3, 66, 0, 1230), (181, .aload_n 2, 1, 0, 0, 0), (182, .aload_n 0, 1, 0, 0, 0), (183, .iload_n 3, 1, 0, 0, 0), (184, .iconst 1, 1, 0, 0, 0), (185, .iadd, 1, 0, 0, 0), (186, .iaload, 1, 0, 0, 0), (187, .invokevirtual 17, 3, 124, 0, 4127), (190, .if_icmp .eq 886, 3, 1076, 0, 0), (193, .iconst 0, 1, 0, 0, 0), (194, .ireturn, 1, 0, 0, 0), (195, .aload_n 1, 1, 0, 0, 0), (196, .invokevirtual 18, 3, 67, 0, 2010), (199, .aload_n 2, 1, 0, 0, 0), (200, .invokevirtual 22, 3, 125, 0, 4135), (203, .if_icmp .eq 873, 3, 1076, 0, 0), (206, .iconst 0, 1, 0, 0, 0), (207, .ireturn, 1, 0, 0, 0), (208, .aload_n 1, 1, 0, 0, 0), (209, .invokevirtual 23, 3, 68, 0, 2018), (212, .aload_n 2, 1, 0, 0, 0), (213, .invokevirtual 26, 3, 132, 0, 4139), (216, .if_icmp .eq 860, 3, 1076, 0, 0), (219, .iconst 0, 1, 0, 0, 0), (220, .ireturn, 1, 0, 0, 0), (221, .aload_n 1, 1, 0, 0, 0), (222, .invokevirtual 27, 3, 69, 0, 2043), (225, .aload_n 2, 1, 0, 0, 0), (226, .invokevirtual 30, 3, 134, 0, 4167), (229, .if_icmp .eq 847, 3, 1076, 0, 0), (232, .iconst 0, 1, 0, 0, 0), (233, .ireturn, 1, 0, 0, 0), (234, .aload_n 1, 1, 0, 0, 0), (235, .aload_n 0, 1, 0, 0, 0), (236, .iload_n 3, 1, 0, 0, 0), (237, .iconst 1, 1, 0, 0, 0), (238, .iadd, 1, 0, 0, 0), (239, .iaload, 1, 0, 0, 0), (240, .invokevirtual 31, 3, 70, 0, 2068), (243, .aload_n 2, 1, 0, 0, 0), (244, .aload_n 0, 1, 0, 0, 0), (245, .iload_n 3, 1, 0, 0, 0), (246, .iconst 1, 1, 0, 0, 0), (247, .iadd, 1, 0, 0, 0), (248, .iaload, 1, 0, 0, 0), (249, .invokevirtual 34, 3, 141, 0, 4174), (252, .if_icmp .eq 824, 3, 1076, 0, 0), (255, .iconst 0, 1, 0, 0, 0), (256, .ireturn, 1, 0, 0, 0), (257, .aload_n 1, 1, 0, 0, 0), (258, .aload_n 0, 1, 0, 0, 0), (259, .iload_n 3, 1, 0, 0, 0), (260, .iconst 1, 1, 0, 0, 0), (261, .iadd, 1, 0, 0, 0), (262, .iaload, 1, 0, 0, 0), (263, .aload_n 0, 1, 0, 0, 0), (264, .iload_n 3, 1, 0, 0, 0), (265, .iconst 2, 1, 0, 0, 0), (266, .iadd, 1, 0, 0, 0), (267, .iaload, 1, 0, 0, 0), (268, .invokevirtual 35, 3, 72, 0, 2114), (271, .aload_n 2, 1, 0, 0, 0), (272, .aload_n 0, 1, 0, 0, 0), (273, .iload_n 3, 1, 0, 0, 0), (274, .iconst 1, 1, 0, 0, 0), (275, .iadd, 1, 0, 0, 0), (276, .iaload, 1, 0, 0, 0), (277, .aload_n 0, 1, 0, 0, 0), (278, .iload_n 3, 1, 0, 0, 0), (279, .iconst 2, 1, 0, 0, 0), (280, .iadd, 1, 0, 0, 0), (281, .iaload, 1, 0, 0, 0), (282, .invokevirtual 39, 3, 142, 0, 4192), (285, .if_icmp .eq 791, 3, 1076, 0, 0), (288, .iconst 0, 1, 0, 0, 0), (289, .ireturn, 1, 0, 0, 0), (290, .aload_n 1, 1, 0, 0, 0), (291, .aload_n 0, 1, 0, 0, 0), (292, .iload_n 3, 1, 0, 0, 0), (293, .iconst 1, 1, 0, 0, 0), (294, .iadd, 1, 0, 0, 0), (295, .iaload, 1, 0, 0, 0), (296, .aload_n 0, 1, 0, 0, 0), (297, .iload_n 3, 1, 0, 0, 0), (298, .iconst 2, 1, 0, 0, 0), (299, .iadd, 1, 0, 0, 0), (300, .iaload, 1, 0, 0, 0), (301, .invokevirtual 40, 3, 73, 0, 2131), (304, .aload_n 2, 1, 0, 0, 0), (305, .aload_n 0, 1, 0, 0, 0), (306, .iload_n 3, 1, 0, 0, 0), (307, .iconst 1, 1, 0, 0, 0), (308, .iadd, 1, 0, 0, 0), (309, .iaload, 1, 0, 0, 0), (310, .aload_n 0, 1, 0, 0, 0), (311, .iload_n 3, 1, 0, 0, 0), (312, .iconst 2, 1, 0, 0, 0), (313, .iadd, 1, 0, 0, 0), (314, .iaload, 1, 0, 0, 0), (315, .invokevirtual 43, 3, 143, 0, 4204), (318, .if_icmp .eq 758, 3, 1076, 0, 0), (321, .iconst 0, 1, 0, 0, 0), (322, .ireturn, 1, 0, 0, 0), (323, .aload_n 1, 1, 0, 0, 0), (324, .aload_n 0, 1, 0, 0, 0), (325, .iload_n 3, 1, 0, 0, 0), (326, .iconst 1, 1, 0, 0, 0), (327, .iadd, 1, 0, 0, 0), (328, .iaload, 1, 0, 0, 0), (329, .aload_n 0, 1, 0, 0, 0), (330, .iload_n 3, 1, 0, 0, 0), (331, .iconst 2, 1, 0, 0, 0), (332, .iadd, 1, 0, 0, 0), (333, .iaload, 1, 0, 0, 0), (334, .invokevirtual 44, 3, 74, 0, 2139), (337, .aload_n 2, 1, 0, 0, 0), (338, .aload_n 0, 1, 0, 0, 0), (339, .iload_n 3, 1, 0, 0, 0), (340, .iconst 1, 1, 0, 0, 0), (341, .iadd, 1, 0, 0, 0), (342, .iaload, 1, 0, 0, 0), (343, .aload_n 0, 1, 0, 0, 0), (344, .iload_n 3, 1, 0, 0, 0), (345, .iconst 2, 1, 0, 0, 0), (346, .iadd, 1, 0, 0, 0), (347, .iaload, 1, 0, 0, 0), (348, .invokevirtual 47, 3, 145, 0, 4212), (351, .if_icmp .eq 725, 3, 1076, 0, 0), (354, .iconst 0, 1, 0, 0, 0), (355, .ireturn, 1, 0, 0, 0), (356, .aload_n 1, 1, 0, 0, 0), (357, .aload_n 0, 1, 0, 0, 0), (358, .iload_n 3, 1, 0, 0, 0), (359, .iconst 1, 1, 0, 0, 0), (360, .iadd, 1, 0, 0, 0), (361, .iaload, 1, 0, 0, 0), (362, .invokevirtual 48, 3, 75, 0, 2169), (365, .aload_n 2, 1, 0, 0, 0), (366, .aload_n 0, 1, 0, 0, 0), (367, .iload_n 3, 1, 0, 0, 0), (368, .iconst 1, 1, 0, 0, 0), (369, .iadd, 1, 0, 0, 0), (370, .iaload, 1, 0, 0, 0), (371, .invokevirtual 51, 3, 146, 0, 4233), (374, .if_icmp .eq 702, 3, 1076, 0, 0), (377, .iconst 0, 1, 0, 0, 0), (378, .ireturn, 1, 0, 0, 0), (379, .aload_n 1, 1, 0, 0, 0), (380, .aload_n 0, 1, 0, 0, 0), (381, .iload_n 3, 1, 0, 0, 0), (382, .iconst 1, 1, 0, 0, 0), (383, .iadd, 1, 0, 0, 0), (384, .iaload, 1, 0, 0, 0), (385, .aload_n 0, 1, 0, 0, 0), (386, .iload_n 3, 1, 0, 0, 0), (387, .iconst 2, 1, 0, 0, 0), (388, .iadd, 1, 0, 0, 0), (389, .iaload, 1, 0, 0, 0), (390, .aload_n 0, 1, 0, 0, 0), (391, .iload_n 3, 1, 0, 0, 0), (392, .iconst 3, 1, 0, 0, 0), (393, .iadd, 1, 0, 0, 0), (394, .iaload, 1, 0, 0, 0), (395, .aload_n 0, 1, 0, 0, 0), (396, .iload_n 3, 1, 0, 0, 0), (397, .iconst 4, 1, 0, 0, 0), (398, .iadd, 1, 0, 0, 0), (399, .iaload, 1, 0, 0, 0), (400, .invokevirtual 52, 3, 76, 0, 2174), (403, .aload_n 2, 1, 0, 0, 0), (404, .aload_n 0, 1, 0, 0, 0), (405, .iload_n 3, 1, 0, 0, 0), (406, .iconst 1, 1, 0, 0, 0), (407, .iadd, 1, 0, 0, 0), (408, .iaload, 1, 0, 0, 0), (409, .aload_n 0, 1, 0, 0, 0), (410, .iload_n 3, 1, 0, 0, 0), (411, .iconst 2, 1, 0, 0, 0), (412, .iadd, 1, 0, 0, 0), (413, .iaload, 1, 0, 0, 0), (414, .aload_n 0, 1, 0, 0, 0), (415, .iload_n 3, 1, 0, 0, 0), (416, .iconst 3, 1, 0, 0, 0), (417, .iadd, 1, 0, 0, 0), (418, .iaload, 1, 0, 0, 0), (419, .aload_n 0, 1, 0, 0, 0), (420, .iload_n 3, 1, 0, 0, 0), (421, .iconst 4, 1, 0, 0, 0), (422, .iadd, 1, 0, 0, 0), (423, .iaload, 1, 0, 0, 0), (424, .invokevirtual 56, 3, 147, 0, 4237), (427, .if_icmp .eq 649, 3, 1076, 0, 0), (430, .iconst 0, 1, 0, 0, 0), (431, .ireturn, 1, 0, 0, 0), (432, .aload_n 1, 1, 0, 0, 0), (433, .aload_n 0, 1, 0, 0, 0), (434, .iload_n 3, 1, 0, 0, 0), (435, .iconst 1, 1, 0, 0, 0), (436, .iadd, 1, 0, 0, 0), (437, .iaload, 1, 0, 0, 0), (438, .aload_n 0, 1, 0, 0, 0), (439, .iload_n 3, 1, 0, 0, 0), (440, .iconst 2, 1, 0, 0, 0), (441, .iadd, 1, 0, 0, 0), (442, .iaload, 1, 0, 0, 0), (443, .invokevirtual 57, 3, 77, 0, 2179), (446, .aload_n 2, 1, 0, 0, 0), (447, .aload_n 0, 1, 0, 0, 0), (448, .iload_n 3, 1, 0, 0, 0), (449, .iconst 1, 1, 0, 0, 0), (450, .iadd, 1, 0, 0, 0), (451, .iaload, 1, 0, 0, 0), (452, .aload_n 0, 1, 0, 0, 0), (453, .iload_n 3, 1, 0, 0, 0), (454, .iconst 2, 1, 0, 0, 0), (455, .iadd, 1, 0, 0, 0), (456, .iaload, 1, 0, 0, 0), (457, .invokevirtual 60, 3, 150, 0, 5002), (460, .if_icmp .eq 616, 3, 1076, 0, 0), (463, .iconst 0, 1, 0, 0, 0), (464, .ireturn, 1, 0, 0, 0), (465, .aload_n 1, 1, 0, 0, 0), (466, .aload_n 0, 1, 0, 0, 0), (467, .iload_n 3, 1, 0, 0, 0), (468, .iconst 1, 1, 0, 0, 0), (469, .iadd, 1, 0, 0, 0), (470, .iaload, 1, 0, 0, 0), (471, .invokevirtual 61, 3, 78, 0, 2214), (474, .aload_n 2, 1, 0, 0, 0), (475, .aload_n 0, 1, 0, 0, 0), (476, .iload_n 3, 1, 0, 0, 0), (477, .iconst 1, 1, 0, 0, 0), (478, .iadd, 1, 0, 0, 0), (479, .iaload, 1, 0, 0, 0), (480, .invokevirtual 64, 3, 153, 0, 5014), (483, .if_icmp .eq 593, 3, 1076, 0, 0), (486, .iconst 0, 1, 0, 0, 0), (487, .ireturn, 1, 0, 0, 0), (488, .aload_n 1, 1, 0, 0, 0), (489, .invokevirtual 65, 3, 79, 0, 2232), (492, .aload_n 2, 1, 0, 0, 0), (493, .invokevirtual 68, 3, 155, 0, 5026), (496, .if_icmp .eq 580, 3, 1076, 0, 0), (499, .iconst 0, 1, 0, 0, 0), (500, .ireturn, 1, 0, 0, 0), (501, .aload_n 1, 1, 0, 0, 0), (502, .aload_n 0, 1, 0, 0, 0), (503, .iload_n 3, 1, 0, 0, 0), (504, .iconst 1, 1, 0, 0, 0), (505, .iadd, 1, 0, 0, 0), (506, .iaload, 1, 0, 0, 0), (507, .invokevirtual 69, 3, 80, 0, 3000), (510, .aload_n 2, 1, 0, 0, 0), (511, .aload_n 0, 1, 0, 0, 0), (512, .iload_n 3, 1, 0, 0, 0), (513, .iconst 1, 1, 0, 0, 0), (514, .iadd, 1, 0, 0, 0), (515, .iaload, 1, 0, 0, 0), (516, .invokevirtual 72, 3, 158, 0, 5034), (519, .if_icmp .eq 557, 3, 1076, 0, 0), (522, .iconst 0, 1, 0, 0, 0), (523, .ireturn, 1, 0, 0, 0), (524, .aload_n 1, 1, 0, 0, 0), (525, .invokevirtual 73, 3, 82, 0, 3009), (528, .aload_n 2, 1, 0, 0, 0), (529, .invokevirtual 76, 3, 159, 0, 5045), (532, .if_icmp .eq 544, 3, 1076, 0, 0), (535, .iconst 0, 1, 0, 0, 0), (536, .ireturn, 1, 0, 0, 0), (537, .aload_n 1, 1, 0, 0, 0), (538, .aload_n 0, 1, 0, 0, 0), (539, .iload_n 3, 1, 0, 0, 0), (540, .iconst 1, 1, 0, 0, 0), (541, .iadd, 1, 0, 0, 0), (542, .iaload, 1, 0, 0, 0), (543, .ifCond .eq 7, 3, 550, 0, 0), (546, .iconst 1, 1, 0, 0, 0), (547, .goto 4, 3, 551, 0, 0), (550, .iconst 0, 1, 0, 0, 0), (551, .invokevirtual 77, 3, 83, 0, 3021), (554, .aload_n 2, 1, 0, 0, 0), (555, .aload_n 0, 1, 0, 0, 0), (556, .iload_n 3, 1, 0, 0, 0), (557, .iconst 1, 1, 0, 0, 0), (558, .iadd, 1, 0, 0, 0), (559, .iaload, 1, 0, 0, 0), (560, .ifCond .eq 7, 3, 567, 0, 0), (563, .iconst 1, 1, 0, 0, 0), (564, .goto 4, 3, 568, 0, 0), (567, .iconst 0, 1, 0, 0, 0), (568, .invokevirtual 81, 3, 164, 0, 5049), (571, .if_icmp .eq 505, 3, 1076, 0, 0), (574, .iconst 0, 1, 0, 0, 0), (575, .ireturn, 1, 0, 0, 0), (576, .aload_n 1, 1, 0, 0, 0), (577, .aload_n 0, 1, 0, 0, 0), (578, .iload_n 3, 1, 0, 0, 0), (579, .iconst 1, 1, 0, 0, 0), (580, .iadd, 1, 0, 0, 0), (581, .iaload, 1, 0, 0, 0), (582, .ifCond .eq 7, 3, 589, 0, 0), (585, .iconst 1, 1, 0, 0, 0), (586, .goto 4, 3, 590, 0, 0), (589, .iconst 0, 1, 0, 0, 0), (590, .invokevirtual 82, 3, 84, 0, 3074), (593, .aload_n 2, 1, 0, 0, 0), (594, .aload_n 0, 1, 0, 0, 0), (595, .iload_n 3, 1, 0, 0, 0), (596, .iconst 1, 1, 0, 0, 0), (597, .iadd, 1, 0, 0, 0), (598, .iaload, 1, 0, 0, 0), (599, .ifCond .eq 7, 3, 606, 0, 0), (602, .iconst 1, 1, 0, 0, 0), (603, .goto 4, 3, 607, 0, 0), (606, .iconst 0, 1, 0, 0, 0), (607, .invokevirtual 85, 3, 165, 0, 5069), (610, .if_icmp .eq 466, 3, 1076, 0, 0), (613, .iconst 0, 1, 0, 0, 0), (614, .ireturn, 1, 0, 0, 0), (615, .aload_n 1, 1, 0, 0, 0), (616, .aload_n 0, 1, 0, 0, 0), (617, .iload_n 3, 1, 0, 0, 0), (618, .iconst 1, 1, 0, 0, 0), (619, .iadd, 1, 0, 0, 0), (620, .iaload, 1, 0, 0, 0), (621, .invokevirtual 86, 3, 85, 0, 3082), (624, .aload_n 2, 1, 0, 0, 0), (625, .aload_n 0, 1, 0, 0, 0), (626, .iload_n 3, 1, 0, 0, 0), (627, .iconst 1, 1, 0, 0, 0), (628, .iadd, 1, 0, 0, 0), (629, .iaload, 1, 0, 0, 0), (630, .invokevirtual 89, 3, 167, 0, 5073), (633, .if_icmp .eq 443, 3, 1076, 0, 0), (636, .iconst 0, 1, 0, 0, 0), (637, .ireturn, 1, 0, 0, 0), (638, .aload_n 1, 1, 0, 0, 0), (639, .aload_n 0, 1, 0, 0, 0), (640, .iload_n 3, 1, 0, 0, 0), (641, .iconst 1, 1, 0, 0, 0), (642, .iadd, 1, 0, 0, 0), (643, .iaload, 1, 0, 0, 0), (644, .invokevirtual 90, 3, 87, 0, 3090), (647, .aload_n 2, 1, 0, 0, 0), (648, .aload_n 0, 1, 0, 0, 0), (649, .iload_n 3, 1, 0, 0, 0), (650, .iconst 1, 1, 0, 0, 0), (651, .iadd, 1, 0, 0, 0), (652, .iaload, 1, 0, 0, 0), (653, .invokevirtual 93, 3, 168, 0, 5081), (656, .if_icmp .eq 420, 3, 1076, 0, 0), (659, .iconst 0, 1, 0, 0, 0), (660, .ireturn, 1, 0, 0, 0), (661, .aload_n 1, 1, 0, 0, 0), (662, .aload_n 0, 1, 0, 0, 0), (663, .iload_n 3, 1, 0, 0, 0), (664, .iconst 1, 1, 0, 0, 0), (665, .iadd, 1, 0, 0, 0), (666, .iaload, 1, 0, 0, 0), (667, .ifCond .eq 7, 3, 674, 0, 0), (670, .iconst 1, 1, 0, 0, 0), (671, .goto 4, 3, 675, 0, 0), (674, .iconst 0, 1, 0, 0, 0), (675, .invokevirtual 94, 3, 88, 0, 3094), (678, .aload_n 2, 1, 0, 0, 0), (679, .aload_n 0, 1, 0, 0, 0), (680, .iload_n 3, 1, 0, 0, 0), (681, .iconst 1, 1, 0, 0, 0), (682, .iadd, 1, 0, 0, 0), (683, .iaload, 1, 0, 0, 0), (684, .ifCond .eq 7, 3, 691, 0, 0), (687, .iconst 1, 1, 0, 0, 0), (688, .goto 4, 3, 692, 0, 0), (691, .iconst 0, 1, 0, 0, 0), (692, .invokevirtual 97, 3, 170, 0, 5085), (695, .if_icmp .eq 381, 3, 1076, 0, 0), (698, .iconst 0, 1, 0, 0, 0), (699, .ireturn, 1, 0, 0, 0), (700, .aload_n 1, 1, 0, 0, 0), (701, .aload_n 0, 1, 0, 0, 0), (702, .iload_n 3, 1, 0, 0, 0), (703, .iconst 1, 1, 0, 0, 0), (704, .iadd, 1, 0, 0, 0), (705, .iaload, 1, 0, 0, 0), (706, .aload_n 0, 1, 0, 0, 0), (707, .iload_n 3, 1, 0, 0, 0), (708, .iconst 2, 1, 0, 0, 0), (709, .iadd, 1, 0, 0, 0), (710, .iaload, 1, 0, 0, 0), (711, .invokevirtual 98, 3, 93, 0, 3113), (714, .aload_n 2, 1, 0, 0, 0), (715, .aload_n 0, 1, 0, 0, 0), (716, .iload_n 3, 1, 0, 0, 0), (717, .iconst 1, 1, 0, 0, 0), (718, .iadd, 1, 0, 0, 0), (719, .iaload, 1, 0, 0, 0), (720, .aload_n 0, 1, 0, 0, 0), (721, .iload_n 3, 1, 0, 0, 0), (722, .iconst 2, 1, 0, 0, 0), (723, .iadd, 1, 0, 0, 0), (724, .iaload, 1, 0, 0, 0), (725, .invokevirtual 101, 3, 172, 0, 5096), (728, .if_icmp .eq 348, 3, 1076, 0, 0), (731, .iconst 0, 1, 0, 0, 0), (732, .ireturn, 1, 0, 0, 0), (733, .aload_n 1, 1, 0, 0, 0), (734, .aload_n 0, 1, 0, 0, 0), (735, .iload_n 3, 1, 0, 0, 0), (736, .iconst 1, 1, 0, 0, 0), (737, .iadd, 1, 0, 0, 0), (738, .iaload, 1, 0, 0, 0), (739, .aload_n 0, 1, 0, 0, 0), (740, .iload_n 3, 1, 0, 0, 0), (741, .iconst 2, 1, 0, 0, 0), (742, .iadd, 1, 0, 0, 0), (743, .iaload, 1, 0, 0, 0), (744, .ifCond .eq 7, 3, 751, 0, 0), (747, .iconst 1, 1, 0, 0, 0), (748, .goto 4, 3, 752, 0, 0), (751, .iconst 0, 1, 0, 0, 0), (752, .invokevirtual 102, 3, 96, 0, 3124), (755, .aload_n 2, 1, 0, 0, 0), (756, .aload_n 0, 1, 0, 0, 0), (757, .iload_n 3, 1, 0, 0, 0), (758, .iconst 1, 1, 0, 0, 0), (759, .iadd, 1, 0, 0, 0), (760, .iaload, 1, 0, 0, 0), (761, .aload_n 0, 1, 0, 0, 0), (762, .iload_n 3, 1, 0, 0, 0), (763, .iconst 2, 1, 0, 0, 0), (764, .iadd, 1, 0, 0, 0), (765, .iaload, 1, 0, 0, 0), (766, .ifCond .eq 7, 3, 773, 0, 0), (769, .iconst 1, 1, 0, 0, 0), (770, .goto 4, 3, 774, 0, 0), (773, .iconst 0, 1, 0, 0, 0), (774, .invokevirtual 106, 3, 177, 0, 5105), (777, .if_icmp .eq 299, 3, 1076, 0, 0), (780, .iconst 0, 1, 0, 0, 0), (781, .ireturn, 1, 0, 0, 0), (782, .aload_n 1, 1, 0, 0, 0), (783, .aload_n 0, 1, 0, 0, 0), (784, .iload_n 3, 1, 0, 0, 0), (785, .iconst 1, 1, 0, 0, 0), (786, .iadd, 1, 0, 0, 0), (787, .iaload, 1, 0, 0, 0), (788, .aload_n 0, 1, 0, 0, 0), (789, .iload_n 3, 1, 0, 0, 0), (790, .iconst 2, 1, 0, 0, 0), (791, .iadd, 1, 0, 0, 0), (792, .iaload, 1, 0, 0, 0), (793, .aload_n 0, 1, 0, 0, 0), (794, .iload_n 3, 1, 0, 0, 0), (795, .iconst 3, 1, 0, 0, 0), (796, .iadd, 1, 0, 0, 0), (797, .iaload, 1, 0, 0, 0), (798, .aload_n 0, 1, 0, 0, 0), (799, .iload_n 3, 1, 0, 0, 0), (800, .iconst 4, 1, 0, 0, 0), (801, .iadd, 1, 0, 0, 0), (802, .iaload, 1, 0, 0, 0), (803, .invokevirtual 107, 3, 100, 0, 3147), (806, .aload_n 2, 1, 0, 0, 0), (807, .aload_n 0, 1, 0, 0, 0), (808, .iload_n 3, 1, 0, 0, 0), (809, .iconst 1, 1, 0, 0, 0), (810, .iadd, 1, 0, 0, 0), (811, .iaload, 1, 0, 0, 0), (812, .aload_n 0, 1, 0, 0, 0), (813, .iload_n 3, 1, 0, 0, 0), (814, .iconst 2, 1, 0, 0, 0), (815, .iadd, 1, 0, 0, 0), (816, .iaload, 1, 0, 0, 0), (817, .aload_n 0, 1, 0, 0, 0), (818, .iload_n 3, 1, 0, 0, 0), (819, .iconst 3, 1, 0, 0, 0), (820, .iadd, 1, 0, 0, 0), (821, .iaload, 1, 0, 0, 0), (822, .aload_n 0, 1, 0, 0, 0), (823, .iload_n 3, 1, 0, 0, 0), (824, .iconst 4, 1, 0, 0, 0), (825, .iadd, 1, 0, 0, 0), (826, .iaload, 1, 0, 0, 0), (827, .invokevirtual 110, 3, 178, 0, 5125), (830, .if_icmp .eq 246, 3, 1076, 0, 0), (833, .iconst 0, 1, 0, 0, 0), (834, .ireturn, 1, 0, 0, 0), (835, .aload_n 1, 1, 0, 0, 0), (836, .invokevirtual 111, 3, 101, 0, 3166), (839, .aload_n 2, 1, 0, 0, 0), (840, .invokevirtual 114, 3, 179, 0, 5130), (843, .if_icmp .eq 233, 3, 1076, 0, 0), (846, .iconst 0, 1, 0, 0, 0), (847, .ireturn, 1, 0, 0, 0), (848, .aload_n 1, 1, 0, 0, 0), (849, .invokevirtual 115, 3, 102, 0, 3175), (852, .aload_n 2, 1, 0, 0, 0), (853, .invokevirtual 118, 3, 180, 0, 5134), (856, .if_icmp .eq 220, 3, 1076, 0, 0), (859, .iconst 0, 1, 0, 0, 0), (860, .ireturn, 1, 0, 0, 0), (861, .aload_n 1, 1, 0, 0, 0), (862, .aload_n 0, 1, 0, 0, 0), (863, .iload_n 3, 1, 0, 0, 0), (864, .iconst 1, 1, 0, 0, 0), (865, .iadd, 1, 0, 0, 0), (866, .iaload, 1, 0, 0, 0), (867, .aload_n 0, 1, 0, 0, 0), (868, .iload_n 3, 1, 0, 0, 0), (869, .iconst 2, 1, 0, 0, 0), (870, .iadd, 1, 0, 0, 0), (871, .iaload, 1, 0, 0, 0), (872, .aload_n 0, 1, 0, 0, 0), (873, .iload_n 3, 1, 0, 0, 0), (874, .iconst 3, 1, 0, 0, 0), (875, .iadd, 1, 0, 0, 0), (876, .iaload, 1, 0, 0, 0), (877, .invokevirtual 119, 3, 103, 0, 3187), (880, .aload_n 2, 1, 0, 0, 0), (881, .aload_n 0, 1, 0, 0, 0), (882, .iload_n 3, 1, 0, 0, 0), (883, .iconst 1, 1, 0, 0, 0), (884, .iadd, 1, 0, 0, 0), (885, .iaload, 1, 0, 0, 0), (886, .aload_n 0, 1, 0, 0, 0), (887, .iload_n 3, 1, 0, 0, 0), (888, .iconst 2, 1, 0, 0, 0), (889, .iadd, 1, 0, 0, 0), (890, .iaload, 1, 0, 0, 0), (891, .aload_n 0, 1, 0, 0, 0), (892, .iload_n 3, 1, 0, 0, 0), (893, .iconst 3, 1, 0, 0, 0), (894, .iadd, 1, 0, 0, 0), (895, .iaload, 1, 0, 0, 0), (896, .invokevirtual 123, 3, 182, 0, 5138), (899, .if_icmp .eq 177, 3, 1076, 0, 0), (902, .iconst 0, 1, 0, 0, 0), (903, .ireturn, 1, 0, 0, 0), (904, .aload_n 1, 1, 0, 0, 0), (905, .aload_n 0, 1, 0, 0, 0), (906, .iload_n 3, 1, 0, 0, 0), (907, .iconst 1, 1, 0, 0, 0), (908, .iadd, 1, 0, 0, 0), (909, .iaload, 1, 0, 0, 0), (910, .aload_n 0, 1, 0, 0, 0), (911, .iload_n 3, 1, 0, 0, 0), (912, .iconst 2, 1, 0, 0, 0), (913, .iadd, 1, 0, 0, 0), (914, .iaload, 1, 0, 0, 0), (915, .ifCond .eq 7, 3, 922, 0, 0), (918, .iconst 1, 1, 0, 0, 0), (919, .goto 4, 3, 923, 0, 0), (922, .iconst 0, 1, 0, 0, 0), (923, .invokevirtual 124, 3, 107, 0, 3201), (926, .aload_n 2, 1, 0, 0, 0), (927, .aload_n 0, 1, 0, 0, 0), (928, .iload_n 3, 1, 0, 0, 0), (929, .iconst 1, 1, 0, 0, 0), (930, .iadd, 1, 0, 0, 0), (931, .iaload, 1, 0, 0, 0), (932, .aload_n 0, 1, 0, 0, 0), (933, .iload_n 3, 1, 0, 0, 0), (934, .iconst 2, 1, 0, 0, 0), (935, .iadd, 1, 0, 0, 0), (936, .iaload, 1, 0, 0, 0), (937, .ifCond .eq 7, 3, 944, 0, 0), (940, .iconst 1, 1, 0, 0, 0), (941, .goto 4, 3, 945, 0, 0), (944, .iconst 0, 1, 0, 0, 0), (945, .invokevirtual 127, 3, 183, 0, 5146), (948, .if_icmp .eq 128, 3, 1076, 0, 0), (951, .iconst 0, 1, 0, 0, 0), (952, .ireturn, 1, 0, 0, 0), (953, .aload_n 1, 1, 0, 0, 0), (954, .aload_n 0, 1, 0, 0, 0), (955, .iload_n 3, 1, 0, 0, 0), (956, .iconst 1, 1, 0, 0, 0), (957, .iadd, 1, 0, 0, 0), (958, .iaload, 1, 0, 0, 0), (959, .i2l, 1, 0, 0, 0), (960, .bipush 32, 2, 0, 0, 0), (962, .lshl, 1, 0, 0, 0), (963, .aload_n 0, 1, 0, 0, 0), (964, .iload_n 3, 1, 0, 0, 0), (965, .iconst 2, 1, 0, 0, 0), (966, .iadd, 1, 0, 0, 0), (967, .iaload, 1, 0, 0, 0), (968, .i2l, 1, 0, 0, 0), (969, .ldc2_w 128, 3, 4294967295, 0, 5171), (972, .land, 1, 0, 0, 0), (973, .lor, 1, 0, 0, 0), (974, .invokevirtual 130, 3, 109, 0, 3211), (977, .aload_n 2, 1, 0, 0, 0), (978, .aload_n 0, 1, 0, 0, 0), (979, .iload_n 3, 1, 0, 0, 0), (980, .iconst 1, 1, 0, 0, 0), (981, .iadd, 1, 0, 0, 0), (982, .iaload, 1, 0, 0, 0), (983, .i2l, 1, 0, 0, 0), (984, .bipush 32, 2, 0, 0, 0), (986, .lshl, 1, 0, 0, 0), (987, .aload_n 0, 1, 0, 0, 0), (988, .iload_n 3, 1, 0, 0, 0), (989, .iconst 2, 1, 0, 0, 0), (990, .iadd, 1, 0, 0, 0), (991, .iaload, 1, 0, 0, 0), (992, .i2l, 1, 0, 0, 0), (993, .ldc2_w 128, 3, 4294967295, 0, 5171), (996, .land, 1, 0, 0, 0), (997, .lor, 1, 0, 0, 0), (998, .invokevirtual 134, 3, 184, 0, 5151), (1001, .lcmp, 1, 0, 0, 0), (1002, .ifCond .eq 74, 3, 1076, 0, 0), (1005, .iconst 0, 1, 0, 0, 0), (1006, .ireturn, 1, 0, 0, 0), (1007, .aload_n 1, 1, 0, 0, 0), (1008, .aload_n 0, 1, 0, 0, 0), (1009, .iload_n 3, 1, 0, 0, 0), (1010, .iconst 1, 1, 0, 0, 0), (1011, .iadd, 1, 0, 0, 0), (1012, .iaload, 1, 0, 0, 0), (1013, .invokevirtual 135, 3, 110, 0, 3215), (1016, .aload_n 2, 1, 0, 0, 0), (1017, .aload_n 0, 1, 0, 0, 0), (1018, .iload_n 3, 1, 0, 0, 0), (1019, .iconst 1, 1, 0, 0, 0), (1020, .iadd, 1, 0, 0, 0), (1021, .iaload, 1, 0, 0, 0), (1022, .invokevirtual 138, 3, 185, 0, 5155), (1025, .if_icmp .eq 51, 3, 1076, 0, 0), (1028, .iconst 0, 1, 0, 0, 0), (1029, .ireturn, 1, 0, 0, 0), (1030, .aload_n 1, 1, 0, 0, 0), (1031, .aload_n 0, 1, 0, 0, 0), (1032, .iload_n 3, 1, 0, 0, 0), (1033, .iconst 1, 1, 0, 0, 0), (1034, .iadd, 1, 0, 0, 0), (1035, .iaload, 1, 0, 0, 0), (1036, .invokevirtual 139, 3, 112, 0, 3226), (1039, .aload_n 2, 1, 0, 0, 0), (1040, .aload_n 0, 1, 0, 0, 0), (1041, .iload_n 3, 1, 0, 0, 0), (1042, .iconst 1, 1, 0, 0, 0), (1043, .iadd, 1, 0, 0, 0), (1044, .iaload, 1, 0, 0, 0), (1045, .invokevirtual 142, 3, 186, 0, 5163), (1048, .if_icmp .eq 28, 3, 1076, 0, 0), (1051, .iconst 0, 1, 0, 0, 0), (1052, .ireturn, 1, 0, 0, 0), (1053, .aload_n 1, 1, 0, 0, 0), (1054, .aload_n 0, 1, 0, 0, 0), (1055, .iload_n 3, 1, 0, 0, 0), (1056, .iconst 1, 1, 0, 0, 0), (1057, .iadd, 1, 0, 0, 0), (1058, .iaload, 1, 0, 0, 0), (1059, .invokevirtual 143, 3, 113, 0, 3231), (1062, .aload_n 2, 1, 0, 0, 0), (1063, .aload_n 0, 1, 0, 0, 0), (1064, .iload_n 3, 1, 0, 0, 0), (1065, .iconst 1, 1, 0, 0, 0), (1066, .iadd, 1, 0, 0, 0), (1067, .iaload, 1, 0, 0, 0), (1068, .invokevirtual 146, 3, 187, 0, 5167), (1071, .if_icmp .eq 5, 3, 1076, 0, 0), (1074, .iconst 0, 1, 0, 0, 0), (1075, .ireturn, 1, 0, 0, 0), (1076, .iinc 3 5, 3, 0, 0, 0), (1079, .goto (-1061), 3, 18, 0, 0), (1082, .iconst 1, 1, 0, 0, 0), (1083, .ireturn, 1, 0, 0, 0)]
def zt_cs : List (List (Nat × zI)) := [zc_0, zc_1, zc_2, zc_3, zc_4, zc_5, zc_6, zc_7, zc_8, zc_9, zc_10, zc_11, zc_12, zc_13, zc_14, zc_15, zc_16, zc_17, zc_18, zc_19, zc_20, zc_21, zc_22, zc_23, zc_24, zc_25, zc_26, zc_27, zc_28, zc_29, zc_30, zc_31, zc_32, zc_33, zc_34, zc_35, zc_36, zc_37, zc_38, zc_39, zc_40, zc_41, zc_42, zc_43, zc_44, zc_45, zc_46, zc_47, zc_48, zc_49, zc_50, zc_51, zc_52, zc_53, zc_54, zc_55, zc_56, zc_57, zc_58, zc_59, zc_60, zc_61, zc_62, zc_63, zc_64, zc_65, zc_66, zc_67, zc_68, zc_69, zc_70, zc_71, zc_72, zc_73, zc_74, zc_75, zc_76, zc_77, zc_78, zc_79, zc_80, zc_81, zc_82, zc_83, zc_84, zc_85, zc_86, zc_87, zc_88, zc_89, zc_90, zc_91, zc_92, zc_93, zc_94, zc_95, zc_96, zc_97, zc_98, zc_99, zc_100, zc_101, zc_102, zc_103, zc_104, zc_105, zc_106, zc_107, zc_108, zc_109, zc_110, zc_111, zc_112, zc_113, zc_114, zc_115, zc_116, zc_117, zc_118, zc_119, zc_120, zc_121, zc_122, zc_123, zc_124, zc_125, zc_126, zc_127, zc_128, zc_129, zc_130, zc_131, zc_132, zc_133, zc_134, zc_135, zc_136, zc_137, zc_138, zc_139, zc_140, zc_141, zc_142, zc_143, zc_144, zc_145, zc_146, zc_147, zc_148, zc_149, zc_150, zc_151, zc_152, zc_153, zc_154, zc_155, zc_156, zc_157, zc_158, zc_159, zc_160, zc_161, zc_162, zc_163, zc_164, zc_165, zc_166, zc_167, zc_168, zc_169, zc_170, zc_171, zc_172, zc_173, zc_174, zc_175, zc_176, zc_177, zc_178, zc_179, zc_180, zc_181, zc_182, zc_183, zc_184, zc_185, zc_186, zc_187, zc_188, zc_189, zc_190]
end
section
/-! ===== a small machine over abstract cells: addresses are places in a list; what it does, the machine does (part 03) ===== -/
abbrev zU : Value := .retAddr 0
abbrev zE : Type := (Nat × Nat × (Nat → Int32)) ⊕ ((Nat × (Nat → Option Nat)) ⊕ (Nat × List Value))
def zy (mi : Nat) : MethodName := zt_ys.getD mi ⟨"", "", ""⟩
def zbs (mi : Nat) : ByteArray := zt_bs.getD mi ⟨#[]⟩
def zml (mi : Nat) : Nat := zt_ml.getD mi 0
def zrt (mi : Nat) : Option FieldType := zt_rt.getD mi none
def zrk (mi : Nat) : Nat := zt_rk.getD mi 0
def znp (mi : Nat) : Nat := zt_np.getD mi 0
def zsta (mi : Nat) : Bool := zt_st.getD mi false
def zmc (mi : Nat) : Nat := zt_mc.getD mi 100
def zfr (mi : Nat) : Nat := zt_fr.getD mi 0
def zlo (mi : Nat) : Nat := zt_lo.getD mi 0
def zcd (ci : Nat) : vw_C := zt_cl.getD ci ("", zt_T0, 0)
def zcY (ci : Nat) : Nat → FieldType := [zt_Y0, zt_Y1, zt_Y2, zt_Y3, zt_Y4, zt_Y5, zt_Y6, zt_Y7, zt_Y8].getD ci zt_Y0
def zdf (ci : Nat) : List Value := zt_df.getD ci []
def zlk : List (Nat × zI) → Nat → Option zI
  | [], _ => none
  | (p, e) :: t, q => bif Nat.beq p q then some e else zlk t q
def zcode (mi pc : Nat) : Option zI := zlk (zt_cs.getD mi []) pc
def zin (i : Int32) (n : Nat) : Bool := decide (0 ≤ i.toInt) && decide (i.toInt < n)
def zcats (st : List Value) : Nat := (st.map fun v => v.category).sum
def zargs : List Value → List Value
  | [] => []
  | v :: t => if v.category = 2 then v :: zU :: zargs t else v :: zargs t
def zpad (n : Nat) (l : List Value) : List Value := l ++ List.replicate (n - l.length) zU
def zent (mi : Nat) (av : List Value) : List Value := zpad (zml mi) (zargs av)
def zpu (v : Option Value) (st : List Value) : List Value := match v with
  | none => st
  | some v => v :: st
/-- the place before i holds no long -/
def zpre (l : List Value) (i : Nat) : Bool := match i with
  | 0 => true
  | i + 1 => match l[i]? with
    | some (.long _) => false
    | some (.double _) => false
    | _ => true
def zsto1 (l : List Value) (i : Nat) (v : Value) : Option (List Value) := if i < l.length ∧ zpre l i = true then some (l.set i v) else none
def zsto2 (l : List Value) (i : Nat) (v : Value) : Option (List Value) := if i + 1 < l.length ∧ zpre l i = true then some ((l.set i v).set (i + 1) zU) else none
def zcnd : ClassFile.Cond → Int32 → Int32 → Bool
  | .eq, x, y => decide (x = y)
  | .ne, x, y => !decide (x = y)
  | .lt, x, y => decide (x < y)
  | .ge, x, y => decide (y ≤ x)
  | .gt, x, y => decide (y < x)
  | .le, x, y => decide (x ≤ y)
def zjmp (pc : Nat) (off : Int) : Option Nat := if 0 ≤ (pc : Int) + off then some ((pc : Int) + off).toNat else none
def zst (i : Instr) (a b pc : Nat) (h : List zE) (l st : List Value) : Option (List zE × Nat × List Value × List Value) :=
  match i with
  | .iconst n => some (h, pc + 1, l, .int (Int32.ofInt n) :: st)
  | .bipush n => some (h, pc + 2, l, .int (Int8.ofInt n).toInt32 :: st)
  | .sipush n => some (h, pc + 3, l, .int (Int16.ofInt n).toInt32 :: st)
  | .lconst n => some (h, pc + 1, l, .long (Int64.ofNat (n : Nat)) :: st)
  | .ldc_w _ => some (h, pc + 3, l, .int (Int32.ofNat a) :: st)
  | .ldc2_w _ => some (h, pc + 3, l, .long (Int64.ofNat a) :: st)
  | .aconst_null => some (h, pc + 1, l, .null :: st)
  | .iload_n k => match l[(k : Nat)]? with
    | some (.int x) => some (h, pc + 1, l, .int x :: st)
    | _ => none
  | .iload k => match l[k]? with
    | some (.int x) => some (h, pc + 2, l, .int x :: st)
    | _ => none
  | .lload_n k => match l[(k : Nat)]? with
    | some (.long x) => some (h, pc + 1, l, .long x :: st)
    | _ => none
  | .lload k => match l[k]? with
    | some (.long x) => some (h, pc + 2, l, .long x :: st)
    | _ => none
  | .aload_n k => match l[(k : Nat)]? with
    | some (.ref x) => some (h, pc + 1, l, .ref x :: st)
    | some .null => some (h, pc + 1, l, .null :: st)
    | _ => none
  | .aload k => match l[k]? with
    | some (.ref x) => some (h, pc + 2, l, .ref x :: st)
    | some .null => some (h, pc + 2, l, .null :: st)
    | _ => none
  | .istore_n k => match st with
    | .int x :: r => match zsto1 l (k : Nat) (.int x) with
      | some l1 => some (h, pc + 1, l1, r)
      | none => none
    | _ => none
  | .istore k => match st with
    | .int x :: r => match zsto1 l k (.int x) with
      | some l1 => some (h, pc + 2, l1, r)
      | none => none
    | _ => none
  | .lstore_n k => match st with
    | .long x :: r => match zsto2 l (k : Nat) (.long x) with
      | some l1 => some (h, pc + 1, l1, r)
      | none => none
    | _ => none
  | .astore_n k => match st with
    | .ref x :: r => match zsto1 l (k : Nat) (.ref x) with
      | some l1 => some (h, pc + 1, l1, r)
      | none => none
    | .null :: r => match zsto1 l (k : Nat) .null with
      | some l1 => some (h, pc + 1, l1, r)
      | none => none
    | _ => none
  | .astore k => match st with
    | .ref x :: r => match zsto1 l k (.ref x) with
      | some l1 => some (h, pc + 2, l1, r)
      | none => none
    | .null :: r => match zsto1 l k .null with
      | some l1 => some (h, pc + 2, l1, r)
      | none => none
    | _ => none
  | .iinc k n => match l[k]? with
    | some (.int x) => match zsto1 l k (.int (x + Int32.ofInt n)) with
      | some l1 => some (h, pc + 3, l1, st)
      | none => none
    | _ => none
  | .iadd => match st with
    | .int y :: .int x :: r => some (h, pc + 1, l, .int (x + y) :: r)
    | _ => none
  | .isub => match st with
    | .int y :: .int x :: r => some (h, pc + 1, l, .int (x - y) :: r)
    | _ => none
  | .imul => match st with
    | .int y :: .int x :: r => some (h, pc + 1, l, .int (x * y) :: r)
    | _ => none
  | .idiv => match st with
    | .int y :: .int x :: r => if y = 0 then none else some (h, pc + 1, l, .int (x / y) :: r)
    | _ => none
  | .irem => match st with
    | .int y :: .int x :: r => if y = 0 then none else some (h, pc + 1, l, .int (x - x / y * y) :: r)
    | _ => none
  | .ineg => match st with
    | .int x :: r => some (h, pc + 1, l, .int (-x) :: r)
    | _ => none
  | .ior => match st with
    | .int y :: .int x :: r => some (h, pc + 1, l, .int (x ||| y) :: r)
    | _ => none
  | .iand => match st with
    | .int y :: .int x :: r => some (h, pc + 1, l, .int (x &&& y) :: r)
    | _ => none
  | .ixor => match st with
    | .int y :: .int x :: r => some (h, pc + 1, l, .int (x ^^^ y) :: r)
    | _ => none
  | .ishl => match st with
    | .int y :: .int x :: r => some (h, pc + 1, l, .int (x <<< (y &&& 31)) :: r)
    | _ => none
  | .ishr => match st with
    | .int y :: .int x :: r => some (h, pc + 1, l, .int (x >>> (y &&& 31)) :: r)
    | _ => none
  | .iushr => match st with
    | .int y :: .int x :: r => some (h, pc + 1, l, .int (x.toUInt32 >>> (y.toUInt32 &&& Int32.toUInt32 31)).toInt32 :: r)
    | _ => none
  | .lushr => match st with
    | .int y :: .long x :: r => some (h, pc + 1, l, .long (x.toUInt64 >>> (y.toInt64.toUInt64 &&& Int64.toUInt64 63)).toInt64 :: r)
    | _ => none
  | .lshl => match st with
    | .int y :: .long x :: r => some (h, pc + 1, l, .long (x <<< (y.toInt64 &&& 63)) :: r)
    | _ => none
  | .land => match st with
    | .long y :: .long x :: r => some (h, pc + 1, l, .long (x &&& y) :: r)
    | _ => none
  | .lor => match st with
    | .long y :: .long x :: r => some (h, pc + 1, l, .long (x ||| y) :: r)
    | _ => none
  | .lmul => match st with
    | .long y :: .long x :: r => some (h, pc + 1, l, .long (x * y) :: r)
    | _ => none
  | .ladd => match st with
    | .long y :: .long x :: r => some (h, pc + 1, l, .long (x + y) :: r)
    | _ => none
  | .lrem => match st with
    | .long y :: .long x :: r => if y = 0 then none else some (h, pc + 1, l, .long (x - x / y * y) :: r)
    | _ => none
  | .lcmp => match st with
    | .long y :: .long x :: r => some (h, pc + 1, l, .int (lg_cmp x y) :: r)
    | _ => none
  | .i2l => match st with
    | .int x :: r => some (h, pc + 1, l, .long x.toInt64 :: r)
    | _ => none
  | .l2i => match st with
    | .long x :: r => some (h, pc + 1, l, .int x.toInt32 :: r)
    | _ => none
  | .dup => match st with
    | v :: r => if v.category = 1 then some (h, pc + 1, l, v :: v :: r) else none
    | _ => none
  | .dup2 => match st with
    | v :: w :: r => if v.category = 1 ∧ w.category = 1 then some (h, pc + 1, l, v :: w :: v :: w :: r) else none
    | _ => none
  | .pop => match st with
    | v :: r => if v.category = 1 then some (h, pc + 1, l, r) else none
    | _ => none
  | .goto _ => some (h, a, l, st)
  | .if_icmp q _ => match st with
    | .int y :: .int x :: r => some (h, if zcnd q x y = true then a else pc + 3, l, r)
    | _ => none
  | .ifCond q _ => match st with
    | .int x :: r => some (h, if zcnd q x 0 = true then a else pc + 3, l, r)
    | _ => none
  | .ifnull _ => match st with
    | .ref _ :: r => some (h, pc + 3, l, r)
    | .null :: r => some (h, a, l, r)
    | _ => none
  | .ifnonnull _ => match st with
    | .ref _ :: r => some (h, a, l, r)
    | .null :: r => some (h, pc + 3, l, r)
    | _ => none
  | .tableswitch d lo hi offs => match st with
    | .int x :: r => if x.toInt < lo ∨ hi < x.toInt then
        match zjmp pc d with
        | some t => some (h, t, l, r)
        | none => none
      else match offs[(x.toInt - lo).toNat]? with
        | some o => match zjmp pc o with
          | some t => some (h, t, l, r)
          | none => none
        | none => none
    | _ => none
  | .lookupswitch d ps => match st with
    | .int x :: r => match zjmp pc (Op.lookupswitch.offset ps.toList d x.toInt) with
      | some t => some (h, t, l, r)
      | none => none
    | _ => none
  | .getfield _ => match st with
    | .ref o :: r => match h[o]? with
      | some (.inr (.inr (ci, fs))) => if ci = a then
          match fs[b]? with
          | some v => some (h, pc + 3, l, v :: r)
          | none => none
        else none
      | _ => none
    | _ => none
  | .putfield _ => match st with
    | v :: .ref o :: r => match h[o]? with
      | some (.inr (.inr (ci, fs))) => if ci = a ∧ b < fs.length ∧ narrow (zcY a b) v = v ∧ fits (zcY a b) v = true then
          some (h.set o (.inr (.inr (ci, fs.set b v))), pc + 3, l, r)
        else none
      | _ => none
    | _ => none
  | .new _ => some (h ++ [.inr (.inr (a, zdf a))], pc + 3, l, .ref h.length :: st)
  | .newarray _ => match st with
    | .int x :: r => if ¬ x < 0 ∧ x.toNatClampNeg ≤ 100000 then
        some (h ++ [.inl (a, x.toNatClampNeg, fun _ => 0)], pc + 2, l, .ref h.length :: r)
      else none
    | _ => none
  | .anewarray _ => match st with
    | .int x :: r => if ¬ x < 0 ∧ x.toNatClampNeg ≤ 100000 then
        some (h ++ [.inr (.inl (x.toNatClampNeg, fun _ => none))], pc + 3, l, .ref h.length :: r)
      else none
    | _ => none
  | .arraylength => match st with
    | .ref o :: r => match h[o]? with
      | some (.inl (_, n, _)) => some (h, pc + 1, l, .int (Int32.ofNat n) :: r)
      | some (.inr (.inl (n, _))) => some (h, pc + 1, l, .int (Int32.ofNat n) :: r)
      | _ => none
    | _ => none
  | .iaload => match st with
    | .int x :: .ref o :: r => match h[o]? with
      | some (.inl (0, n, f)) => if zin x n = true then some (h, pc + 1, l, .int (f x.toNatClampNeg) :: r) else none
      | _ => none
    | _ => none
  | .baload => match st with
    | .int x :: .ref o :: r => match h[o]? with
      | some (.inl (1, n, f)) => if zin x n = true then some (h, pc + 1, l, .int (f x.toNatClampNeg) :: r) else none
      | _ => none
    | _ => none
  | .iastore => match st with
    | .int v :: .int x :: .ref o :: r => match h[o]? with
      | some (.inl (0, n, f)) => if zin x n = true then some (h.set o (.inl (0, n, upd f x.toNatClampNeg v)), pc + 1, l, r) else none
      | _ => none
    | _ => none
  | .bastore => match st with
    | .int v :: .int x :: .ref o :: r => match h[o]? with
      | some (.inl (1, n, f)) => if zin x n = true then some (h.set o (.inl (1, n, upd f x.toNatClampNeg (vp_nar .boolean v))), pc + 1, l, r) else none
      | _ => none
    | _ => none
  | .aaload => match st with
    | .int x :: .ref o :: r => match h[o]? with
      | some (.inr (.inl (n, f))) => if zin x n = true then some (h, pc + 1, l, va_rf (f x.toNatClampNeg) :: r) else none
      | _ => none
    | _ => none
  | .aastore => match st with
    | .ref v :: .int x :: .ref o :: r => match h[o]? with
      | some (.inr (.inl (n, f))) => match h[v]? with
        | some (.inr (.inr (4, _))) => if zin x n = true then some (h.set o (.inr (.inl (n, va_up f x.toNatClampNeg (some v)))), pc + 1, l, r) else none
        | _ => none
      | _ => none
    | _ => none
  | .invokespecial _ => match st with
    | .ref _ :: r => if b = 2 ∧ zcats r ≤ 8 then some (h, pc + 3, l, r) else none
    | _ => none
  | .invokestatic _ => match st with
    | .int y :: .int x :: r => if zcats r ≤ 8 then some (h, pc + 3, l, .int (if b = 3 then (if x < y then y else x) else (if y < x then y else x)) :: r) else none
    | _ => none
  | _ => none
/-- 0: one step; 1: a call; 2: the end -/
def zkd (i : Instr) (b : Nat) : Nat := match i with
  | .invokestatic _ => bif Nat.ble 3 b then 0 else 1
  | .invokevirtual _ => 1
  | .invokespecial _ => bif Nat.beq b 2 then 0 else 1
  | .ireturn => 2
  | .lreturn => 2
  | .areturn => 2
  | .return_ => 2
  | _ => 0
def zrecv (a : Nat) (h : List zE) (av : List Value) : Bool := zsta a || (match av with
  | .ref o :: _ => (match h[o]? with
    | some (.inr (.inr (ci, _))) => Nat.beq ci (zmc a)
    | _ => false)
  | _ => false)
def zcan (a : Nat) (h : List zE) (st : List Value) : Bool :=
  Nat.ble (znp a) st.length && Nat.ble (zcats (st.drop (znp a))) 8 && Nat.ble (zargs (st.take (znp a)).reverse).length (zml a) && zrecv a h (st.take (znp a)).reverse
def zend (mi : Nat) (i : Instr) (st : List Value) : Option (Option Value) := match i with
  | .ireturn => match st with
    | [.int x] => if zrk mi = 1 ∨ (zrk mi = 2 ∧ (x = 0 ∨ x = 1)) then some (some (.int x)) else none
    | _ => none
  | .lreturn => match st with
    | [.long x] => if zrk mi = 3 then some (some (.long x)) else none
    | _ => none
  | .areturn => match st with
    | [.ref x] => if zrk mi = 4 then some (some (.ref x)) else none
    | [.null] => if zrk mi = 4 then some (some .null) else none
    | _ => none
  | .return_ => match st with
    | [] => if zrk mi = 0 then some none else none
    | _ => none
  | _ => none
def zrun : Nat → Nat → List zE → Nat → List Value → List Value → Option (Option Value × List zE)
  | 0, _, _, _, _, _ => none
  | n + 1, mi, h, pc, l, st => match zcode mi pc with
    | none => none
    | some (i, _, a, b, _) => match zkd i b with
      | 0 => match zst i a b pc h l st with
        | none => none
        | some (h1, pc1, l1, st1) => zrun n mi h1 pc1 l1 st1
      | 1 => if zcan a h st = true then
          match zrun n a h 0 (zent a (st.take (znp a)).reverse) [] with
          | none => none
          | some (v, h1) => zrun n mi h1 (pc + 3) l (zpu v (st.drop (znp a)))
        else none
      | _ => match zend mi i st with
        | none => none
        | some v => some (v, h)
/-! ===== the tables hold what the small machine takes for given ===== -/
def zwls (k : Nat) : List Jvm.Cond := match k with
  | 0 => k2_sels lw_privs
  | 1 => tables_1_1
  | 2 => tables_1_2
  | 3 => tables_1_3
  | 4 => tables_1_4
  | _ => tables_1_5
theorem zwls_in {k : Nat} {c : Jvm.Cond} (h : c ∈ zwls k) : c ∈ lw_tbl := by
  unfold lw_tbl tables_1
  unfold zwls at h
  split at h <;> simp only [List.mem_append] <;> simp only [h, true_or, or_true]
def zt_w0 : List Jvm.Cond := lw_tbl.filter goodWord
def zt_isN : Jvm.Cond → Bool
  | .methodLinkNest _ _ _ _ => true
  | _ => false
def zt_w1 : List Jvm.Cond := lw_tbl.filter zt_isN
def zwd (w : Nat) (c : Jvm.Cond) : Bool := decide ((zwls (w / 1000))[w % 1000]? = some c) && goodWord c
theorem zwd_mem {w : Nat} {c : Jvm.Cond} (h : zwd w c = true) : c ∈ zt_w0 := by
  simp only [zwd, Bool.and_eq_true, decide_eq_true_eq] at h
  exact List.mem_filter.mpr ⟨zwls_in (List.mem_of_getElem? h.1), h.2⟩
def zwn (w : Nat) (c : Jvm.Cond) : Bool := decide ((zwls (w / 1000))[w % 1000]? = some c) && zt_isN c
theorem zwn_mem {w : Nat} {c : Jvm.Cond} (h : zwn w c = true) : c ∈ zt_w1 := by
  simp only [zwn, Bool.and_eq_true, decide_eq_true_eq] at h
  exact List.mem_filter.mpr ⟨zwls_in (List.mem_of_getElem? h.1), h.2⟩
def zlnk (mi idx a b w : Nat) : Bool := bif Nat.beq b 1 then zwn w (.methodLinkNest (zy mi).cls idx (zy a) "LoveGlass") else zwd w (.methodLink (zy mi).cls idx (zy a))
def zokI (mi pc : Nat) (i : Instr) (a b w : Nat) : Bool := match i with
  | .getfield idx => Nat.ble (a + 1) 9 && Nat.ble (b + 1) (zcd a).2.2 && zwd w (.fieldLink (zy mi).cls idx (zcd a).1 ((zcd a).2.1 b).2.1 ((zcd a).2.1 b).2.2.1) && decide (((zcd a).2.1 b).1 = (zcd a).1)
  | .putfield idx => Nat.ble (a + 1) 9 && Nat.ble (b + 1) (zcd a).2.2 && zwd w (.fieldLink (zy mi).cls idx (zcd a).1 ((zcd a).2.1 b).2.1 ((zcd a).2.1 b).2.2.1) && decide (((zcd a).2.1 b).1 = (zcd a).1) && (!((zcd a).2.1 b).2.2.2 || (decide ((zy mi).name = "<init>") && decide ((zcd a).1 = (zy mi).cls)))
  | .new idx => Nat.ble (a + 1) 9 && zwd w (.classLink (zy mi).cls idx (zcd a).1)
  | .anewarray idx => zwd w (.classLink (zy mi).cls idx "LoveGlass$Run")
  | .newarray t => (Nat.beq a 0 && decide (t = .int) && zwd w (.arrayClass .int)) || (Nat.beq a 1 && decide (t = .boolean) && zwd w (.arrayClass .boolean))
  | .ldc_w idx => zwd w (.constant (zy mi).cls idx (Int32.ofNat a))
  | .ldc2_w idx => zwd w (.constantLong (zy mi).cls idx (Int64.ofNat a))
  | .goto off => decide ((pc : Int) + off = (a : Int))
  | .if_icmp _ off => decide ((pc : Int) + off = (a : Int))
  | .ifCond _ off => decide ((pc : Int) + off = (a : Int))
  | .ifnull off => decide ((pc : Int) + off = (a : Int))
  | .ifnonnull off => decide ((pc : Int) + off = (a : Int))
  | .lookupswitch _ ps => (ps.toList.zip (ps.toList.drop 1)).all (fun (a, next) => a.1 < next.1)
  | .invokestatic idx => bif Nat.ble 3 b then (zwd w (.methodLink (zy mi).cls idx (bif Nat.beq b 3 then Lib.Math.max.name else Lib.Math.min.name)) && Nat.ble 1 (zfr mi) && Nat.ble 21 (zlo mi)) else
      (Nat.ble (a + 1) 190 && zsta a && Nat.ble (zfr a + 1) (zfr mi) && Nat.ble (8 + (zml a + 11) + zlo a) (zlo mi) && zlnk mi idx a b w)
  | .invokevirtual idx => Nat.ble (a + 1) 190 && !zsta a && decide (¬ (zy a).name = "<init>") && Nat.ble (zfr a + 1) (zfr mi) && Nat.ble (8 + (zml a + 11) + zlo a) (zlo mi) && zlnk mi idx a b w
  | .invokespecial idx => bif Nat.beq b 2 then (zwd w (.methodLink (zy mi).cls idx Lib.objectInit) && Nat.ble 1 (zfr mi) && Nat.ble 21 (zlo mi)) else
      (Nat.ble (a + 1) 190 && !zsta a && decide ((zy a).name = "<init>") && decide (zrt a = none) && Nat.ble (zfr a + 1) (zfr mi) && Nat.ble (8 + (zml a + 11) + zlo a) (zlo mi) && zlnk mi idx a b w)
  | _ => true
def zokE (mi : Nat) (x : Nat × zI) : Bool := decide (decode (zbs mi) x.1 = .ok (x.2.1, x.2.2.1)) && zokI mi x.1 x.2.1 x.2.2.2.1 x.2.2.2.2.1 x.2.2.2.2.2
def zokM (mi : Nat) : Bool :=
  let wp := zt_wp.getD mi (0, 0, 0, 0)
  plainName (zy mi).cls && decide ((zy mi).cls ≠ "java/lang/invoke/MethodHandle") && decide ((zy mi).cls ≠ "java/lang/invoke/VarHandle") &&
  zwd wp.1 (.code (zy mi) (zbs mi) (zml mi) (zrt mi)) && zwd wp.2.1 (.initialized (zy mi).cls) &&
  decide ((parseMethodDescriptor (zy mi).desc).map (fun d => d.parameters.length) = some (bif zsta mi then znp mi else znp mi - 1)) &&
  (bif zsta mi then zwd wp.2.2.1 (.static (zy mi)) else
    (zwd wp.2.2.1 (.instanceMethod (zy mi)) && Nat.ble 1 (znp mi) && Nat.ble (zmc mi + 1) 9 && decide ((zcd (zmc mi)).1 = (zy mi).cls) && (decide ((zy mi).name = "<init>") || zwd wp.2.2.2 (.selects (zy mi).cls (zy mi) (zy mi))))) &&
  (match zrt mi with
    | none => Nat.beq (zrk mi) 0
    | some .int => Nat.beq (zrk mi) 1
    | some .boolean => Nat.beq (zrk mi) 2
    | some .long => Nat.beq (zrk mi) 3
    | some (.object _) => Nat.beq (zrk mi) 4
    | _ => false)
def zokA (mi : Nat) : Bool := zokM mi && (zt_cs.getD mi []).all (zokE mi)
end
section
set_option maxRecDepth 100000 in
theorem zok_0 : (List.range 10).all (fun i => zokA (0 + i)) = true := by decide +kernel
set_option maxRecDepth 100000 in
theorem zok_10 : (List.range 10).all (fun i => zokA (10 + i)) = true := by decide +kernel
set_option maxRecDepth 100000 in
theorem zok_20 : (List.range 10).all (fun i => zokA (20 + i)) = true := by decide +kernel
set_option maxRecDepth 100000 in
theorem zok_30 : (List.range 10).all (fun i => zokA (30 + i)) = true := by decide +kernel
set_option maxRecDepth 100000 in
theorem zok_40 : (List.range 10).all (fun i => zokA (40 + i)) = true := by decide +kernel
set_option maxRecDepth 100000 in
theorem zok_50 : (List.range 10).all (fun i => zokA (50 + i)) = true := by decide +kernel
set_option maxRecDepth 100000 in
theorem zok_60 : (List.range 10).all (fun i => zokA (60 + i)) = true := by decide +kernel
set_option maxRecDepth 100000 in
theorem zok_70 : (List.range 10).all (fun i => zokA (70 + i)) = true := by decide +kernel
set_option maxRecDepth 100000 in
theorem zok_80 : (List.range 10).all (fun i => zokA (80 + i)) = true := by decide +kernel
set_option maxRecDepth 100000 in
theorem zok_90 : (List.range 10).all (fun i => zokA (90 + i)) = true := by decide +kernel
set_option maxRecDepth 100000 in
theorem zok_100 : (List.range 10).all (fun i => zokA (100 + i)) = true := by decide +kernel
set_option maxRecDepth 100000 in
theorem zok_110 : (List.range 10).all (fun i => zokA (110 + i)) = true := by decide +kernel
set_option maxRecDepth 100000 in
theorem zok_120 : (List.range 10).all (fun i => zokA (120 + i)) = true := by decide +kernel
set_option maxRecDepth 100000 in
theorem zok_130 : (List.range 10).all (fun i => zokA (130 + i)) = true := by decide +kernel
set_option maxRecDepth 100000 in
theorem zok_140 : (List.range 10).all (fun i => zokA (140 + i)) = true := by decide +kernel
set_option maxRecDepth 100000 in
theorem zok_150 : (List.range 10).all (fun i => zokA (150 + i)) = true := by decide +kernel
set_option maxRecDepth 100000 in
theorem zok_160 : (List.range 10).all (fun i => zokA (160 + i)) = true := by decide +kernel
set_option maxRecDepth 100000 in
theorem zok_170 : (List.range 10).all (fun i => zokA (170 + i)) = true := by decide +kernel
set_option maxRecDepth 100000 in
theorem zok_180 : (List.range 10).all (fun i => zokA (180 + i)) = true := by decide +kernel
theorem zok {mi : Nat} (h : mi < 190) : zokA mi = true := by
  have key : ∀ k c : Nat, (List.range c).all (fun i => zokA (k + i)) = true → k ≤ mi → mi < k + c → zokA mi = true := by
    intro k c hc h1 h2
    have h3 := List.all_eq_true.mp hc (mi - k) (List.mem_range.mpr (by omega))
    rwa [show k + (mi - k) = mi by omega] at h3
  rcases Nat.lt_or_ge mi 10 with q0 | q0
  · exact key 0 10 zok_0 (by omega) (by omega)
  rcases Nat.lt_or_ge mi 20 with q1 | q1
  · exact key 10 10 zok_10 (by omega) (by omega)
  rcases Nat.lt_or_ge mi 30 with q2 | q2
  · exact key 20 10 zok_20 (by omega) (by omega)
  rcases Nat.lt_or_ge mi 40 with q3 | q3
  · exact key 30 10 zok_30 (by omega) (by omega)
  rcases Nat.lt_or_ge mi 50 with q4 | q4
  · exact key 40 10 zok_40 (by omega) (by omega)
  rcases Nat.lt_or_ge mi 60 with q5 | q5
  · exact key 50 10 zok_50 (by omega) (by omega)
  rcases Nat.lt_or_ge mi 70 with q6 | q6
  · exact key 60 10 zok_60 (by omega) (by omega)
  rcases Nat.lt_or_ge mi 80 with q7 | q7
  · exact key 70 10 zok_70 (by omega) (by omega)
  rcases Nat.lt_or_ge mi 90 with q8 | q8
  · exact key 80 10 zok_80 (by omega) (by omega)
  rcases Nat.lt_or_ge mi 100 with q9 | q9
  · exact key 90 10 zok_90 (by omega) (by omega)
  rcases Nat.lt_or_ge mi 110 with q10 | q10
  · exact key 100 10 zok_100 (by omega) (by omega)
  rcases Nat.lt_or_ge mi 120 with q11 | q11
  · exact key 110 10 zok_110 (by omega) (by omega)
  rcases Nat.lt_or_ge mi 130 with q12 | q12
  · exact key 120 10 zok_120 (by omega) (by omega)
  rcases Nat.lt_or_ge mi 140 with q13 | q13
  · exact key 130 10 zok_130 (by omega) (by omega)
  rcases Nat.lt_or_ge mi 150 with q14 | q14
  · exact key 140 10 zok_140 (by omega) (by omega)
  rcases Nat.lt_or_ge mi 160 with q15 | q15
  · exact key 150 10 zok_150 (by omega) (by omega)
  rcases Nat.lt_or_ge mi 170 with q16 | q16
  · exact key 160 10 zok_160 (by omega) (by omega)
  rcases Nat.lt_or_ge mi 180 with q17 | q17
  · exact key 170 10 zok_170 (by omega) (by omega)
  exact key 180 10 zok_180 (by omega) (by omega)
def zokK (ci : Nat) : Bool := (u_ws (zcd ci).1 (zcd ci).2.1 (zcd ci).2.2).all (fun w => decide (w ∈ lw_tbl) && goodWord w) && zwd (zt_ci.getD ci (0, 0)).1 (.instantiable (zcd ci).1 (zcd ci).2.2) && zwd (zt_ci.getD ci (0, 0)).2 (.initialized (zcd ci).1) && Nat.beq (zdf ci).length (zcd ci).2.2
set_option maxRecDepth 100000 in
theorem zokK_0 : zokK 0 = true := by decide +kernel
set_option maxRecDepth 100000 in
theorem zokK_1 : zokK 1 = true := by decide +kernel
set_option maxRecDepth 100000 in
theorem zokK_2 : zokK 2 = true := by decide +kernel
set_option maxRecDepth 100000 in
theorem zokK_3 : zokK 3 = true := by decide +kernel
set_option maxRecDepth 100000 in
theorem zokK_4 : zokK 4 = true := by decide +kernel
set_option maxRecDepth 100000 in
theorem zokK_5 : zokK 5 = true := by decide +kernel
set_option maxRecDepth 100000 in
theorem zokK_6 : zokK 6 = true := by decide +kernel
set_option maxRecDepth 100000 in
theorem zokK_7 : zokK 7 = true := by decide +kernel
set_option maxRecDepth 100000 in
theorem zokK_8 : zokK 8 = true := by decide +kernel
theorem zokKs {ci : Nat} (h : ci < 9) : zokK ci = true := by
  rcases (show ci = 0 ∨ ci = 1 ∨ ci = 2 ∨ ci = 3 ∨ ci = 4 ∨ ci = 5 ∨ ci = 6 ∨ ci = 7 ∨ ci = 8 by omega) with rfl | rfl | rfl | rfl | rfl | rfl | rfl | rfl | rfl
  · exact zokK_0
  · exact zokK_1
  · exact zokK_2
  · exact zokK_3
  · exact zokK_4
  · exact zokK_5
  · exact zokK_6
  · exact zokK_7
  · exact zokK_8
theorem zmax_s : (Jvm.Cond.static Lib.Math.max.name) ∈ zt_w0 := zwd_mem (w := 1028) (by decide +kernel)
theorem zmax_c : (Jvm.Cond.code Lib.Math.max.name Lib.Math.max.code 2 (some .int)) ∈ zt_w0 := zwd_mem (w := 1029) (by decide +kernel)
theorem zmin_s : (Jvm.Cond.static Lib.Math.min.name) ∈ zt_w0 := zwd_mem (w := 2207) (by decide +kernel)
theorem zmin_c : (Jvm.Cond.code Lib.Math.min.name Lib.Math.min.code 2 (some .int)) ∈ zt_w0 := zwd_mem (w := 2208) (by decide +kernel)
theorem zmm_i : (Jvm.Cond.initialized "java/lang/Math") ∈ zt_w0 := zwd_mem (w := 1003) (by decide +kernel)
theorem zob_i : (Jvm.Cond.instanceMethod Lib.objectInit) ∈ zt_w0 := zwd_mem (w := 1019) (by decide +kernel)
theorem zob_c : (Jvm.Cond.code Lib.objectInit ⟨#[0xb1]⟩ 1 none) ∈ zt_w0 := zwd_mem (w := 1020) (by decide +kernel)
theorem zar_i : (Jvm.Cond.arrayClass .int) ∈ zt_w0 := zwd_mem (w := 1043) (by decide +kernel)
theorem zar_z : (Jvm.Cond.arrayClass .boolean) ∈ zt_w0 := zwd_mem (w := 4126) (by decide +kernel)
theorem zar_q : (Jvm.Cond.arrayOver (.object "LoveGlass$Run")) ∈ lw_tbl := zwls_in (k := 1) (List.mem_of_getElem? (i := 126) (by decide +kernel))
end
section
/-! ===== the small machine's steps are the machine's ===== -/
abbrev zTY (cI cZ cR : Nat) : List (ClassId × FieldType) := [(cI, .int), (cZ, .boolean), (cR, .object "LoveGlass$Run")]
def shV (b : Nat) : Value → Value
  | .ref a => .ref (b + a)
  | v => v
def zE2 (b cI cZ cR : Nat) : zE → va_E
  | .inl (t, n, f) => .inl (if t = 0 then cI else cZ, n, .inl f)
  | .inr (.inl (n, f)) => .inl (cR, n, .inr (.inr (.inr (.inr (fun k => (f k).map (fun a => b + a))))))
  | .inr (.inr (ci, fs)) => .inr (ci, fs.map (shV b))
def zW (b cI cZ cR : Nat) (h : List zE) : va_W := h.mapIdx fun k e => (b + k, zE2 b cI cZ cR e)
def zsz1 : zE → Nat
  | .inl (_, n, _) => n
  | .inr (.inl (n, _)) => n
  | .inr (.inr (_, fs)) => fs.length
def zsz (h : List zE) : Nat := (h.map zsz1).sum
theorem shV_cat (b : Nat) (v : Value) : (shV b v).category = v.category := by cases v <;> rfl
theorem shV_cats (b : Nat) (st : List Value) : ((st.map (shV b)).map fun v => v.category).sum = zcats st := by
  unfold zcats
  congr 1
  rw [List.map_map]
  exact List.map_congr_left fun v _ => shV_cat b v
theorem shV_nar {b : Nat} {ty : FieldType} {v : Value} (h : narrow ty v = v) : narrow ty (shV b v) = shV b v := by
  cases v <;> cases ty <;> first | exact h | rfl
theorem shV_fit {b : Nat} {ty : FieldType} {v : Value} (h : fits ty v = true) : fits ty (shV b v) = true := by
  cases v <;> cases ty <;> first | exact h | rfl
theorem shV_rf (b : Nat) (o : Option Nat) : shV b (va_rf o) = va_rf (o.map fun a => b + a) := by cases o <;> rfl
theorem zW_get {b cI cZ cR : Nat} {h : List zE} {k : Nat} {e : zE} (he : h[k]? = some e) : (zW b cI cZ cR h)[k]? = some (b + k, zE2 b cI cZ cR e) := by
  simp [zW, List.getElem?_mapIdx, he]
theorem zW_of {b cI cZ cR : Nat} {h : List zE} {k : Nat} {q : Nat × va_E} (hq : (zW b cI cZ cR h)[k]? = some q) : q.1 = b + k ∧ k < h.length := by
  simp only [zW, List.getElem?_mapIdx, Option.map_eq_some_iff] at hq
  obtain ⟨e, h1, h2⟩ := hq
  exact ⟨by rw [← h2], (List.getElem?_eq_some_iff.mp h1).1⟩
theorem zW_set {b cI cZ cR : Nat} {h : List zE} (k : Nat) (e : zE) : (zW b cI cZ cR h).set k (b + k, zE2 b cI cZ cR e) = zW b cI cZ cR (h.set k e) := by
  apply List.ext_getElem?
  intro j
  simp only [zW, List.getElem?_set, List.getElem?_mapIdx, List.length_mapIdx]
  by_cases hj : k = j
  · subst hj
    by_cases hk : k < h.length <;> simp [hk]
  · simp [hj]
theorem zW_push {b cI cZ cR : Nat} {h : List zE} (e : zE) : zW b cI cZ cR h ++ [(b + h.length, zE2 b cI cZ cR e)] = zW b cI cZ cR (h ++ [e]) := by
  simp [zW, List.mapIdx_append]
theorem zW_D (b cI cZ cR : Nat) (h : List zE) : va_D (fun q : Nat => b ≤ q) (zW b cI cZ cR h) := by
  refine ⟨fun i j p q hi hj hpq => ?_, fun k q hk => ?_⟩
  · have h1 := (zW_of hi).1
    have h2 := (zW_of hj).1
    omega
  · have h1 := (zW_of hk).1
    show b ≤ q.1
    omega
def zLH (b : Nat) (ls : Array Slot) (n : Nat) (l : List Value) : Prop := ls.size = n ∧ lv_wf ls ∧ l.length ≤ n ∧ ∀ (i : Nat) (v : Value), l[i]? = some v → v ≠ zU → ls[i]? = some (.val (shV b v))
theorem zLH.at {b n : Nat} {ls : Array Slot} {l : List Value} (h : zLH b ls n l) {i : Nat} {v : Value} (hv : l[i]? = some v) (hu : v ≠ zU) : ls[i]? = some (.val (shV b v)) := h.2.2.2 i v hv hu
def zpr (b : Nat) (l : List Value) : List (Nat × Value) := (l.zipIdx.filter fun q => !decide (q.1 = zU)).map fun q => (q.2, shV b q.1)
theorem zpr_mem {b : Nat} {l : List Value} {i : Nat} {v : Value} (hv : l[i]? = some v) (hu : v ≠ zU) : (i, shV b v) ∈ zpr b l := by
  refine List.mem_map.mpr ⟨(v, i), List.mem_filter.mpr ⟨?_, by simp [hu]⟩, rfl⟩
  exact List.mk_mem_zipIdx_iff_getElem?.mpr hv
theorem zLH.has {b n : Nat} {ls : Array Slot} {l : List Value} (h : zLH b ls n l) : lv_has ls n (zpr b l) := by
  refine ⟨h.1, h.2.1, fun q hq => ?_⟩
  obtain ⟨⟨v, i⟩, h1, rfl⟩ := List.mem_map.mp hq
  obtain ⟨h2, h3⟩ := List.mem_filter.mp h1
  have h4 := List.mk_mem_zipIdx_iff_getElem?.mp h2
  exact h.2.2.2 i v h4 (by simpa using h3)
theorem zpre_ne {l : List Value} {i : Nat} (h : zpre l i = true) {j : Nat} {v : Value} (hj : l[j]? = some v) (hji : j + 1 = i) : ¬ v.category = 2 := by
  subst hji
  simp only [zpre, hj] at h
  cases v <;> simp [Value.category] at h ⊢
theorem zsto1_LH {b n : Nat} {ls' : Array Slot} {l l1 : List Value} {i : Nat} {v : Value} (hs : zsto1 l i v = some l1) (hln : l.length ≤ n)
    (h : lv_has ls' n ((i, shV b v) :: (zpr b l).filter (fun q => !(q.1 == i) && !(q.1 + 1 == i && q.2.category == 2)))) : zLH b ls' n l1 := by
  unfold zsto1 at hs
  split at hs
  · rename_i hc
    cases hs
    refine ⟨h.1, h.2.1, by rw [List.length_set]; exact hln, fun j w hj hu => ?_⟩
    rw [List.getElem?_set] at hj
    by_cases hij : i = j
    · subst hij
      rw [if_pos rfl, if_pos hc.1] at hj
      cases hj
      exact h.2.2 _ List.mem_cons_self
    · rw [if_neg hij] at hj
      refine h.2.2 (j, shV b w) (List.mem_cons_of_mem _ (List.mem_filter.mpr ⟨zpr_mem hj hu, ?_⟩))
      have h1 : ¬ j = i := fun e => hij e.symm
      by_cases h2 : j + 1 = i
      · have h3 := zpre_ne hc.2 hj h2
        simp [h1, shV_cat, h3]
      · simp [h1, h2]
  · cases hs
theorem zsto1_lt {l l1 : List Value} {i : Nat} {v : Value} (hs : zsto1 l i v = some l1) : i < l.length := by
  unfold zsto1 at hs
  split at hs
  · rename_i hc
    exact hc.1
  · cases hs
theorem zsto2_LH {b n : Nat} {ls' : Array Slot} {l l1 : List Value} {i : Nat} {v : Value} (hs : zsto2 l i v = some l1) (hln : l.length ≤ n)
    (h : lv_has ls' n ((i, shV b v) :: (zpr b l).filter (fun q => !(q.1 == i) && (!(q.1 == i + 1) && !(q.1 + 1 == i && q.2.category == 2))))) : zLH b ls' n l1 := by
  unfold zsto2 at hs
  split at hs
  · rename_i hc
    cases hs
    refine ⟨h.1, h.2.1, by simpa using hln, fun j w hj hu => ?_⟩
    rw [List.getElem?_set] at hj
    by_cases hj1 : i + 1 = j
    · subst hj1
      rw [if_pos rfl, if_pos (by simpa using hc.1)] at hj
      cases hj
      exact absurd rfl hu
    · rw [if_neg hj1, List.getElem?_set] at hj
      by_cases hij : i = j
      · subst hij
        rw [if_pos rfl, if_pos (by omega)] at hj
        cases hj
        exact h.2.2 _ List.mem_cons_self
      · rw [if_neg hij] at hj
        refine h.2.2 (j, shV b w) (List.mem_cons_of_mem _ (List.mem_filter.mpr ⟨zpr_mem hj hu, ?_⟩))
        have h1 : ¬ j = i := fun e => hij e.symm
        have h4 : ¬ j = i + 1 := fun e => hj1 e.symm
        by_cases h2 : j + 1 = i
        · have h3 := zpre_ne hc.2 hj h2
          simp [h1, h4, shV_cat, h3]
        · simp [h1, h2, h4]
  · cases hs
theorem zsto2_lt {l l1 : List Value} {i : Nat} {v : Value} (hs : zsto2 l i v = some l1) : i + 1 < l.length := by
  unfold zsto2 at hs
  split at hs
  · rename_i hc
    exact hc.1
  · cases hs
theorem zin_vp {x : Int32} {n : Nat} (h : zin x n = true) : vp_in x n := by
  simp only [zin, Bool.and_eq_true, decide_eq_true_eq] at h
  exact vp_in_iff.mpr h
theorem zcd_get {ci : Nat} (h : ci < 9) : zt_cl[ci]? = some ((zcd ci).1, (zcd ci).2.1, (zcd ci).2.2) := by
  rcases (show ci = 0 ∨ ci = 1 ∨ ci = 2 ∨ ci = 3 ∨ ci = 4 ∨ ci = 5 ∨ ci = 6 ∨ ci = 7 ∨ ci = 8 by omega) with rfl | rfl | rfl | rfl | rfl | rfl | rfl | rfl | rfl <;> rfl
theorem zcd_ty {ci : Nat} (h : ci < 9) : ∀ k, k < (zcd ci).2.2 → parseFieldDescriptor ((zcd ci).2.1 k).2.2.1 = some (zcY ci k) := by
  rcases (show ci = 0 ∨ ci = 1 ∨ ci = 2 ∨ ci = 3 ∨ ci = 4 ∨ ci = 5 ∨ ci = 6 ∨ ci = 7 ∨ ci = 8 by omega) with rfl | rfl | rfl | rfl | rfl | rfl | rfl | rfl | rfl
  · exact zt_P0
  · exact zt_P1
  · exact zt_P2
  · exact zt_P3
  · exact zt_P4
  · exact zt_P5
  · exact zt_P6
  · exact zt_P7
  · exact zt_P8
theorem zcd_nm {ci : Nat} (h : ci < 9) : ∀ a, a < (zcd ci).2.2 → ∀ b, b < (zcd ci).2.2 → a ≠ b → ((zcd ci).2.1 a).2.1 ≠ ((zcd ci).2.1 b).2.1 := by
  rcases (show ci = 0 ∨ ci = 1 ∨ ci = 2 ∨ ci = 3 ∨ ci = 4 ∨ ci = 5 ∨ ci = 6 ∨ ci = 7 ∨ ci = 8 by omega) with rfl | rfl | rfl | rfl | rfl | rfl | rfl | rfl | rfl
  · exact zt_N0
  · exact zt_N1
  · exact zt_N2
  · exact zt_N3
  · exact zt_N4
  · exact zt_N5
  · exact zt_N6
  · exact zt_N7
  · exact zt_N8
theorem zdf_ok {ci : Nat} (h : ci < 9) (b : Nat) : (zdf ci).map (shV b) = zdf ci ∧ ∀ j, j < (zcd ci).2.2 → defaultValue (zcY ci j) = vp_V (zdf ci) j := by
  rcases (show ci = 0 ∨ ci = 1 ∨ ci = 2 ∨ ci = 3 ∨ ci = 4 ∨ ci = 5 ∨ ci = 6 ∨ ci = 7 ∨ ci = 8 by omega) with rfl | rfl | rfl | rfl | rfl | rfl | rfl | rfl | rfl <;> exact ⟨rfl, by decide +kernel⟩
theorem zcd_in {ci : Nat} (h : ci < 9) : ∀ w ∈ u_ws (zcd ci).1 (zcd ci).2.1 (zcd ci).2.2, w ∈ zt_w0 := by
  intro w hw
  have h1 := zokKs h
  simp only [zokK, Bool.and_eq_true] at h1
  have h2 := List.all_eq_true.mp h1.1.1.1 w hw
  simp only [Bool.and_eq_true, decide_eq_true_eq] at h2
  exact List.mem_filter.mpr h2
theorem zcd_ins {ci : Nat} (h : ci < 9) : Jvm.Cond.instantiable (zcd ci).1 (zcd ci).2.2 ∈ zt_w0 ∧ Jvm.Cond.initialized (zcd ci).1 ∈ zt_w0 ∧ (zdf ci).length = (zcd ci).2.2 := by
  have h1 := zokKs h
  simp only [zokK, Bool.and_eq_true] at h1
  exact ⟨zwd_mem h1.1.1.2, zwd_mem h1.1.2, Nat.eq_of_beq_eq_true h1.2⟩
/-- where a method's body stands -/
def zX (p : Program) (s : State) (m : MethodId) (args : Array Value) (meth : Method) (c : Code) (D : va_G) (cI cZ cR b mi : Nat) : Prop :=
  p.tables.exec = Jvm.exec ∧ c.code = zbs mi ∧ c.maxLocals = zml mi ∧ s.vm.findClass (zy mi).cls = some m.cls ∧ (∀ w ∈ zt_w0, w.before args s = true) ∧ (∀ w ∈ zt_w1, va_Nw w s) ∧ va_AO "LoveGlass$Run" s ∧ va_K D zt_cl (zTY cI cZ cR) s ∧ b ≤ s.heap.size ∧ meth.name = (zy mi).name
def zGo (p : Program) (lN : Launch) (e : Env) (R : Room) (s : State) (m : MethodId) (args : Array Value) (below : List Frame) (meth : Method) (c : Code) (Q : State → Prop) (D : va_G) (cI cZ cR b n cells slots : Nat) (h : List zE) (pc : Nat) (l st : List Value) : Prop :=
  ∀ (H : Heap) (locs : List Loc) (ls : Array Slot), va_P D zt_cl (zW b cI cZ cR h) H → va_S (fun q : Nat => b ≤ q) s.heap H locs → zLH b ls n l →
    W p lN e R s m args below meth c H locs cells slots Q (F0 m pc ls (st.map (shV b)))
section ZS
variable {p : Program} {lN : Launch} {e : Env} {R : Room} {s : State} {m : MethodId} {args : Array Value} {below : List Frame} {meth : Method} {c : Code} {Q : State → Prop} {D : va_G} {cI cZ cR b n cells slots mi : Nat}
theorem zW_size {H : Heap} {locs : List Loc} {g : JFrame} (k : H.size ≤ s.heap.size + cells → W p lN e R s m args below meth c H locs cells slots Q g) : W p lN e R s m args below meth c H locs cells slots Q g :=
  fun T hT X => k (by rw [← hT]; exact X.heapSize) T hT X
theorem zlast {H1 : Heap} {h : List zE} {q : Nat} {x : va_E} (hP : va_P D zt_cl (zW b cI cZ cR h ++ [(q, x)]) H1) (hD : va_D (fun q : Nat => b ≤ q) (zW b cI cZ cR h ++ [(q, x)])) (hz : H1.size ≤ b + h.length + 1) : q = b + h.length := by
  have hl : (zW b cI cZ cR h).length = h.length := by simp [zW]
  have hq : (zW b cI cZ cR h ++ [(q, x)])[h.length]? = some (q, x) := by rw [List.getElem?_append_right (by omega), hl]; simp
  have h1 : b ≤ q := hD.2 _ _ hq
  have h2 : q < H1.size := (hP _ _ hq).lt
  rcases Nat.lt_or_ge q (b + h.length) with h3 | h3
  · obtain ⟨k, hk, rfl⟩ : ∃ k, k < h.length ∧ q = b + k := ⟨q - b, by omega, by omega⟩
    have h4 : (zW b cI cZ cR h ++ [(b + k, x)])[k]? = some (b + k, zE2 b cI cZ cR h[k]) := by
      rw [List.getElem?_append_left (by omega)]
      exact zW_get (List.getElem?_eq_getElem hk)
    have h5 := hD.1 _ _ _ _ h4 hq rfl
    omega
  · omega
end ZS
end
section
def zsw : Instr → Bool
  | .tableswitch _ _ _ _ => true
  | .lookupswitch _ _ => true
  | _ => false
def zlen : Instr → Nat
  | .bipush _ => 2
  | .sipush _ => 3
  | .ldc_w _ => 3
  | .ldc2_w _ => 3
  | .iload _ => 2
  | .lload _ => 2
  | .aload _ => 2
  | .istore _ => 2
  | .astore _ => 2
  | .iinc _ _ => 3
  | .goto _ => 3
  | .if_icmp _ _ => 3
  | .ifCond _ _ => 3
  | .ifnull _ => 3
  | .ifnonnull _ => 3
  | .getfield _ => 3
  | .putfield _ => 3
  | .new _ => 3
  | .anewarray _ => 3
  | .newarray _ => 2
  | .invokestatic _ => 3
  | .invokevirtual _ => 3
  | .invokespecial _ => 3
  | _ => 1
def zlenM (mi : Nat) : Bool := (zt_cs.getD mi []).all fun x => zsw x.2.1 || Nat.beq x.2.2.1 (zlen x.2.1)
set_option maxRecDepth 100000 in
theorem zlens : (List.range 191).all zlenM = true := by decide +kernel
section ZT
variable {p : Program} {lN : Launch} {e : Env} {R : Room} {s : State} {m : MethodId} {args : Array Value} {below : List Frame} {meth : Method} {c : Code} {Q : State → Prop} {D : va_G} {cI cZ cR b cells slots mi : Nat}
theorem zcjmp {pc t : Nat} {off : Int} (h : zjmp pc off = some t) : (pc : Int) + off = (t : Int) := by
  unfold zjmp at h
  split at h
  · rename_i hc
    cases h
    omega
  · cases h

set_option maxHeartbeats 4000000 in
/-- one step that is no call and no end, and makes nothing -/
theorem zstep {i : Instr} {ln a bb w pc : Nat} {h h1 : List zE} {pc1 : Nat} {l l1 st st1 : List Value} (X : zX p s m args meth c D cI cZ cR b mi) (hdg : decode (zbs mi) pc = .ok (i, ln)) (hln : zsw i = false → ln = zlen i) (hok : zokI mi pc i a bb w = true) (hkd : zkd i bb = 0)
    (hfr : zfr mi ≤ R.frames) (hlo : zlo mi ≤ R.locals) (hcells : cells ≤ R.cells) (hslots : slots ≤ R.slots)
    (hz : zst i a bb pc h l st = some (h1, pc1, l1, st1)) (hlen : h1.length = h.length)
    (k : zGo p lN e R s m args below meth c Q D cI cZ cR b (zml mi) cells slots h1 pc1 l1 st1) : zGo p lN e R s m args below meth c Q D cI cZ cR b (zml mi) cells slots h pc l st := by
  obtain ⟨hx, hb, hml, hown, hts, hnw, hao, hK, hbs, hnm⟩ := X
  intro H locs ls hP hS hl
  have hD := zW_D b cI cZ cR h
  cases i with
  | iconst q =>
    obtain rfl := hln rfl
    simp only [zst] at hz
    cases hz
    exact lv_iconst hx hb hdg rfl (k H locs ls hP hS hl)
  | bipush q =>
    obtain rfl := hln rfl
    simp only [zst] at hz
    cases hz
    exact lv_bipush hx hb hdg rfl (k H locs ls hP hS hl)
  | sipush q =>
    obtain rfl := hln rfl
    simp only [zst] at hz
    cases hz
    exact lv_sipush hx hb hdg rfl (k H locs ls hP hS hl)
  | lconst q =>
    obtain rfl := hln rfl
    simp only [zst] at hz
    cases hz
    exact lv_lconst hx hb hdg rfl (k H locs ls hP hS hl)
  | aconst_null =>
    obtain rfl := hln rfl
    simp only [zst] at hz
    cases hz
    exact lv_null hx hb hdg (k H locs ls hP hS hl)
  | ldc_w q =>
    obtain rfl := hln rfl
    simp only [zst] at hz
    cases hz
    exact lv_ldcw hx hb hown (hts _ (zwd_mem hok)) hdg (k H locs ls hP hS hl)
  | ldc2_w q =>
    obtain rfl := hln rfl
    simp only [zst] at hz
    cases hz
    exact lv_ldc2 hx hb hown (hts _ (zwd_mem hok)) hdg (k H locs ls hP hS hl)
  | iload_n q =>
    obtain rfl := hln rfl
    simp only [zst] at hz
    split at hz
    · rename_i x hx1
      cases hz
      exact lv_iload_n hx hb hdg rfl (hl.at hx1 (by simp)) (k H locs ls hP hS hl)
    · cases hz
  | iload q =>
    obtain rfl := hln rfl
    simp only [zst] at hz
    split at hz
    · rename_i x hx1
      cases hz
      exact lv_iload hx hb hdg (hl.at hx1 (by simp)) (k H locs ls hP hS hl)
    · cases hz
  | lload_n q =>
    obtain rfl := hln rfl
    simp only [zst] at hz
    split at hz
    · rename_i x hx1
      cases hz
      exact lv_lload_n hx hb hdg rfl (hl.at hx1 (by simp)) (k H locs ls hP hS hl)
    · cases hz
  | lload q =>
    obtain rfl := hln rfl
    simp only [zst] at hz
    split at hz
    · rename_i x hx1
      cases hz
      exact lv_lload hx hb hdg (hl.at hx1 (by simp)) (k H locs ls hP hS hl)
    · cases hz
  | aload_n q =>
    obtain rfl := hln rfl
    simp only [zst] at hz
    split at hz
    · rename_i x hx1
      cases hz
      exact lv_aload_n hx hb hdg rfl (hl.at hx1 (by simp)) (k H locs ls hP hS hl)
    · rename_i hx1
      cases hz
      exact lv_aload_nN hx hb hdg rfl (hl.at hx1 (by simp)) (k H locs ls hP hS hl)
    · cases hz
  | aload q =>
    obtain rfl := hln rfl
    simp only [zst] at hz
    split at hz
    · rename_i x hx1
      cases hz
      exact lv_aload hx hb hdg (hl.at hx1 (by simp)) (k H locs ls hP hS hl)
    · rename_i hx1
      cases hz
      exact lv_aloadN hx hb hdg (hl.at hx1 (by simp)) (k H locs ls hP hS hl)
    · cases hz
  | istore_n q =>
    obtain rfl := hln rfl
    simp only [zst] at hz
    split at hz
    · split at hz
      · rename_i l2 hs
        cases hz
        exact lv_istore_n (nL := zml mi) hx hb hdg rfl (zLH.has hl) (Nat.lt_of_lt_of_le (zsto1_lt hs) hl.2.2.1) rfl (fun ls2 h2 => k H locs ls2 hP hS (zsto1_LH hs hl.2.2.1 h2))
      · cases hz
    · cases hz
  | istore q =>
    obtain rfl := hln rfl
    simp only [zst] at hz
    split at hz
    · split at hz
      · rename_i l2 hs
        cases hz
        exact lv_istore (nL := zml mi) hx hb hdg (zLH.has hl) (Nat.lt_of_lt_of_le (zsto1_lt hs) hl.2.2.1) rfl (fun ls2 h2 => k H locs ls2 hP hS (zsto1_LH hs hl.2.2.1 h2))
      · cases hz
    · cases hz
  | lstore_n q =>
    obtain rfl := hln rfl
    simp only [zst] at hz
    split at hz
    · split at hz
      · rename_i l2 hs
        cases hz
        exact lv_lstore_n (nL := zml mi) hx hb hdg rfl (zLH.has hl) (Nat.lt_of_lt_of_le (zsto2_lt hs) hl.2.2.1) rfl (fun ls2 h2 => k H locs ls2 hP hS (zsto2_LH hs hl.2.2.1 h2))
      · cases hz
    · cases hz
  | astore_n q =>
    obtain rfl := hln rfl
    simp only [zst] at hz
    split at hz
    · split at hz
      · rename_i l2 hs
        cases hz
        exact lv_astore_n (nL := zml mi) hx hb hdg rfl (zLH.has hl) (Nat.lt_of_lt_of_le (zsto1_lt hs) hl.2.2.1) rfl (fun ls2 h2 => k H locs ls2 hP hS (zsto1_LH hs hl.2.2.1 h2))
      · cases hz
    · split at hz
      · rename_i l2 hs
        cases hz
        exact lv_astore_nN (nL := zml mi) hx hb hdg rfl (zLH.has hl) (Nat.lt_of_lt_of_le (zsto1_lt hs) hl.2.2.1) rfl (fun ls2 h2 => k H locs ls2 hP hS (zsto1_LH hs hl.2.2.1 h2))
      · cases hz
    · cases hz
  | astore q =>
    obtain rfl := hln rfl
    simp only [zst] at hz
    split at hz
    · split at hz
      · rename_i l2 hs
        cases hz
        exact lv_astore (nL := zml mi) hx hb hdg (zLH.has hl) (Nat.lt_of_lt_of_le (zsto1_lt hs) hl.2.2.1) rfl (fun ls2 h2 => k H locs ls2 hP hS (zsto1_LH hs hl.2.2.1 h2))
      · cases hz
    · split at hz
      · rename_i l2 hs
        cases hz
        exact lv_astoreN (nL := zml mi) hx hb hdg (zLH.has hl) (Nat.lt_of_lt_of_le (zsto1_lt hs) hl.2.2.1) rfl (fun ls2 h2 => k H locs ls2 hP hS (zsto1_LH hs hl.2.2.1 h2))
      · cases hz
    · cases hz
  | iinc q nn =>
    obtain rfl := hln rfl
    simp only [zst] at hz
    split at hz
    · rename_i x hx1
      split at hz
      · rename_i l2 hs
        cases hz
        obtain ⟨j, hj⟩ := List.getElem?_of_mem (zpr_mem (b := b) hx1 (by simp))
        exact lv_iinc (nL := zml mi) hx hb hdg (zLH.has hl) hj rfl (Nat.lt_of_lt_of_le (zsto1_lt hs) hl.2.2.1) rfl (fun ls2 h2 => k H locs ls2 hP hS (zsto1_LH hs hl.2.2.1 h2))
      · cases hz
    · cases hz
  | iadd =>
    obtain rfl := hln rfl
    simp only [zst] at hz
    split at hz
    · cases hz
      exact lv_iadd hx hb hdg (k H locs ls hP hS hl)
    · cases hz
  | isub =>
    obtain rfl := hln rfl
    simp only [zst] at hz
    split at hz
    · cases hz
      exact lv_isub hx hb hdg (k H locs ls hP hS hl)
    · cases hz
  | imul =>
    obtain rfl := hln rfl
    simp only [zst] at hz
    split at hz
    · cases hz
      exact lv_imul hx hb hdg (k H locs ls hP hS hl)
    · cases hz
  | ineg =>
    obtain rfl := hln rfl
    simp only [zst] at hz
    split at hz
    · cases hz
      exact lv_ineg hx hb hdg (k H locs ls hP hS hl)
    · cases hz
  | ior =>
    obtain rfl := hln rfl
    simp only [zst] at hz
    split at hz
    · cases hz
      exact lv_ior hx hb hdg (k H locs ls hP hS hl)
    · cases hz
  | iand =>
    obtain rfl := hln rfl
    simp only [zst] at hz
    split at hz
    · cases hz
      exact lv_iand hx hb hdg (k H locs ls hP hS hl)
    · cases hz
  | ixor =>
    obtain rfl := hln rfl
    simp only [zst] at hz
    split at hz
    · cases hz
      exact lv_ixor hx hb hdg (k H locs ls hP hS hl)
    · cases hz
  | ishl =>
    obtain rfl := hln rfl
    simp only [zst] at hz
    split at hz
    · cases hz
      exact lv_ishl hx hb hdg (k H locs ls hP hS hl)
    · cases hz
  | ishr =>
    obtain rfl := hln rfl
    simp only [zst] at hz
    split at hz
    · cases hz
      exact lv_ishr hx hb hdg (k H locs ls hP hS hl)
    · cases hz
  | land =>
    obtain rfl := hln rfl
    simp only [zst] at hz
    split at hz
    · cases hz
      exact lv_land hx hb hdg (k H locs ls hP hS hl)
    · cases hz
  | lor =>
    obtain rfl := hln rfl
    simp only [zst] at hz
    split at hz
    · cases hz
      exact lv_lor hx hb hdg (k H locs ls hP hS hl)
    · cases hz
  | lmul =>
    obtain rfl := hln rfl
    simp only [zst] at hz
    split at hz
    · cases hz
      exact lv_lmul hx hb hdg (k H locs ls hP hS hl)
    · cases hz
  | ladd =>
    obtain rfl := hln rfl
    simp only [zst] at hz
    split at hz
    · cases hz
      exact lv_ladd hx hb hdg (k H locs ls hP hS hl)
    · cases hz
  | iushr =>
    obtain rfl := hln rfl
    simp only [zst] at hz
    split at hz
    · cases hz
      exact lv_iushr hx hb hdg rfl (k H locs ls hP hS hl)
    · cases hz
  | lushr =>
    obtain rfl := hln rfl
    simp only [zst] at hz
    split at hz
    · cases hz
      exact lv_lushr hx hb hdg rfl (k H locs ls hP hS hl)
    · cases hz
  | lshl =>
    obtain rfl := hln rfl
    simp only [zst] at hz
    split at hz
    · cases hz
      exact lv_lshl hx hb hdg rfl (k H locs ls hP hS hl)
    · cases hz
  | i2l =>
    obtain rfl := hln rfl
    simp only [zst] at hz
    split at hz
    · cases hz
      exact lv_i2l hx hb hdg rfl (k H locs ls hP hS hl)
    · cases hz
  | l2i =>
    obtain rfl := hln rfl
    simp only [zst] at hz
    split at hz
    · cases hz
      exact lv_l2i hx hb hdg rfl (k H locs ls hP hS hl)
    · cases hz
  | idiv =>
    obtain rfl := hln rfl
    simp only [zst] at hz
    split at hz
    · split at hz
      · cases hz
      · rename_i hne
        cases hz
        exact lv_idiv hx hb hdg hne (k H locs ls hP hS hl)
    · cases hz
  | irem =>
    obtain rfl := hln rfl
    simp only [zst] at hz
    split at hz
    · split at hz
      · cases hz
      · rename_i hne
        cases hz
        exact lv_irem hx hb hdg hne (k H locs ls hP hS hl)
    · cases hz
  | lrem =>
    obtain rfl := hln rfl
    simp only [zst] at hz
    split at hz
    · split at hz
      · cases hz
      · rename_i hne
        cases hz
        exact lv_lrem hx hb hdg hne (k H locs ls hP hS hl)
    · cases hz
  | lcmp =>
    obtain rfl := hln rfl
    simp only [zst] at hz
    split at hz
    · cases hz
      exact W.lcmp hx hb hdg (k H locs ls hP hS hl)
    · cases hz
  | dup =>
    obtain rfl := hln rfl
    simp only [zst] at hz
    split at hz
    · split at hz
      · rename_i hc
        cases hz
        exact lv_dup hx hb hdg (by rw [shV_cat]; exact hc) (k H locs ls hP hS hl)
      · cases hz
    · cases hz
  | dup2 =>
    obtain rfl := hln rfl
    simp only [zst] at hz
    split at hz
    · split at hz
      · rename_i hc
        cases hz
        exact lv_dup2_11 hx hb hdg (by rw [shV_cat]; exact hc.1) (by rw [shV_cat]; exact hc.2) (k H locs ls hP hS hl)
      · cases hz
    · cases hz
  | pop =>
    obtain rfl := hln rfl
    simp only [zst] at hz
    split at hz
    · split at hz
      · rename_i hc
        cases hz
        exact lv_pop hx hb hdg (by rw [shV_cat]; exact hc) (k H locs ls hP hS hl)
      · cases hz
    · cases hz
  | goto off =>
    obtain rfl := hln rfl
    simp only [zst] at hz
    cases hz
    simp only [zokI, decide_eq_true_eq] at hok
    exact lv_goto hx hb hdg hok (k H locs ls hP hS hl)
  | if_icmp q off =>
    obtain rfl := hln rfl
    simp only [zst] at hz
    simp only [zokI, decide_eq_true_eq] at hok
    split at hz
    · cases hz
      rename_i y x
      cases q with
      | eq => exact lv_icmp_eq hx hb hdg hok (fun hc => by
          have hq : zcnd .eq x y = true := by simp [zcnd, hc]
          rw [if_pos hq] at k
          exact k H locs ls hP hS hl) (fun hc => by
          have hq : ¬ zcnd .eq x y = true := by simp [zcnd, hc]
          rw [if_neg hq] at k
          exact k H locs ls hP hS hl)
      | ne => exact lv_icmp_ne hx hb hdg hok (fun hc => by
          have hq : zcnd .ne x y = true := by simp [zcnd, hc]
          rw [if_pos hq] at k
          exact k H locs ls hP hS hl) (fun hc => by
          have hq : ¬ zcnd .ne x y = true := by simp [zcnd, hc]
          rw [if_neg hq] at k
          exact k H locs ls hP hS hl)
      | lt => exact lv_icmp_lt hx hb hdg hok (fun hc => by
          have hq : zcnd .lt x y = true := by simp [zcnd, hc]
          rw [if_pos hq] at k
          exact k H locs ls hP hS hl) (fun hc => by
          have hq : ¬ zcnd .lt x y = true := by simp [zcnd, hc]
          rw [if_neg hq] at k
          exact k H locs ls hP hS hl)
      | ge => exact lv_icmp_ge hx hb hdg hok (fun hc => by
          have hq : zcnd .ge x y = true := by simp [zcnd, hc]
          rw [if_pos hq] at k
          exact k H locs ls hP hS hl) (fun hc => by
          have hq : ¬ zcnd .ge x y = true := by simp [zcnd, hc]
          rw [if_neg hq] at k
          exact k H locs ls hP hS hl)
      | gt => exact lv_icmp_gt hx hb hdg hok (fun hc => by
          have hq : zcnd .gt x y = true := by simp [zcnd, hc]
          rw [if_pos hq] at k
          exact k H locs ls hP hS hl) (fun hc => by
          have hq : ¬ zcnd .gt x y = true := by simp [zcnd, hc]
          rw [if_neg hq] at k
          exact k H locs ls hP hS hl)
      | le => exact lv_icmp_le hx hb hdg hok (fun hc => by
          have hq : zcnd .le x y = true := by simp [zcnd, hc]
          rw [if_pos hq] at k
          exact k H locs ls hP hS hl) (fun hc => by
          have hq : ¬ zcnd .le x y = true := by simp [zcnd, hc]
          rw [if_neg hq] at k
          exact k H locs ls hP hS hl)
    · cases hz
  | ifCond q off =>
    obtain rfl := hln rfl
    simp only [zst] at hz
    simp only [zokI, decide_eq_true_eq] at hok
    split at hz
    · cases hz
      rename_i x
      cases q with
      | eq => exact lv_if_eq hx hb hdg hok (fun hc => by
          have hq : zcnd .eq x 0 = true := by simp [zcnd, hc]
          rw [if_pos hq] at k
          exact k H locs ls hP hS hl) (fun hc => by
          have hq : ¬ zcnd .eq x 0 = true := by simp [zcnd, hc]
          rw [if_neg hq] at k
          exact k H locs ls hP hS hl)
      | ne => exact lv_if_ne hx hb hdg hok (fun hc => by
          have hq : zcnd .ne x 0 = true := by simp [zcnd, hc]
          rw [if_pos hq] at k
          exact k H locs ls hP hS hl) (fun hc => by
          have hq : ¬ zcnd .ne x 0 = true := by simp [zcnd, hc]
          rw [if_neg hq] at k
          exact k H locs ls hP hS hl)
      | lt => exact lv_if_lt hx hb hdg hok (fun hc => by
          have hq : zcnd .lt x 0 = true := by simp [zcnd, hc]
          rw [if_pos hq] at k
          exact k H locs ls hP hS hl) (fun hc => by
          have hq : ¬ zcnd .lt x 0 = true := by simp [zcnd, hc]
          rw [if_neg hq] at k
          exact k H locs ls hP hS hl)
      | ge => exact lv_if_ge hx hb hdg hok (fun hc => by
          have hq : zcnd .ge x 0 = true := by simp [zcnd, hc]
          rw [if_pos hq] at k
          exact k H locs ls hP hS hl) (fun hc => by
          have hq : ¬ zcnd .ge x 0 = true := by simp [zcnd, hc]
          rw [if_neg hq] at k
          exact k H locs ls hP hS hl)
      | gt => exact lv_if_gt hx hb hdg hok (fun hc => by
          have hq : zcnd .gt x 0 = true := by simp [zcnd, hc]
          rw [if_pos hq] at k
          exact k H locs ls hP hS hl) (fun hc => by
          have hq : ¬ zcnd .gt x 0 = true := by simp [zcnd, hc]
          rw [if_neg hq] at k
          exact k H locs ls hP hS hl)
      | le => exact lv_if_le hx hb hdg hok (fun hc => by
          have hq : zcnd .le x 0 = true := by simp [zcnd, hc]
          rw [if_pos hq] at k
          exact k H locs ls hP hS hl) (fun hc => by
          have hq : ¬ zcnd .le x 0 = true := by simp [zcnd, hc]
          rw [if_neg hq] at k
          exact k H locs ls hP hS hl)
    · cases hz
  | ifnull off =>
    obtain rfl := hln rfl
    simp only [zst] at hz
    simp only [zokI, decide_eq_true_eq] at hok
    split at hz
    · cases hz
      exact lv_ifnull hx hb hdg (k H locs ls hP hS hl)
    · cases hz
      exact lv_ifnullN hx hb hdg hok (k H locs ls hP hS hl)
    · cases hz
  | ifnonnull off =>
    obtain rfl := hln rfl
    simp only [zst] at hz
    simp only [zokI, decide_eq_true_eq] at hok
    split at hz
    · cases hz
      exact lv_ifnonnull hx hb hdg hok (k H locs ls hP hS hl)
    · cases hz
      exact lv_ifnonnullN hx hb hdg (k H locs ls hP hS hl)
    · cases hz
  | tableswitch d lo hi offs =>
    simp only [zst] at hz
    split at hz
    · split at hz
      · rename_i hc
        split at hz
        · rename_i t ht
          cases hz
          exact lv_tableOut hx hb hdg hc (zcjmp ht) (k H locs ls hP hS hl)
        · cases hz
      · rename_i hc
        split at hz
        · rename_i o ho
          split at hz
          · rename_i t ht
            cases hz
            exact lv_tableIn hx hb hdg (fun q => hc (Or.inl q)) (fun q => hc (Or.inr q)) ho (zcjmp ht) (k H locs ls hP hS hl)
          · cases hz
        · cases hz
    · cases hz
  | lookupswitch d ps =>
    simp only [zst] at hz
    split at hz
    · split at hz
      · rename_i t ht
        cases hz
        exact lv_lookup hx hb hdg hok rfl (zcjmp ht) (k H locs ls hP hS hl)
      · cases hz
    · cases hz
  | getfield idx =>
    obtain rfl := hln rfl
    simp only [zst] at hz
    simp only [zokI, Bool.and_eq_true, decide_eq_true_eq, Nat.ble_eq] at hok
    obtain ⟨⟨⟨ha, hbN⟩, hw⟩, hsame⟩ := hok
    split at hz
    · split at hz
      · rename_i ci fs hcell
        split at hz
        · rename_i hca
          subst hca
          split at hz
          · rename_i v hv
            cases hz
            exact va_get (D := D) (C := (zcd ci).1) (T := (zcd ci).2.1) (N := (zcd ci).2.2) hx hb hts (zcd_in ha) hown hK hP _ (zW_get hcell) (zcd_get ha) bb hbN (hts _ (zwd_mem hw)) (fun x hx => by rw [hsame] at hx; exact hx) (by rw [List.getElem?_map, hv]; rfl) hdg (k H locs ls hP hS hl)
          · cases hz
        · cases hz
      · cases hz
    · cases hz
  | putfield idx =>
    obtain rfl := hln rfl
    simp only [zst] at hz
    simp only [zokI, Bool.and_eq_true, decide_eq_true_eq, Nat.ble_eq, Bool.or_eq_true, Bool.not_eq_true'] at hok
    obtain ⟨⟨⟨⟨ha, hbN⟩, hw⟩, hsame⟩, hfin⟩ := hok
    split at hz
    · split at hz
      · rename_i ci fs hcell
        split at hz
        · rename_i hc
          obtain ⟨hca, hbl, hnar, hfit⟩ := hc
          subst hca
          cases hz
          rename_i v o r
          have hset : (zW b cI cZ cR h).set o (b + o, .inr (ci, (fs.map (shV b)).set bb (shV b v))) = zW b cI cZ cR (h.set o (.inr (.inr (ci, fs.set bb v)))) := by
            rw [← List.map_set]
            exact zW_set o (.inr (.inr (ci, fs.set bb v)))
          by_cases hq : ((zcd ci).2.1 bb).2.2.2 = false
          · refine va_put (D := D) (C := (zcd ci).1) (T := (zcd ci).2.1) (N := (zcd ci).2.2) (ty := zcY ci bb) hx hb hts (zcd_in ha) (zcY ci) (zcd_ty ha) (zcd_nm ha) hown hK hP hD hS _ (zW_get hcell) (zcd_get ha) bb hbN (hts _ (zwd_mem hw)) (fun x hx => by rw [hsame] at hx; exact hx) hq (zcd_ty ha bb hbN) (shV_nar hnar) (shV_fit hfit) (by rw [List.length_map]; exact hbl) hdg (fun H1 locs1 hP1 hD1 hS1 => ?_)
            exact k H1 locs1 ls (by rw [← hset]; exact hP1) hS1 hl
          · have hf := hfin.resolve_left hq
            have hq2 : ((zcd ci).2.1 bb).2.2.2 = true := by simpa using hq
            refine va_putF (D := D) (C := (zcd ci).1) (T := (zcd ci).2.1) (N := (zcd ci).2.2) (ty := zcY ci bb) hx hb hts (zcd_in ha) (zcY ci) (zcd_ty ha) (zcd_nm ha) hown hK hP hD hS _ (zW_get hcell) (zcd_get ha) bb hbN (hts _ (zwd_mem hw)) (fun x hx => by rw [hsame] at hx; exact hx) hq2 (hnm.trans hf.1) (hsame.trans hf.2) (zcd_ty ha bb hbN) (shV_nar hnar) (shV_fit hfit) (by rw [List.length_map]; exact hbl) hdg (fun H1 locs1 hP1 hD1 hS1 => ?_)
            exact k H1 locs1 ls (by rw [← hset]; exact hP1) hS1 hl
        · cases hz
      · cases hz
    · cases hz
  | arraylength =>
    obtain rfl := hln rfl
    simp only [zst] at hz
    split at hz
    · split at hz
      · rename_i t nn f hcell
        cases hz
        by_cases ht : t = 0
        · subst ht
          exact va_alen (D := D) (ty := .int) hx hb hK hP _ 0 (zW_get hcell) rfl rfl hdg (k H locs ls hP hS hl)
        · exact va_alen (D := D) (ty := .boolean) hx hb hK hP _ 1 (zW_get hcell) (by simp only [if_neg ht]; rfl) rfl hdg (k H locs ls hP hS hl)
      · rename_i nn f hcell
        cases hz
        exact va_alen (D := D) hx hb hK hP _ 2 (zW_get hcell) rfl rfl hdg (k H locs ls hP hS hl)
      · cases hz
    · cases hz
  | iaload =>
    obtain rfl := hln rfl
    simp only [zst] at hz
    split at hz
    · split at hz
      · rename_i nn f hcell
        split at hz
        · rename_i hc
          cases hz
          exact va_iald (D := D) hx hb hK hP _ 0 (zW_get hcell) rfl (zin_vp hc) hdg (k H locs ls hP hS hl)
        · cases hz
      · cases hz
    · cases hz
  | baload =>
    obtain rfl := hln rfl
    simp only [zst] at hz
    split at hz
    · split at hz
      · rename_i nn f hcell
        split at hz
        · rename_i hc
          cases hz
          exact va_zald (D := D) hx hb hK hP _ 1 (zW_get hcell) rfl (zin_vp hc) hdg (k H locs ls hP hS hl)
        · cases hz
      · cases hz
    · cases hz
  | aaload =>
    obtain rfl := hln rfl
    simp only [zst] at hz
    split at hz
    · split at hz
      · rename_i nn f hcell
        split at hz
        · rename_i hc
          cases hz
          refine va_aldq (D := D) hx hb hK hP _ 2 (zW_get hcell) rfl (zin_vp hc) hdg ?_
          have k2 := k H locs ls hP hS hl
          rw [List.map_cons, shV_rf] at k2
          exact k2
        · cases hz
      · cases hz
    · cases hz
  | iastore =>
    obtain rfl := hln rfl
    simp only [zst] at hz
    split at hz
    · split at hz
      · rename_i nn f hcell
        split at hz
        · rename_i hc
          cases hz
          exact va_iast (D := D) hx hb hK hP hD hS _ 0 (zW_get hcell) rfl (zin_vp hc) hdg (fun H1 locs1 hP1 hD1 hS1 => k H1 locs1 ls (by rw [← zW_set]; exact hP1) hS1 hl)
        · cases hz
      · cases hz
    · cases hz
  | bastore =>
    obtain rfl := hln rfl
    simp only [zst] at hz
    split at hz
    · split at hz
      · rename_i nn f hcell
        split at hz
        · rename_i hc
          cases hz
          exact va_zast (D := D) hx hb hK hP hD hS _ 1 (zW_get hcell) rfl (zin_vp hc) hdg (fun H1 locs1 hP1 hD1 hS1 => k H1 locs1 ls (by rw [← zW_set]; exact hP1) hS1 hl)
        · cases hz
      · cases hz
    · cases hz
  | aastore =>
    obtain rfl := hln rfl
    simp only [zst] at hz
    split at hz
    · split at hz
      · rename_i nn f hcell
        split at hz
        · rename_i vs hv
          split at hz
          · rename_i hc
            cases hz
            refine va_astq (D := D) (ci := 4) hx hb hK hP hD hS _ 2 _ (zW_get hcell) rfl (zW_get hv) (zcd_get (ci := 4) (by omega)) (zin_vp hc) hdg (fun H1 locs1 hP1 hD1 hS1 => k H1 locs1 ls ?_ hS1 hl)
            rw [← zW_set]
            rename_i v x o r _
            have e : (fun k => (va_up f x.toNatClampNeg (some v) k).map fun a => b + a) = va_up (fun k => (f k).map fun a => b + a) x.toNatClampNeg (some (b + v)) := by
              funext j
              by_cases hj : j = x.toNatClampNeg <;> simp [va_up, hj]
            show va_P D zt_cl ((zW b cI cZ cR h).set o (b + o, .inl (cR, nn, .inr (.inr (.inr (.inr (fun k => (va_up f x.toNatClampNeg (some v) k).map fun a => b + a))))))) H1
            rw [e]
            exact hP1
          · cases hz
        · cases hz
      · cases hz
    · cases hz
  | invokespecial idx =>
    obtain rfl := hln rfl
    simp only [zst] at hz
    split at hz
    · split at hz
      · rename_i hc
        cases hz
        obtain ⟨hb2, hcat⟩ := hc
        subst hb2
        simp only [zokI, Nat.beq_refl, cond_true, Bool.and_eq_true, Nat.ble_eq] at hok
        refine W.objInit hx hb hown (hts _ (zwd_mem hok.1.1)) (hts _ zob_i) (hts _ zob_c) rfl (by rw [hml]; exact hl.1) rfl hdg (Nat.le_trans hok.1.2 hfr) ?_ (k H locs ls hP hS hl)
        have h8 := lv_room (pc := pc) (ls := ls) (m := m) (rest := ([] : List Value)) (st := List.map (shV b) _) (by rw [shV_cats]; exact hcat)
        have h9 := Nat.le_trans hok.2 hlo
        exact Nat.le_trans (Nat.add_le_add_right h8 12) (by omega)
      · cases hz
    · cases hz
  | invokestatic idx =>
    obtain rfl := hln rfl
    simp only [zst] at hz
    have hb3 : Nat.ble 3 bb = true := by
      simp only [zkd] at hkd
      cases hq : Nat.ble 3 bb
      · rw [hq] at hkd; cases hkd
      · rfl
    simp only [zokI, hb3, cond_true, Bool.and_eq_true, Nat.ble_eq] at hok
    split at hz
    · split at hz
      · rename_i hcat
        cases hz
        have hcat2 := hcat
        rw [← shV_cats b] at hcat2
        by_cases b3 : bb = 3
        · subst b3
          simp only [if_pos] at k
          exact va_mmax hx hb (hml.trans hl.1.symm) hown (hts _ (zwd_mem hok.1.1)) (hts _ zmax_s) (hts _ zmm_i) (hts _ zmax_c) (Nat.le_trans hok.1.2 hfr) (Nat.le_trans (Nat.add_le_add_right hcat2 13) (Nat.le_trans hok.2 hlo)) hcells hslots hdg (k H locs ls hP hS hl)
        · have hbf : Nat.beq bb 3 = false := by
            cases hq : Nat.beq bb 3
            · rfl
            · exact absurd (Nat.eq_of_beq_eq_true hq) b3
          simp only [hbf, cond_false] at hok
          simp only [if_neg b3] at k
          exact va_mmin hx hb (hml.trans hl.1.symm) hown (hts _ (zwd_mem hok.1.1)) (hts _ zmin_s) (hts _ zmm_i) (hts _ zmin_c) (Nat.le_trans hok.1.2 hfr) (Nat.le_trans (Nat.add_le_add_right hcat2 13) (Nat.le_trans hok.2 hlo)) hcells hslots hdg (k H locs ls hP hS hl)
      · cases hz
    · cases hz
  | new idx =>
    obtain rfl := hln rfl
    simp only [zst] at hz
    cases hz
    simp at hlen
  | newarray t =>
    obtain rfl := hln rfl
    simp only [zst] at hz
    split at hz
    · split at hz
      · cases hz
        simp at hlen
      · cases hz
    · cases hz
  | anewarray idx =>
    obtain rfl := hln rfl
    simp only [zst] at hz
    split at hz
    · split at hz
      · cases hz
        simp at hlen
      · cases hz
    · cases hz
  | _ => simp [zst] at hz
end ZT
end
section
theorem zsz_set : ∀ {h : List zE} {o : Nat} {e0 e : zE}, h[o]? = some e0 → zsz1 e = zsz1 e0 → zsz (h.set o e) = zsz h
  | [], o, e0, e, h0, _ => by simp at h0
  | x :: t, 0, e0, e, h0, hs => by
    simp only [List.getElem?_cons_zero, Option.some.injEq] at h0
    subst h0
    simp [zsz, hs]
  | x :: t, o + 1, e0, e, h0, hs => by
    have h1 : t[o]? = some e0 := by simpa using h0
    have h2 : (List.map zsz1 (t.set o e)).sum = (List.map zsz1 t).sum := zsz_set h1 hs
    show (List.map zsz1 ((x :: t).set (o + 1) e)).sum = (List.map zsz1 (x :: t)).sum
    rw [List.set_cons_succ, List.map_cons, List.map_cons, List.sum_cons, List.sum_cons, h2]
theorem zsz_push (h : List zE) (e : zE) : zsz (h ++ [e]) = zsz h + zsz1 e := by simp [zsz]
set_option maxHeartbeats 4000000 in
theorem zst_mono {i : Instr} {a b pc : Nat} {h h1 : List zE} {pc1 : Nat} {l l1 st st1 : List Value} (hz : zst i a b pc h l st = some (h1, pc1, l1, st1)) :
    (h1.length = h.length ∧ zsz h1 = zsz h) ∨ (h1.length = h.length + 1 ∧ zsz h ≤ zsz h1 ∧ (zsz h1 = zsz h → True)) := by
  cases i with
  | putfield idx =>
    simp only [zst] at hz
    repeat' split at hz
    all_goals first | (cases hz; done) | skip
    rename_i hc _
    cases hz
    exact Or.inl ⟨List.length_set .., zsz_set (by assumption) (by simp [zsz1])⟩
  | _ =>
    simp only [zst] at hz
    repeat' split at hz
    all_goals first
      | (cases hz; done)
      | (cases hz; exact Or.inl ⟨rfl, rfl⟩)
      | (cases hz; exact Or.inl ⟨List.length_set .., zsz_set (by assumption) (by simp [zsz1])⟩)
      | (cases hz; exact Or.inr ⟨by simp, by rw [zsz_push]; omega, fun _ => trivial⟩)
theorem zend_h {mi : Nat} {i : Instr} {st : List Value} {v : Option Value} (hz : zend mi i st = some v) : st = v.toList := by
  unfold zend at hz
  repeat' split at hz
  all_goals first
    | (cases hz; done)
    | (cases hz; rfl)
theorem zrun_mono : ∀ (n mi : Nat) (h : List zE) (pc : Nat) (l st : List Value) (v : Option Value) (h' : List zE), zrun n mi h pc l st = some (v, h') → h.length ≤ h'.length ∧ zsz h ≤ zsz h'
  | 0, mi, h, pc, l, st, v, h', hz => by simp [zrun] at hz
  | n + 1, mi, h, pc, l, st, v, h', hz => by
    simp only [zrun] at hz
    split at hz
    · cases hz
    · split at hz
      · split at hz
        · cases hz
        · rename_i h1 pc1 l1 st1 hs
          have h2 := zrun_mono n _ _ _ _ _ _ _ hz
          rcases zst_mono hs with h3 | h3 <;> omega
      · split at hz
        · split at hz
          · cases hz
          · rename_i v1 h1 hc
            have h2 := zrun_mono n _ _ _ _ _ _ _ hz
            have h3 := zrun_mono n _ _ _ _ _ _ _ hc
            omega
        · cases hz
      · split at hz
        · cases hz
        · cases hz
          exact ⟨Nat.le_refl _, Nat.le_refl _⟩
section ZN
variable {p : Program} {lN : Launch} {e : Env} {R : Room} {s : State} {m : MethodId} {args : Array Value} {below : List Frame} {meth : Method} {c : Code} {Q : State → Prop} {D : va_G} {cI cZ cR b cells slots mi : Nat}
/-- one step that makes a cell -/
theorem znew {i : Instr} {ln a bb w pc : Nat} {h h1 : List zE} {pc1 : Nat} {l l1 st st1 : List Value} (X : zX p s m args meth c D cI cZ cR b mi) (hdg : decode (zbs mi) pc = .ok (i, ln)) (hln : zsw i = false → ln = zlen i) (hok : zokI mi pc i a bb w = true)
    (hz : zst i a bb pc h l st = some (h1, pc1, l1, st1)) (hlen : h1.length = h.length + 1) (heq : s.heap.size + cells = b + h.length) (hcells : cells + 1 ≤ R.cells) (hslots : slots + (zsz h1 - zsz h) ≤ R.slots)
    (k : zGo p lN e R s m args below meth c Q D cI cZ cR b (zml mi) (cells + 1) (slots + (zsz h1 - zsz h)) h1 pc1 l1 st1) : zGo p lN e R s m args below meth c Q D cI cZ cR b (zml mi) cells slots h pc l st := by
  obtain ⟨hx, hb, hml, hown, hts, hnw, hao, hK, hbs, hnm⟩ := X
  intro H locs ls hP hS hl
  have hD := zW_D b cI cZ cR h
  have hA : ∀ q : Nat, s.heap.size ≤ q → (fun q : Nat => b ≤ q) q := fun q hq => Nat.le_trans hbs hq
  have hne : ∀ q : List zE, ¬ q.length = q.length + 1 := fun q => by omega
  have hns : ∀ (q : List zE) (k : Nat) (x : zE), ¬ (q.set k x).length = q.length + 1 := fun q k x => by rw [List.length_set]; omega
  cases i with
  | new idx =>
    obtain rfl := hln rfl
    simp only [zst] at hz
    cases hz
    simp only [zokI, Bool.and_eq_true, Nat.ble_eq] at hok
    obtain ⟨ha, hw⟩ := hok
    obtain ⟨hi1, hi2, hi3⟩ := zcd_ins ha
    obtain ⟨hd1, hd2⟩ := zdf_ok ha b
    have hsz : zsz (h ++ [.inr (.inr (a, zdf a))]) - zsz h = (zcd a).2.2 := by rw [zsz_push]; simp only [zsz1]; omega
    rw [hsz] at hslots k
    refine va_new (D := D) (C := (zcd a).1) (T := (zcd a).2.1) (N := (zcd a).2.2) (fs := zdf a) hx hb hts (zcd_in ha) (zcY a) (zcd_ty ha) hown (hts _ (zwd_mem hw)) (hts _ hi1) (hts _ hi2) hK hP hD hS hA (zcd_get ha) hd2 hcells hslots hdg (fun q H1 hP1 hD1 hS1 => ?_)
    refine zW_size (fun hsz1 => ?_)
    obtain rfl := zlast hP1 hD1 (by omega)
    refine k H1 locs ls ?_ hS1 hl
    rw [← zW_push]
    show va_P D zt_cl (zW b cI cZ cR h ++ [(b + h.length, .inr (a, (zdf a).map (shV b)))]) H1
    rw [hd1]
    exact hP1
  | newarray t =>
    obtain rfl := hln rfl
    simp only [zst] at hz
    split at hz
    · split at hz
      · rename_i hc
        cases hz
        rename_i x r
        simp only [zokI, Bool.or_eq_true, Bool.and_eq_true, decide_eq_true_eq, Nat.beq_eq] at hok
        have hsz : zsz (h ++ [.inl (a, x.toNatClampNeg, fun _ => 0)]) - zsz h = x.toNatClampNeg := by rw [zsz_push]; simp only [zsz1]; omega
        rw [hsz] at hslots k
        rcases hok with ⟨⟨rfl, rfl⟩, hw⟩ | ⟨⟨rfl, rfl⟩, hw⟩
        · refine va_newa (D := D) (atype := .int) (ty := .int) (a0 := (x.toNatClampNeg, .inl (fun _ => 0))) hx hb (hts _ (zwd_mem hw)) rfl hK hP hD hS hA (fun cA => rfl) hc.1 rfl (by have := hc.2; show _ * 4 ≤ _; omega) hcells hslots hdg (fun q cA H1 hK1 hP1 hD1 hS1 => ?_)
          have e1 : cA = cI := Option.some.inj (((hK1.2 3 _ rfl).2 : s.vm.findClass _ = some cA).symm.trans ((hK.2 0 _ rfl).2 : s.vm.findClass _ = some cI))
          subst e1
          refine zW_size (fun hsz1 => ?_)
          obtain rfl := zlast hP1 hD1 (by omega)
          exact k H1 locs ls (by rw [← zW_push]; exact hP1) hS1 hl
        · refine va_newa (D := D) (atype := .boolean) (ty := .boolean) (a0 := (x.toNatClampNeg, .inl (fun _ => 0))) hx hb (hts _ (zwd_mem hw)) rfl hK hP hD hS hA (fun cA => rfl) hc.1 rfl (by have := hc.2; show _ * 1 ≤ _; omega) hcells hslots hdg (fun q cA H1 hK1 hP1 hD1 hS1 => ?_)
          have e1 : cA = cZ := Option.some.inj (((hK1.2 3 _ rfl).2 : s.vm.findClass _ = some cA).symm.trans ((hK.2 1 _ rfl).2 : s.vm.findClass _ = some cZ))
          subst e1
          refine zW_size (fun hsz1 => ?_)
          obtain rfl := zlast hP1 hD1 (by omega)
          exact k H1 locs ls (by rw [← zW_push]; exact hP1) hS1 hl
      · cases hz
    · cases hz
  | anewarray idx =>
    obtain rfl := hln rfl
    simp only [zst] at hz
    split at hz
    · split at hz
      · rename_i hc
        cases hz
        rename_i x r
        have hsz : zsz (h ++ [.inr (.inl (x.toNatClampNeg, fun _ => none))]) - zsz h = x.toNatClampNeg := by rw [zsz_push]; simp only [zsz1]; omega
        rw [hsz] at hslots k
        refine va_newq (D := D) (C := "LoveGlass$Run") hx hb hown (hts _ (zwd_mem hok)) hao hK hP hD hS hA hc.1 rfl (by have := hc.2; omega) hcells hslots hdg (fun q cA H1 hK1 hP1 hD1 hS1 => ?_)
        obtain ⟨_, _, -, -, -, n1⟩ := (hK1.2 3 _ rfl).2
        obtain ⟨_, _, -, -, -, n2⟩ := (hK.2 2 _ rfl).2
        have e1 : cA = cR := Option.some.inj (n1.symm.trans n2)
        subst e1
        refine zW_size (fun hsz1 => ?_)
        obtain rfl := zlast hP1 hD1 (by omega)
        exact k H1 locs ls (by rw [← zW_push]; exact hP1) hS1 hl
      · cases hz
    · cases hz
  | _ =>
    simp only [zst] at hz
    repeat' split at hz
    all_goals first
      | (cases hz; done)
      | (cases hz; exact absurd hlen (hne _))
      | (cases hz; exact absurd hlen (hns _ _ _))
end ZN
/-! ===== a whole run is the machine's ===== -/
theorem zlk_in : ∀ {l : List (Nat × zI)} {q : Nat} {e : zI}, zlk l q = some e → (q, e) ∈ l
  | [], q, e, h => by simp [zlk] at h
  | (p, x) :: t, q, e, h => by
    simp only [zlk] at h
    cases hb : Nat.beq p q
    · rw [hb] at h
      exact List.mem_cons_of_mem _ (zlk_in h)
    · rw [hb] at h
      simp only [cond_true, Option.some.injEq] at h
      rw [Nat.eq_of_beq_eq_true hb, h]
      exact List.mem_cons_self
theorem zcode_ok {mi pc : Nat} {i : Instr} {ln a b w : Nat} (hmi : mi < 190) (h : zcode mi pc = some (i, ln, a, b, w)) : decode (zbs mi) pc = .ok (i, ln) ∧ (zsw i = false → ln = zlen i) ∧ zokI mi pc i a b w = true := by
  have h1 := zlk_in h
  have h2 := zok hmi
  simp only [zokA, Bool.and_eq_true] at h2
  have h3 := List.all_eq_true.mp h2.2 _ h1
  simp only [zokE, Bool.and_eq_true, decide_eq_true_eq] at h3
  have h4 := List.all_eq_true.mp zlens mi (List.mem_range.mpr (by omega))
  have h5 := List.all_eq_true.mp h4 _ h1
  simp only [Bool.or_eq_true] at h5
  refine ⟨h3.1, fun hs => ?_, h3.2⟩
  rcases h5 with h5 | h5
  · rw [hs] at h5; cases h5
  · exact Nat.eq_of_beq_eq_true h5
def zQ (b : Nat) (D : va_G) (cI cZ cR : Nat) (v : Option Value) (h' : List zE) : Array Value → State → Outcome → State → Prop := fun _ st o t =>
  o = .returned (v.map (shV b)) ∧ va_P D zt_cl (zW b cI cZ cR h') t.heap ∧ va_F (fun q : Nat => b ≤ q) st t
def zws (mi : Nat) : List Jvm.Cond := Jvm.Cond.code (zy mi) (zbs mi) (zml mi) (zrt mi) :: zt_w0
def zPc (b : Nat) (D : va_G) (cI cZ cR : Nat) (h : List zE) (av : List Value) : Array Value → State → Prop :=
  va_Pc (av.map (shV b)) (fun U => va_P D zt_cl (zW b cI cZ cR h) U.heap ∧ va_K D zt_cl (zTY cI cZ cR) U ∧ (∀ w ∈ zt_w1, va_Nw w U) ∧ va_AO "LoveGlass$Run" U ∧ b + h.length = U.heap.size)
theorem zargs_sl (b : Nat) : ∀ (av : List Value), (lg_sl (av.map (shV b))).length = (zargs av).length ∧ ∀ (i : Nat) (v : Value), (zargs av)[i]? = some v → v ≠ zU → (lg_sl (av.map (shV b)))[i]? = some (.val (shV b v))
  | [] => ⟨rfl, fun i v h => by simp [zargs] at h⟩
  | a :: t => by
    obtain ⟨h1, h2⟩ := zargs_sl b t
    by_cases hc : a.category = 2
    · have e1 : zargs (a :: t) = a :: zU :: zargs t := by simp [zargs, hc]
      have e2 : lg_sl ((a :: t).map (shV b)) = .val (shV b a) :: .second :: lg_sl (t.map (shV b)) := by simp [lg_sl, shV_cat, hc]
      rw [e1, e2]
      refine ⟨by simp [h1], fun i v hv hu => ?_⟩
      match i, hv with
      | 0, hv =>
        simp only [List.getElem?_cons_zero, Option.some.injEq] at hv
        subst hv
        rfl
      | 1, hv =>
        simp only [List.getElem?_cons_succ, List.getElem?_cons_zero, Option.some.injEq] at hv
        exact absurd hv.symm hu
      | i + 2, hv =>
        simp only [List.getElem?_cons_succ] at hv ⊢
        exact h2 i v hv hu
    · have e1 : zargs (a :: t) = a :: zargs t := by simp [zargs, hc]
      have e2 : lg_sl ((a :: t).map (shV b)) = .val (shV b a) :: lg_sl (t.map (shV b)) := by simp [lg_sl, shV_cat, hc]
      rw [e1, e2]
      refine ⟨by simp [h1], fun i v hv hu => ?_⟩
      match i, hv with
      | 0, hv =>
        simp only [List.getElem?_cons_zero, Option.some.injEq] at hv
        subst hv
        rfl
      | i + 1, hv =>
        simp only [List.getElem?_cons_succ] at hv ⊢
        exact h2 i v hv hu
/-- the entry's local variables -/
theorem zent_LH {b n : Nat} {av : List Value} (hn : (zargs av).length ≤ n) : ∃ ls : Array Slot, (∀ m, entryFrame m (av.map (shV b)).toArray n = F0 m 0 ls []) ∧ zLH b ls n (zpad n (zargs av)) := by
  obtain ⟨h1, h2⟩ := zargs_sl b av
  refine ⟨_, fun m => lg_entry_eq m _ n, ?_⟩
  have h3 := lv_entry (av.map (shV b)) (n := n) (by omega)
  refine ⟨h3.1, h3.2.1, by simp [zpad]; omega, fun i v hv hu => ?_⟩
  unfold zpad at hv
  by_cases hi : i < (zargs av).length
  · rw [List.getElem?_append_left hi] at hv
    have h4 := h2 i v hv hu
    rw [List.getElem?_toArray, List.getElem?_append_left (by omega)]
    exact h4
  · rw [List.getElem?_append_right (by omega)] at hv
    rw [List.getElem?_replicate] at hv
    split at hv
    · exact absurd (Option.some.inj hv).symm hu
    · cases hv
theorem zpu_map (b : Nat) (v : Option Value) (r : List Value) : (zpu v r).map (shV b) = (v.map (shV b)).toList ++ r.map (shV b) := by cases v <;> rfl
theorem zgood {ws : List Jvm.Cond} (h : ∀ w ∈ ws, w ∈ zt_w0) : GoodIn zt_w0 ws := fun w hw => ⟨h w hw, good_of_word (List.mem_filter.mp (h w hw)).2⟩
theorem zN_onT {w : Jvm.Cond} (h : w ∈ zt_w1) : w.onTables = true := by
  have h1 := (List.mem_filter.mp h).2
  cases w <;> first | rfl | cases h1
theorem zN_warm {w : Jvm.Cond} (h : w ∈ zt_w1) {s U : State} (hW : s.WarmedH U.vm) (hz : va_Nw w s) : va_Nw w U := by
  have h1 := (List.mem_filter.mp h).2
  cases w <;> first | exact va_Nw.warmM hW hz | cases h1
theorem zPc_blind (b : Nat) (D : va_G) (cI cZ cR : Nat) (h : List zE) (av : List Value) : FrameBlind (zPc b D cI cZ cR h av) := by
  intro a U g mk q
  obtain ⟨q0, q1, q2, q3, q4, q5⟩ := q
  exact ⟨q0, q1, va_K.moved (u := U) (U := U.calling g mk a) (Vm.Alike.refl U.vm) q2, fun w hw => va_Nw.same (zN_onT hw) (u := U) (U := U.calling g mk a) rfl (q3 w hw), va_AO.moved (u := U) (U := U.calling g mk a) (Vm.Alike.refl U.vm) q4, q5⟩
theorem zok_M {mi : Nat} (hmi : mi < 190) : plainName (zy mi).cls = true ∧ ((zy mi).cls ≠ "java/lang/invoke/MethodHandle" ∧ (zy mi).cls ≠ "java/lang/invoke/VarHandle") ∧
    Jvm.Cond.code (zy mi) (zbs mi) (zml mi) (zrt mi) ∈ zt_w0 ∧ Jvm.Cond.initialized (zy mi).cls ∈ zt_w0 ∧ (parseMethodDescriptor (zy mi).desc).map (fun d => d.parameters.length) = some (bif zsta mi then znp mi else znp mi - 1) ∧
    (zsta mi = true → Jvm.Cond.static (zy mi) ∈ zt_w0) ∧ (zsta mi = false → Jvm.Cond.instanceMethod (zy mi) ∈ zt_w0 ∧ 1 ≤ znp mi ∧ zmc mi < 9 ∧ (zcd (zmc mi)).1 = (zy mi).cls ∧ (¬ (zy mi).name = "<init>" → Jvm.Cond.selects (zy mi).cls (zy mi) (zy mi) ∈ zt_w0)) ∧
    (zrk mi = 0 → zrt mi = none) ∧ (zrk mi = 1 → zrt mi = some .int) ∧ (zrk mi = 2 → zrt mi = some .boolean) ∧ (zrk mi = 3 → zrt mi = some .long) ∧ (zrk mi = 4 → ∃ C, zrt mi = some (.object C)) := by
  have h2 := zok hmi
  simp only [zokA, zokM, Bool.and_eq_true, decide_eq_true_eq] at h2
  obtain ⟨⟨⟨⟨⟨⟨⟨⟨h1, h3⟩, h4⟩, h5⟩, h6⟩, h7⟩, h8⟩, h9⟩, -⟩ := h2
  refine ⟨h1, ⟨h3, h4⟩, zwd_mem h5, zwd_mem h6, h7, fun hs => ?_, fun hs => ?_, ?_⟩
  · rw [hs] at h8
    exact zwd_mem h8
  · rw [hs] at h8
    simp only [cond_false, Bool.and_eq_true, decide_eq_true_eq, Nat.ble_eq, Bool.or_eq_true] at h8
    obtain ⟨⟨⟨⟨g1, g2⟩, g3⟩, g4⟩, g5⟩ := h8
    exact ⟨zwd_mem g1, g2, g3, g4, fun hn => zwd_mem (g5.resolve_left hn)⟩
  · split at h9 <;> first | (cases h9; done) | (simp_all; done) | (have h10 := Nat.eq_of_beq_eq_true h9; simp_all)
section ZC
variable {p : Program} {lN : Launch} {e : Env} {R : Room} {s : State} {m : MethodId} {args : Array Value} {below : List Frame} {meth : Method} {c : Code} {Q : State → Prop} {D : va_G} {cI cZ cR b cells slots mi : Nat}
theorem zcallW {mc ms pc : Nat} {ls : Array Slot} {st0 rest : List Value} {a : Array Value} {H : Heap} {locs : List Loc} {v1 : Option Value} {h1 : List zE}
    (hr : va_Run p lN e R s m args below meth c H locs cells slots mc ms (F0 m pc ls st0) rest (zQ b D cI cZ cR v1 h1 a) (fun q => b ≤ q)) (hS : va_S (fun q : Nat => b ≤ q) s.heap H locs)
    (k : ∀ (H1 : Heap) (locs1 : List Loc), va_P D zt_cl (zW b cI cZ cR h1) H1 → va_S (fun q : Nat => b ≤ q) s.heap H1 locs1 → W p lN e R s m args below meth c H1 locs1 (cells + mc) (slots + ms) Q (F0 m (pc + 3) ls ((v1.map (shV b)).toList ++ rest))) :
    W p lN e R s m args below meth c H locs cells slots Q (F0 m pc ls st0) := by
  intro T hT X
  obtain ⟨v, st₀, t, T', L, h0, X', hL, e1, e2, ⟨hv, hP1, hz, hk⟩, st⟩ := hr T hT X
  cases hv
  rw [h0] at hz hk
  obtain ⟨t2, a1, b1⟩ := k T'.heap (locs ++ L) (by rw [e1]; exact hP1)
    ⟨Nat.le_trans hS.1 (by rw [e1]; exact hz), fun q h1 h2 => by rw [e1, hk q (Nat.lt_of_lt_of_le h1 hS.1) h2]; exact hS.2.1 q h1 h2, fun q hq => by
      rcases List.mem_append.mp hq with h | h
      · exact hS.2.2 q h
      · exact hL q h⟩ T' rfl X'
  exact ⟨t2, st t2 a1, b1⟩
theorem zsize {H : Heap} {locs : List Loc} {h : List zE} (hP : va_P D zt_cl (zW b cI cZ cR h) H) (hS : va_S (fun q : Nat => b ≤ q) s.heap H locs) (heq : s.heap.size + cells = b + h.length) (hbs : b ≤ s.heap.size) (hsz : H.size ≤ s.heap.size + cells) : b + h.length = H.size := by
  have h1 := hS.1
  rcases Nat.eq_zero_or_pos h.length with h0 | h0
  · omega
  · have h2 := (hP _ _ (zW_get (List.getElem?_eq_getElem (show h.length - 1 < h.length by omega)))).lt
    simp only at h2
    omega
end ZC
/-- what a run tells of the machine -/
def zSnd (lN : Launch) (n : Nat) : Prop := ∀ (mi : Nat), mi < 190 → ∀ (h : List zE) (pc : Nat) (l st : List Value) (v : Option Value) (h' : List zE), zrun n mi h pc l st = some (v, h') →
  ∀ {p : Program} {e : Env} {R : Room} {s : State} {m : MethodId} {args : Array Value} {below : List Frame} {meth : Method} {c : Code} {D : va_G} {cI cZ cR b : Nat}, zX p s m args meth c D cI cZ cR b mi → meth.sig.returnType = zrt mi → meth.locks = false → zfr mi ≤ R.frames → zlo mi ≤ R.locals →
  ∀ cells slots : Nat, s.heap.size + cells = b + h.length → cells + (h'.length - h.length) ≤ R.cells → slots + (zsz h' - zsz h) ≤ R.slots →
  zGo p lN e R s m args below meth c (MQ below (zQ b D cI cZ cR v h') args s (cells + (h'.length - h.length)) (slots + (zsz h' - zsz h)) (fun q => b ≤ q)) D cI cZ cR b (zml mi) cells slots h pc l st
theorem zmet {lN : Launch} {n : Nat} (ih : zSnd lN n) {a : Nat} (ha : a < 190) {h h1 : List zE} {av : List Value} {v1 : Option Value} (hc : zrun n a h 0 (zent a av) [] = some (v1, h1)) (hn : (zargs av).length ≤ zml a) (D : va_G) (cI cZ cR b : Nat) :
    Met lN (zy a) (zws a) { frames := zfr a, cells := h1.length - h.length, slots := zsz h1 - zsz h, locals := zlo a } (zPc b D cI cZ cR h av) (zQ b D cI cZ cR v1 h1) (h1.length - h.length) (zsz h1 - zsz h) (fun q => b ≤ q) := by
  obtain ⟨hpl, -⟩ := zok_M ha
  refine Met.ofW (cc := zbs a) (maxL := zml a) (ret := zrt a) hpl rfl ?_
  intro p e s m args below meth c s₁ B hml hv
  obtain ⟨rfl, hP, hK, hnw, hao, hsz⟩ := hv
  have hts := atoms_spec (ws := zws a) B.pre
  obtain ⟨ls, he, hl⟩ := zent_LH (b := b) hn
  rw [he]
  have X : zX p s m (av.map (shV b)).toArray meth c D cI cZ cR b a := ⟨B.exec, B.bytes, hml, findClass_of_methodNamed B.named, fun w hw => hts w (List.mem_cons_of_mem _ hw), hnw, hao, hK, by omega, (name_of_methodNamed B.named B.method).1⟩
  have k := ih a ha h 0 (zent a av) [] v1 h1 hc (e := e) (R := (headSpec (zws a) { frames := zfr a, cells := h1.length - h.length, slots := zsz h1 - zsz h, locals := zlo a }).room) (below := below) X B.returns B.notSynchronized (Nat.le_refl _) (Nat.le_refl _) 0 0 (by omega) (by show 0 + _ ≤ _; rw [Nat.zero_add]; exact Nat.le_refl _) (by show 0 + _ ≤ _; rw [Nat.zero_add]; exact Nat.le_refl _) s.heap [] ls hP va_S.rf hl
  rw [Nat.zero_add, Nat.zero_add] at k
  exact k
end
section
set_option maxHeartbeats 4000000 in
theorem zrun_sound (lN : Launch) : ∀ n : Nat, zSnd lN n
  | 0 => fun mi hmi h pc l st v h' hz => by simp [zrun] at hz
  | n + 1 => by
    have ih := zrun_sound lN n
    intro mi hmi h pc l st v h' hz p e R s m args below meth c D cI cZ cR b X hrt hlk hfr hlo cells slots heq hcells hslots
    have hmono := zrun_mono _ _ _ _ _ _ _ _ hz
    simp only [zrun] at hz
    split at hz
    · cases hz
    rename_i i ln a bb w hcode
    obtain ⟨hdg, hln, hok⟩ := zcode_ok hmi hcode
    split at hz
    · rename_i hkd
      split at hz
      · cases hz
      rename_i h1 pc1 l1 st1 hs
      have hm1 := zrun_mono _ _ _ _ _ _ _ _ hz
      rcases zst_mono hs with ⟨g1, g2⟩ | ⟨g1, g2, -⟩
      · refine zstep X hdg hln hok hkd hfr hlo (by omega) (by omega) hs g1 ?_
        have k := ih mi hmi h1 pc1 l1 st1 v h' hz X hrt hlk hfr hlo (e := e) (below := below) cells slots (by omega) (by omega) (by omega)
        rw [g1, g2] at k
        exact k
      · refine znew X hdg hln hok hs g1 heq (by omega) (by omega) ?_
        have k := ih mi hmi h1 pc1 l1 st1 v h' hz X hrt hlk hfr hlo (e := e) (below := below) (cells + 1) (slots + (zsz h1 - zsz h)) (by omega) (by omega) (by omega)
        rw [show cells + 1 + (h'.length - h1.length) = cells + (h'.length - h.length) by omega, show slots + (zsz h1 - zsz h) + (zsz h' - zsz h1) = slots + (zsz h' - zsz h) by omega] at k
        exact k
    · rename_i hkd
      split at hz
      · rename_i hcan
        split at hz
        · cases hz
        rename_i v1 h1 hc
        have hm1 := zrun_mono _ _ _ _ _ _ _ _ hc
        have hm2 := zrun_mono _ _ _ _ _ _ _ _ hz
        simp only [zcan, Bool.and_eq_true, Nat.ble_eq] at hcan
        obtain ⟨⟨⟨hk1, hcat⟩, hal⟩, hrecv⟩ := hcan
        have k := ih mi hmi h1 (pc + 3) l (zpu v1 (st.drop (znp a))) v h' hz X hrt hlk hfr hlo (e := e) (below := below) (cells + (h1.length - h.length)) (slots + (zsz h1 - zsz h)) (by omega) (by omega) (by omega)
        rw [show cells + (h1.length - h.length) + (h'.length - h1.length) = cells + (h'.length - h.length) by omega, show slots + (zsz h1 - zsz h) + (zsz h' - zsz h1) = slots + (zsz h' - zsz h) by omega] at k
        have X0 := X
        obtain ⟨hx, hb, hml, hown, hts, hnw, hao, hK, hbs, hnm⟩ := X0
        intro H locs ls hP hS hl
        refine zW_size (fun hsz => ?_)
        have hsz2 := zsize hP hS heq hbs hsz
        generalize hav : (st.take (znp a)).reverse = av at hc hal hrecv
        generalize hrs : st.drop (znp a) = rs at hcat k hz
        have hst : st = av.reverse ++ rs := by rw [← hav, ← hrs, List.reverse_reverse, List.take_append_drop]
        have hlav : av.length = znp a := by rw [← hav, List.length_reverse, List.length_take]; omega
        have hW8 : 2 * (F0 m pc ls (st.map (shV b))).monitorRoom + ((rs.map (shV b)).map fun v => v.category).sum ≤ 8 := lv_room (by rw [shV_cats]; exact hcat)
        have hPc : ∀ U : State, U.heap = H → s.WarmedH U.vm → zPc b D cI cZ cR h av (av.map (shV b)).toArray U := fun U hU hW => ⟨rfl, by rw [hU]; exact hP, va_K.moved hW.alike hK, fun w hw => zN_warm hw hW (hnw w hw), va_AO.moved hW.alike hao, by rw [hU]; exact hsz2⟩
        have kk : ∀ (H1 : Heap) (locs1 : List Loc), va_P D zt_cl (zW b cI cZ cR h1) H1 → va_S (fun q : Nat => b ≤ q) s.heap H1 locs1 → W p lN e R s m args below meth c H1 locs1 (cells + (h1.length - h.length)) (slots + (zsz h1 - zsz h)) (MQ below (zQ b D cI cZ cR v h') args s (cells + (h'.length - h.length)) (slots + (zsz h' - zsz h)) (fun q => b ≤ q)) (F0 m (pc + 3) ls ((v1.map (shV b)).toList ++ rs.map (shV b))) := fun H1 locs1 hP1 hS1 => by
          have k2 := k H1 locs1 ls hP1 hS1 hl
          rw [zpu_map] at k2
          exact k2
        have hln3 : ln = 3 := by
          cases i <;> simp only [zkd] at hkd <;> first | (cases hkd; done) | exact hln rfl
        subst hln3
        have fin : ∀ (ha : a < 190) (hfrr : zfr a + 1 ≤ zfr mi) (hloo : 8 + (zml a + 11) + zlo a ≤ zlo mi) (idx : Nat), zlnk mi idx a bb w = true →
            (zsta a = true ∧ i = .invokestatic idx) ∨ (zsta a = false ∧ ((i = .invokevirtual idx ∧ ¬ (zy a).name = "<init>") ∨ (i = .invokespecial idx ∧ (zy a).name = "<init>" ∧ zrt a = none))) →
            W p lN e R s m args below meth c H locs cells slots (MQ below (zQ b D cI cZ cR v h') args s (cells + (h'.length - h.length)) (slots + (zsz h' - zsz h)) (fun q => b ≤ q)) (F0 m pc ls (st.map (shV b))) := by
          intro ha hfrr hloo idx hlnk hkind
          obtain ⟨-, hnn, hcw, hiw, hpar, hsw, hvw, -⟩ := zok_M ha
          have hM := zmet ih ha hc hal D cI cZ cR b
          have hpar2 : ∀ sig, parseMethodDescriptor (zy a).desc = some sig → (bif zsta a then znp a else znp a - 1) = sig.parameters.length := fun sig hsig => by
            rw [hsig] at hpar
            exact (Option.some.inj hpar).symm
          have hG : GoodIn zt_w0 (zws a) := zgood (fun w hw => by
            rcases List.mem_cons.mp hw with rfl | hw
            · exact hcw
            · exact hw)
          have hB6 : (h1.length - h.length = h1.length - h.length ∧ zsz h1 - zsz h = zsz h1 - zsz h ∧ zfr a + 1 ≤ R.frames ∧ 8 + (zml a + 11) + zlo a ≤ R.locals ∧ (∀ w ∈ zws a, ∀ (a' : Array Value) (U : State), s.WarmedH U.vm → w.before a' U = true) ∧ Jvm.Cond.code (zy a) (zbs a) (zml a) (zrt a) ∈ zws a) :=
            ⟨rfl, rfl, by omega, by omega, pay_in hts hG, List.mem_cons_self⟩
          have hroom : cells + (h1.length - h.length) ≤ R.cells ∧ slots + (zsz h1 - zsz h) ≤ R.slots := ⟨by omega, by omega⟩
          have SF : CallFix p m c (zbs mi) (zml mi) s args zt_w0 (zy mi).cls := ⟨hx, hb, hml, hown, hts⟩
          rcases hkind with ⟨hs, rfl⟩ | ⟨hs, hkind⟩
          · -- static
            have hstk : (F0 m pc ls (st.map (shV b))).stack = (av.map (shV b)).reverse ++ rs.map (shV b) := by show st.map (shV b) = _; rw [hst, List.map_append, List.map_reverse]
            have hnA : (av.map (shV b)).length = (bif zsta a then znp a else znp a - 1) := by rw [List.length_map, hlav, hs]; rfl
            cases hb1 : Nat.beq bb 1
            · simp only [zlnk, hb1, cond_false] at hlnk
              exact zcallW (va_runS SF hM ⟨⟨hB6.1, hB6.2.1, hB6.2.2.1, hB6.2.2.2.1, hB6.2.2.2.2.1, hB6.2.2.2.2.2, hts _ hcw, hts _ hiw, hnn, hpar2, hts _ (zwd_mem hlnk)⟩, hts _ (hsw hs)⟩ ⟨zPc_blind b D cI cZ cR h _, hPc⟩ rfl hnA hl.1 hstk hW8 hdg hroom) hS kk
            · simp only [zlnk, hb1, cond_true] at hlnk
              exact zcallW (va_runSN SF hM ⟨⟨hB6, hts _ hcw, hts _ hiw, hnn, hpar2, va_Nw.use rfl (hnw _ (zwn_mem hlnk))⟩, hts _ (hsw hs), trivial⟩ ⟨zPc_blind b D cI cZ cR h _, hPc⟩ rfl hnA hl.1 hstk hW8 hdg hroom) hS kk
          · obtain ⟨hiw2, hnp, hmc, hmcn, hsel⟩ := hvw hs
            -- the receiver
            simp only [zrecv, hs, Bool.false_or] at hrecv
            split at hrecv
            · rename_i o t
              split at hrecv
              · rename_i ci fs hcell
                have hci := Nat.eq_of_beq_eq_true hrecv
                subst hci
                have hstk : (F0 m pc ls (st.map (shV b))).stack = (t.map (shV b)).reverse ++ .ref (b + o) :: rs.map (shV b) := by
                  show st.map (shV b) = _
                  rw [hst]
                  simp [shV]
                have hnA : (t.map (shV b)).length = (bif zsta a then znp a else znp a - 1) := by
                  rw [List.length_map, hs]
                  simp only [List.length_cons] at hlav
                  show t.length = znp a - 1
                  omega
                have hrv := va_recv (q0 := o) hK hP (zcd_get hmc) (zW_get hcell)
                rw [hmcn] at hrv
                rcases hkind with ⟨rfl, hni⟩ | ⟨rfl, hni, hno⟩
                · cases hb1 : Nat.beq bb 1
                  · simp only [zlnk, hb1, cond_false] at hlnk
                    exact zcallW (va_runV (As := t.map (shV b)) SF hM ⟨⟨hB6.1, hB6.2.1, hB6.2.2.1, hB6.2.2.2.1, hB6.2.2.2.2.1, hB6.2.2.2.2.2, hts _ hcw, hts _ hiw, hnn, hpar2, hts _ (zwd_mem hlnk)⟩, hts _ hiw2, hts _ (hsel hni)⟩ ⟨zPc_blind b D cI cZ cR h _, hrv, hPc⟩ rfl hnA hl.1 hstk hW8 hdg hroom) hS kk
                  · simp only [zlnk, hb1, cond_true] at hlnk
                    exact zcallW (va_runVN (As := t.map (shV b)) SF hM ⟨⟨hB6, hts _ hcw, hts _ hiw, hnn, hpar2, va_Nw.use rfl (hnw _ (zwn_mem hlnk))⟩, hts _ hiw2, hts _ (hsel hni)⟩ ⟨zPc_blind b D cI cZ cR h _, hrv, hPc⟩ rfl hnA hl.1 hstk hW8 hdg hroom) hS kk
                · unfold zws at hM hB6
                  rw [hno] at hM hB6 hcw
                  cases hb1 : Nat.beq bb 1
                  · simp only [zlnk, hb1, cond_false] at hlnk
                    exact zcallW (va_runI (As := t.map (shV b)) SF hM ⟨⟨hB6.1, hB6.2.1, hB6.2.2.1, hB6.2.2.2.1, hB6.2.2.2.2.1, hB6.2.2.2.2.2, hts _ hcw, hts _ hiw, hnn, hpar2, hts _ (zwd_mem hlnk)⟩, hni, hts _ hiw2⟩ ⟨zPc_blind b D cI cZ cR h _, hPc⟩ rfl hnA hl.1 hstk hW8 hdg hroom) hS kk
                  · simp only [zlnk, hb1, cond_true] at hlnk
                    exact zcallW (va_runIN (As := t.map (shV b)) SF hM ⟨⟨hB6, hts _ hcw, hts _ hiw, hnn, hpar2, va_Nw.use rfl (hnw _ (zwn_mem hlnk))⟩, hni, hts _ hiw2⟩ ⟨zPc_blind b D cI cZ cR h _, hPc⟩ rfl hnA hl.1 hstk hW8 hdg hroom) hS kk
              · cases hrecv
            · cases hrecv
        cases i with
        | invokestatic idx =>
          have hb3 : Nat.ble 3 bb = false := by
            simp only [zkd] at hkd
            cases hq : Nat.ble 3 bb
            · rfl
            · rw [hq] at hkd; cases hkd
          simp only [zokI, hb3, cond_false, Bool.and_eq_true, Nat.ble_eq] at hok
          exact fin (by omega) hok.1.1.2 hok.1.2 idx hok.2 (Or.inl ⟨hok.1.1.1.2, rfl⟩)
        | invokevirtual idx =>
          simp only [zokI, Bool.and_eq_true, Nat.ble_eq, decide_eq_true_eq, Bool.not_eq_true'] at hok
          exact fin (by omega) hok.1.1.2 hok.1.2 idx hok.2 (Or.inr ⟨hok.1.1.1.1.2, Or.inl ⟨rfl, hok.1.1.1.2⟩⟩)
        | invokespecial idx =>
          have hb2 : Nat.beq bb 2 = false := by
            simp only [zkd] at hkd
            cases hq : Nat.beq bb 2
            · rfl
            · rw [hq] at hkd; cases hkd
          simp only [zokI, hb2, cond_false, Bool.and_eq_true, Nat.ble_eq, decide_eq_true_eq, Bool.not_eq_true'] at hok
          exact fin (by omega) hok.1.1.2 hok.1.2 idx hok.2 (Or.inr ⟨hok.1.1.1.1.1.2, Or.inr ⟨rfl, hok.1.1.1.1.2, hok.1.1.1.2⟩⟩)
        | _ => simp [zkd] at hkd
      · cases hz
    · split at hz
      · cases hz
      rename_i v2 hend
      cases hz
      simp only [Nat.sub_self, Nat.add_zero]
      obtain ⟨hx, hb, hml, hown, hts, hnw, hao, hK, hbs, hnm⟩ := X
      intro H locs ls hP hS hl
      obtain ⟨-, -, -, -, -, -, -, hr0, hr1, hr2, hr3, hr4⟩ := zok_M hmi
      have hq : ∀ (o : Outcome), o = .returned (v.map (shV b)) → ∀ t : State, t.heap = H → s.WarmedH t.vm → zQ b D cI cZ cR v h args s o t := fun o ho t ht hW => ⟨ho, by rw [ht]; exact hP, hS.F ht⟩
      cases i with
      | ireturn =>
        obtain rfl := hln rfl
        simp only [zend] at hend
        split at hend
        · split at hend
          · rename_i x hcase
            cases hend
            rcases hcase with g | ⟨g, gx⟩
            · exact W.iret hx hb (hrt.trans (hr1 g)) (hq _ rfl) hS.2.2 hdg hlk
            · exact W.zret (ty := .boolean) hx hb (hrt.trans (hr2 g)) (by rcases gx with rfl | rfl <;> rfl) (hq _ rfl) hS.2.2 hdg hlk
          · cases hend
        · cases hend
      | lreturn =>
        obtain rfl := hln rfl
        simp only [zend] at hend
        split at hend
        · split at hend
          · rename_i x g
            cases hend
            exact W.lret hx hb (hrt.trans (hr3 g)) (hq _ rfl) hS.2.2 hdg hlk
          · cases hend
        · cases hend
      | areturn =>
        obtain rfl := hln rfl
        simp only [zend] at hend
        split at hend
        · split at hend
          · rename_i x g
            cases hend
            obtain ⟨C, hC⟩ := hr4 g
            exact W.aret hx hb (hrt.trans hC) (Or.inl ⟨C, rfl⟩) (Or.inr ⟨_, rfl⟩) (hq _ rfl) hS.2.2 hdg hlk
          · cases hend
        · split at hend
          · rename_i g
            cases hend
            obtain ⟨C, hC⟩ := hr4 g
            exact W.aret hx hb (hrt.trans hC) (Or.inl ⟨C, rfl⟩) (Or.inl rfl) (hq _ rfl) hS.2.2 hdg hlk
          · cases hend
        · cases hend
      | return_ =>
        obtain rfl := hln rfl
        simp only [zend] at hend
        split at hend
        · split at hend
          · rename_i g
            cases hend
            exact W.vret hx hb (hrt.trans (hr0 g)) (hq _ rfl) hS.2.2 hdg hlk
          · cases hend
        · cases hend
      | _ => simp [zend] at hend
end
section
/-! ===== the world behind the constructors: whole numbers by cell and place ===== -/
abbrev wM : Type := Nat → Int → Int
abbrev wC : Type := (Nat → Int64) × Nat × Nat
def iI (z : Int) : Int32 := Int32.ofInt z
def lI (z : Int) : Int64 := Int64.ofInt z
abbrev wR (z : Int) : Prop := -2147483648 ≤ z ∧ z < 2147483648
def wRM (M : wM) : Prop := ∀ a k, wR (M a k)
def wup (M : wM) (a : Nat) (k v : Int) : wM := fun b j => if b = a ∧ j = k then v else M b j
def wsh : List (Nat × Nat × List Nat) := [(3, 7, [3, 1000, 1001, 35, 38, 41, 86, 95, 99, 0, 1, 107]),
  (3, 3, [4, 2000, 2255, 0]),
  (0, 56, []),
  (3, 2, [6, 8, 10, 12, 14, 16, 18]),
  (3, 3, [7, 2001, 2009, 0]),
  (0, 4, []),
  (3, 3, [9, 2000, 2003, 0]),
  (0, 4, []),
  (3, 3, [11, 2001, 2004, 0]),
  (0, 4, []),
  (3, 3, [13, 2000, 2003, 0]),
  (0, 4, []),
  (3, 3, [15, 2001, 2009, 0]),
  (0, 6, []),
  (3, 3, [17, 2000, 2009, 0]),
  (0, 6, []),
  (3, 3, [19, 2000, 2003, 0]),
  (0, 6, []),
  (3, 2, [21, 23, 25, 27, 29, 31, 33]),
  (3, 3, [22, 2001, 2009, 0]),
  (0, 4, []),
  (3, 3, [24, 2000, 2003, 0]),
  (0, 4, []),
  (3, 3, [26, 2001, 2004, 0]),
  (0, 4, []),
  (3, 3, [28, 2000, 2003, 0]),
  (0, 4, []),
  (3, 3, [30, 2001, 2009, 0]),
  (0, 6, []),
  (3, 3, [32, 2000, 2009, 0]),
  (0, 6, []),
  (3, 3, [34, 2000, 2003, 0]),
  (0, 6, []),
  (3, 4, [0, 0, 0, 36]),
  (3, 3, [37, 2000, 2005, 0]),
  (0, 6, []),
  (3, 4, [0, 0, 0, 39]),
  (3, 3, [40, 2000, 2005, 0]),
  (0, 6, []),
  (3, 0, [42, 0, 0]),
  (3, 5, [43]),
  (2, 14, [42, 45, 48, 51, 54, 57, 60, 63, 66, 69, 72, 75, 78, 81]),
  (3, 4, [0, 0, 0, 45]),
  (3, 3, [46, 2000, 2005, 0]),
  (0, 6, []),
  (3, 4, [0, 0, 0, 48]),
  (3, 3, [49, 2000, 2005, 0]),
  (0, 6, []),
  (3, 4, [0, 0, 0, 51]),
  (3, 3, [52, 2000, 2005, 0]),
  (0, 6, []),
  (3, 4, [0, 0, 0, 54]),
  (3, 3, [55, 2000, 2005, 0]),
  (0, 6, []),
  (3, 4, [0, 0, 0, 57]),
  (3, 3, [58, 2000, 2005, 0]),
  (0, 6, []),
  (3, 4, [0, 0, 0, 60]),
  (3, 3, [61, 2000, 2005, 0]),
  (0, 6, []),
  (3, 4, [0, 0, 0, 63]),
  (3, 3, [64, 2000, 2005, 0]),
  (0, 6, []),
  (3, 4, [0, 0, 0, 66]),
  (3, 3, [67, 2000, 2005, 0]),
  (0, 6, []),
  (3, 4, [0, 0, 0, 69]),
  (3, 3, [70, 2000, 2005, 0]),
  (0, 6, []),
  (3, 4, [0, 0, 0, 72]),
  (3, 3, [73, 2000, 2005, 0]),
  (0, 6, []),
  (3, 4, [0, 0, 0, 75]),
  (3, 3, [76, 2000, 2005, 0]),
  (0, 6, []),
  (3, 4, [0, 0, 0, 78]),
  (3, 3, [79, 2000, 2005, 0]),
  (0, 6, []),
  (3, 4, [0, 0, 0, 81]),
  (3, 3, [82, 2000, 2005, 0]),
  (0, 6, []),
  (3, 4, [0, 0, 0, 84]),
  (3, 3, [85, 2000, 2005, 0]),
  (0, 6, []),
  (3, 6, [87, 89, 91, 93]),
  (3, 3, [88, 2000, 2005, 0]),
  (0, 6, []),
  (3, 3, [90, 2000, 2005, 0]),
  (0, 6, []),
  (3, 3, [92, 2001, 2004, 0]),
  (0, 6, []),
  (3, 3, [94, 2000, 2099, 0]),
  (0, 6, []),
  (3, 1, [96, 97, 98, 0, 0, 0]),
  (0, 256, []),
  (0, 256, []),
  (0, 64, []),
  (3, 5, [100]),
  (2, 2, [99, 102]),
  (3, 4, [0, 0, 0, 102]),
  (3, 3, [103, 2000, 2005, 0]),
  (0, 6, []),
  (3, 4, [0, 0, 0, 105]),
  (3, 3, [106, 2000, 2005, 0]),
  (0, 6, []),
  (0, 4, []),
  (3, 8, [0, 109, 0, 0, 0, 110, 0, 111, 0, 112, 0, 113, 0, 114, 0, 115, 116, 117, 118, 0, 119, 120, 0, 121, 122, 123, 124, 1, 125, 126, 0, 0, 0, 0, 0, 0, 0, 0, 0, 127, 128]),
  (0, 56, []),
  (0, 8, []),
  (0, 8, []),
  (0, 18, []),
  (0, 8, []),
  (0, 8, []),
  (0, 18, []),
  (0, 10, []),
  (0, 10, []),
  (0, 140, []),
  (0, 20, []),
  (1, 2, []),
  (0, 6, []),
  (0, 6, []),
  (0, 6, []),
  (0, 6, []),
  (0, 8, []),
  (0, 8, []),
  (0, 8, []),
  (0, 64, [])]
def wv (x : wC) (M : wM) (a k c : Nat) : Value :=
  if c = 0 then .int (iI (M a k)) else if c = 1 then .long (x.1 a) else if c = 1000 then .ref x.2.1 else if c = 1001 then .ref x.2.2 else if 2000 ≤ c then .int (iI ((c - 2000 : Nat) : Int)) else .ref (c - 2)
def wE (x : wC) (M : wM) (a : Nat) (s : Nat × Nat × List Nat) : zE := match s.1 with
  | 0 => .inl (0, s.2.1, fun k => iI (M a k))
  | 1 => .inl (1, s.2.1, fun k => iI (M a k))
  | 2 => .inr (.inl (s.2.1, fun k => s.2.2[k]?))
  | _ => .inr (.inr (s.2.1, s.2.2.mapIdx (wv x M a)))
def wW (x : wC) (M : wM) : List zE := wsh.mapIdx (wE x M)
/-- the kind of a field: of the object at a, of class ci, the k-th -/
def wch (a ci k : Nat) : Nat := match wsh[a]? with
  | some (3, c, s) => if c = ci then s.getD k 9999 else 9999
  | _ => 9999
/-- an array: of ints 0, of booleans 1; how long -/
def war (a : Nat) : Nat × Nat := match wsh[a]? with
  | some (0, n, _) => (0, n)
  | some (1, n, _) => (1, n)
  | _ => (9, 0)
def wcl (a : Nat) : Nat := match wsh[a]? with
  | some (3, c, _) => c
  | _ => 9999
theorem wup_s (M : wM) (a : Nat) (k v : Int) : wup M a k v a k = v := by simp [wup]
theorem wup_n (M : wM) {a b : Nat} {k j : Int} (v : Int) (h : ¬ (b = a ∧ j = k)) : wup M a k v b j = M b j := by simp [wup, h]
theorem wup_a (M : wM) {a b : Nat} (k v : Int) (j : Int) (h : b ≠ a) : wup M a k v b j = M b j := by simp [wup, h]
theorem wup_k (M : wM) {a : Nat} {k j : Int} (v : Int) (h : j ≠ k) : wup M a k v a j = M a j := by simp [wup, h]
theorem wRM_up {M : wM} (h : wRM M) (a : Nat) (k : Int) {v : Int} (hv : wR v) : wRM (wup M a k v) := by
  intro b j
  unfold wup
  split
  · exact hv
  · exact h b j
theorem wW_get (x : wC) (M : wM) {a : Nat} {s : Nat × Nat × List Nat} (h : wsh[a]? = some s) : (wW x M)[a]? = some (wE x M a s) := by
  simp [wW, List.getElem?_mapIdx, h]
theorem wch_get (x : wC) (M : wM) {a ci k c : Nat} (h : wch a ci k = c) (hc : c < 9999) : ∃ s : List Nat, wsh[a]? = some (3, ci, s) ∧ (wW x M)[a]? = some (.inr (.inr (ci, s.mapIdx (wv x M a)))) ∧ (s.mapIdx (wv x M a))[k]? = some (wv x M a k c) ∧ s[k]? = some c := by
  unfold wch at h
  split at h
  · rename_i c2 s hs
    split at h
    · rename_i he
      subst he
      refine ⟨s, hs, wW_get x M hs, ?_, ?_⟩
      all_goals
        rw [List.getD_eq_getElem?_getD] at h
        cases hk : s[k]? with
        | none => rw [hk] at h; simp at h; omega
        | some c3 =>
          rw [hk] at h
          simp only [Option.getD_some] at h
          subst h
          first | rfl | simp [List.getElem?_mapIdx, hk]
    · omega
  · omega
theorem wE_off (x : wC) {M M' : wM} {a : Nat} (s : Nat × Nat × List Nat) (h : ∀ k, M' a k = M a k) : wE x M' a s = wE x M a s := by
  have e : M' a = M a := funext h
  have e2 : wv x M' a = wv x M a := by funext k c; simp only [wv, e]
  unfold wE
  simp only [e, e2]
/-- one int field is put -/
theorem wW_put (x : wC) (M : wM) {a ci k : Nat} {s : List Nat} (hs : wsh[a]? = some (3, ci, s)) (hk : s[k]? = some 0) (v : Int) :
    (wW x M).set a (.inr (.inr (ci, (s.mapIdx (wv x M a)).set k (.int (iI v))))) = wW x (wup M a k v) := by
  apply List.ext_getElem?
  intro j
  simp only [wW, List.getElem?_set, List.getElem?_mapIdx, List.length_mapIdx]
  by_cases hj : a = j
  · subst hj
    have hl := (List.getElem?_eq_some_iff.mp hs).1
    simp only [hs, hl, if_true, Option.map_some, wE, Option.some.injEq, Sum.inr.injEq, Prod.mk.injEq, true_and]
    apply List.ext_getElem?
    intro i
    simp only [List.getElem?_set, List.getElem?_mapIdx, List.length_mapIdx]
    by_cases hi : k = i
    · subst hi
      have hl2 := (List.getElem?_eq_some_iff.mp hk).1
      have hk2 : s[k] = 0 := (List.getElem?_eq_some_iff.mp hk).2
      simp [hl2, hk2, wv, wup]
    · simp only [hi, if_false]
      congr 1
      funext c
      have h2 : ¬ ((i : Int) = (k : Int)) := by omega
      simp [wv, wup, h2]
  · simp only [hj, if_false]
    congr 1
    funext q
    exact (wE_off x q (fun i => wup_a M k v i (fun e => hj e.symm))).symm
theorem war_get (x : wC) (M : wM) {a t n : Nat} (h : war a = (t, n)) (ht : t < 2) : ∃ s : List Nat, wsh[a]? = some (t, n, s) ∧ (wW x M)[a]? = some (.inl (t, n, fun k => iI (M a k))) := by
  unfold war at h
  split at h
  · rename_i n2 s hs
    cases h
    exact ⟨s, hs, wW_get x M hs⟩
  · rename_i n2 s hs
    cases h
    exact ⟨s, hs, wW_get x M hs⟩
  · cases h
    omega
/-- one place of an int array is stored -/
theorem wW_sto (x : wC) (M : wM) {a t n : Nat} {s : List Nat} (hs : wsh[a]? = some (t, n, s)) (ht : t < 2) (i : Nat) (v : Int) :
    (wW x M).set a (.inl (t, n, upd (fun k => iI (M a k)) i (iI v))) = wW x (wup M a i v) := by
  apply List.ext_getElem?
  intro j
  simp only [wW, List.getElem?_set, List.getElem?_mapIdx, List.length_mapIdx]
  by_cases hj : a = j
  · subst hj
    have hl := (List.getElem?_eq_some_iff.mp hs).1
    have e : (fun k : Nat => iI (wup M a i v a k)) = upd (fun k => iI (M a k)) i (iI v) := by
      funext k
      by_cases hk : k = i
      · subst hk
        simp [upd, wup]
      · have h2 : ¬ ((k : Int) = (i : Int)) := by omega
        simp [upd, wup, hk, h2]
    simp only [hs, hl, if_true, Option.map_some, Option.some.injEq]
    rcases (show t = 0 ∨ t = 1 by omega) with rfl | rfl
    · show _ = Sum.inl (0, n, fun k : Nat => iI (wup M a i v a k))
      rw [e]
    · show _ = Sum.inl (1, n, fun k : Nat => iI (wup M a i v a k))
      rw [e]
  · simp only [hj, if_false]
    congr 1
    funext q
    exact (wE_off x q (fun k => wup_a M i v k (fun e => hj e.symm))).symm
/-! whole numbers -/
theorem iI_ti {z : Int} (h : wR z) : (iI z).toInt = z := by
  unfold iI
  rw [Int32.toInt_ofInt]
  exact Int.bmod_eq_of_le (by show -((4294967296 : Int) / 2) ≤ z; omega) (by show z < ((4294967296 : Int) + 1) / 2; omega)
theorem iI_of (v : Int32) : v = iI v.toInt := by simp [iI]
theorem wR_of (v : Int32) : wR v.toInt := ⟨by have := Int32.minValue_le_toInt v; simpa using this, by have := Int32.toInt_lt v; simpa using this⟩
theorem iI_add (x y : Int) : iI x + iI y = iI (x + y) := by simp [iI, Int32.ofInt_add]
theorem iI_sub (x y : Int) : iI x - iI y = iI (x - y) := by simp [iI, Int32.ofInt_sub]
theorem iI_mul (x y : Int) : iI x * iI y = iI (x * y) := by simp [iI, Int32.ofInt_mul]
theorem iI_neg (x : Int) : -iI x = iI (-x) := by simp [iI, Int32.ofInt_neg]
theorem iI_lt {x y : Int} (hx : wR x) (hy : wR y) : iI x < iI y ↔ x < y := by rw [Int32.lt_iff_toInt_lt, iI_ti hx, iI_ti hy]
theorem iI_le {x y : Int} (hx : wR x) (hy : wR y) : iI x ≤ iI y ↔ x ≤ y := by rw [Int32.le_iff_toInt_le, iI_ti hx, iI_ti hy]
theorem iI_eq {x y : Int} (hx : wR x) (hy : wR y) : iI x = iI y ↔ x = y := by rw [← Int32.toInt_inj, iI_ti hx, iI_ti hy]
theorem iI_nat (n : Nat) : iI (n : Int) = nI n := by simp [iI, nI, Int32.ofInt_eq_ofNat]
theorem iI_clamp {x : Int} (h0 : 0 ≤ x) (h : wR x) : (iI x).toNatClampNeg = x.toNat := by
  have := iI_ti h
  simp [Int32.toNatClampNeg, this]
theorem iI_zin {x : Int} {n : Nat} (h0 : 0 ≤ x) (h1 : x < n) (h : wR x) : zin (iI x) n = true := by
  simp [zin, iI_ti h, h0, h1]
end
section
theorem za_bits : ∀ a b : Nat, nI a ||| nI b = nI (a ||| b) ∧ nI a &&& nI b = nI (a &&& b) ∧ nI a ^^^ nI b = nI (a ^^^ b) := by
  intro a b
  refine ⟨?_, ?_, ?_⟩ <;> apply Int32.toBitVec_inj.1
  · show BitVec.ofNat 32 a ||| BitVec.ofNat 32 b = BitVec.ofNat 32 (a ||| b)
    apply BitVec.eq_of_getLsbD_eq
    intro i hi
    simp [BitVec.getLsbD_ofNat, hi]
  · show BitVec.ofNat 32 a &&& BitVec.ofNat 32 b = BitVec.ofNat 32 (a &&& b)
    apply BitVec.eq_of_getLsbD_eq
    intro i hi
    simp [BitVec.getLsbD_ofNat, hi]
  · show BitVec.ofNat 32 a ^^^ BitVec.ofNat 32 b = BitVec.ofNat 32 (a ^^^ b)
    apply BitVec.eq_of_getLsbD_eq
    intro i hi
    simp [BitVec.getLsbD_ofNat, hi]
/-! ===== the rules: from a place in a method to its end ===== -/
theorem zrun_up : ∀ (n k mi : Nat) (h : List zE) (pc : Nat) (l st : List Value) (r : Option Value × List zE), zrun n mi h pc l st = some r → zrun (n + k) mi h pc l st = some r
  | 0, k, mi, h, pc, l, st, r, hz => by simp [zrun] at hz
  | n + 1, k, mi, h, pc, l, st, r, hz => by
    rw [show n + 1 + k = (n + k) + 1 by omega]
    simp only [zrun] at hz ⊢
    split at hz
    · cases hz
    · rename_i i ln a b w hc
      split at hz
      · rename_i hk
        split at hz
        · cases hz
        · exact zrun_up n k _ _ _ _ _ _ hz
      · rename_i hk
        split at hz
        · rename_i hcan
          split at hz
          · cases hz
          · rename_i v h1 hcall
            rw [if_pos hcan, zrun_up n k _ _ _ _ _ _ hcall]
            exact zrun_up n k _ _ _ _ _ _ hz
        · cases hz
      · exact hz
def yG (x : wC) (M : wM) (mi pc : Nat) (l st : List Value) (Q : Option Value → wC → wM → Prop) : Prop :=
  wRM M → ∃ (n : Nat) (v : Option Value) (x' : wC) (M' : wM), zrun n mi (wW x M) pc l st = some (v, wW x' M') ∧ wRM M' ∧ Q v x' M'
section Y
variable {x : wC} {M : wM} {mi pc : Nat} {l st : List Value} {Q : Option Value → wC → wM → Prop} {i : Instr} {ln a b w : Nat}
theorem y_rng (k : wRM M → yG x M mi pc l st Q) : yG x M mi pc l st Q := fun h => k h h
theorem y_st {x' : wC} {M' : wM} {pc' : Nat} {l' st' : List Value} (hc : zcode mi pc = some (i, ln, a, b, w)) (hk : zkd i b = 0) (hs : zst i a b pc (wW x M) l st = some (wW x' M', pc', l', st')) (hr : wRM M → wRM M')
    (k : yG x' M' mi pc' l' st' Q) : yG x M mi pc l st Q := by
  intro hM
  obtain ⟨n, v, x2, M2, h1, h2, h3⟩ := k (hr hM)
  exact ⟨n + 1, v, x2, M2, by simp only [zrun, hc, hk, hs, h1], h2, h3⟩
theorem y_call (hc : zcode mi pc = some (i, ln, a, b, w)) (hk : zkd i b = 1) (hcan : zcan a (wW x M) st = true)
    (k : yG x M a 0 (zent a (st.take (znp a)).reverse) [] (fun v x' M' => yG x' M' mi (pc + 3) l (zpu v (st.drop (znp a))) Q)) : yG x M mi pc l st Q := by
  intro hM
  obtain ⟨n1, v1, x1, M1, h1, hM1, h2⟩ := k hM
  obtain ⟨n2, v2, x2, M2, h3, hM2, h4⟩ := h2 hM1
  refine ⟨n1 + n2 + 1, v2, x2, M2, ?_, hM2, h4⟩
  have g1 := zrun_up n1 n2 _ _ _ _ _ _ h1
  have g2 := zrun_up n2 n1 _ _ _ _ _ _ h3
  rw [Nat.add_comm n2 n1] at g2
  simp only [zrun, hc, hk, hcan, if_true, g1, g2]
theorem y_end {v : Option Value} (hc : zcode mi pc = some (i, ln, a, b, w)) (hk : zkd i b = 2) (he : zend mi i st = some v) (k : Q v x M) : yG x M mi pc l st Q := by
  intro hM
  exact ⟨1, v, x, M, by simp only [zrun, hc, hk, he], hM, k⟩
/-! instruction by instruction -/
theorem y_ret {v : Int} (hc : zcode mi pc = some (.ireturn, ln, a, b, w)) (hr : zrk mi = 1) (k : Q (some (.int (iI v))) x M) : yG x M mi pc l [.int (iI v)] Q :=
  y_end hc rfl (by simp [zend, hr]) k
theorem y_zret {v : Int} (hc : zcode mi pc = some (.ireturn, ln, a, b, w)) (hr : zrk mi = 2) (hv : v = 0 ∨ v = 1) (k : Q (some (.int (iI v))) x M) : yG x M mi pc l [.int (iI v)] Q :=
  y_end hc rfl (by rcases hv with rfl | rfl <;> (simp [zend, hr]; try decide)) k
theorem y_lret {v : Int64} (hc : zcode mi pc = some (.lreturn, ln, a, b, w)) (hr : zrk mi = 3) (k : Q (some (.long v)) x M) : yG x M mi pc l [.long v] Q :=
  y_end hc rfl (by simp [zend, hr]) k
theorem y_aret {v : Nat} (hc : zcode mi pc = some (.areturn, ln, a, b, w)) (hr : zrk mi = 4) (k : Q (some (.ref v)) x M) : yG x M mi pc l [.ref v] Q :=
  y_end hc rfl (by simp [zend, hr]) k
theorem y_nret (hc : zcode mi pc = some (.areturn, ln, a, b, w)) (hr : zrk mi = 4) (k : Q (some .null) x M) : yG x M mi pc l [.null] Q :=
  y_end hc rfl (by simp [zend, hr]) k
theorem y_vret (hc : zcode mi pc = some (.return_, ln, a, b, w)) (hr : zrk mi = 0) (k : Q none x M) : yG x M mi pc l [] Q :=
  y_end hc rfl (by simp [zend, hr]) k
theorem y_ic {n : Int} (hc : zcode mi pc = some (.iconst n, ln, a, b, w)) (k : yG x M mi (pc + 1) l (.int (iI n) :: st) Q) : yG x M mi pc l st Q :=
  y_st hc rfl rfl id k
theorem y_bi {n : Int} (hc : zcode mi pc = some (.bipush n, ln, a, b, w)) (hn : (Int8.ofInt n).toInt32 = iI n) (k : yG x M mi (pc + 2) l (.int (iI n) :: st) Q) : yG x M mi pc l st Q :=
  y_st hc rfl rfl id (by rw [hn]; exact k)
theorem y_si {n : Int} (hc : zcode mi pc = some (.sipush n, ln, a, b, w)) (hn : (Int16.ofInt n).toInt32 = iI n) (k : yG x M mi (pc + 3) l (.int (iI n) :: st) Q) : yG x M mi pc l st Q :=
  y_st hc rfl rfl id (by rw [hn]; exact k)
theorem y_lc {n : Fin 2} {z : Int} (hc : zcode mi pc = some (.lconst n, ln, a, b, w)) (hz : Int64.ofNat (n : Nat) = lI z) (k : yG x M mi (pc + 1) l (.long (lI z) :: st) Q) : yG x M mi pc l st Q :=
  y_st hc rfl rfl id (by rw [hz]; exact k)
theorem y_ldc {q : Nat} (hc : zcode mi pc = some (.ldc_w q, ln, a, b, w)) (k : yG x M mi (pc + 3) l (.int (iI (a : Int)) :: st) Q) : yG x M mi pc l st Q :=
  y_st hc rfl rfl id (by rw [show Int32.ofNat a = iI (a : Int) from (iI_nat a).symm]; exact k)
theorem lI_nat (n : Nat) : Int64.ofNat n = lI (n : Int) := by simp [lI, Int64.ofInt_eq_ofNat]
theorem y_ldc2 {q : Nat} (hc : zcode mi pc = some (.ldc2_w q, ln, a, b, w)) (k : yG x M mi (pc + 3) l (.long (lI (a : Int)) :: st) Q) : yG x M mi pc l st Q :=
  y_st hc rfl rfl id (by rw [lI_nat]; exact k)
theorem y_nul (hc : zcode mi pc = some (.aconst_null, ln, a, b, w)) (k : yG x M mi (pc + 1) l (.null :: st) Q) : yG x M mi pc l st Q :=
  y_st hc rfl rfl id k
theorem y_il0 {t : List Value} {z : Int32} (hc : zcode mi pc = some (.iload_n 0, ln, a, b, w)) (k : yG x M mi (pc + 1) (.int z :: t) (.int z :: st) Q) : yG x M mi pc (.int z :: t) st Q := y_st hc rfl rfl id k
theorem y_ll0 {t : List Value} {z : Int64} (hc : zcode mi pc = some (.lload_n 0, ln, a, b, w)) (k : yG x M mi (pc + 1) (.long z :: t) (.long z :: st) Q) : yG x M mi pc (.long z :: t) st Q := y_st hc rfl rfl id k
theorem y_al0 {t : List Value} {z : Nat} (hc : zcode mi pc = some (.aload_n 0, ln, a, b, w)) (k : yG x M mi (pc + 1) (.ref z :: t) (.ref z :: st) Q) : yG x M mi pc (.ref z :: t) st Q := y_st hc rfl rfl id k
theorem y_nl0 {t : List Value} (hc : zcode mi pc = some (.aload_n 0, ln, a, b, w)) (k : yG x M mi (pc + 1) (.null :: t) (.null :: st) Q) : yG x M mi pc (.null :: t) st Q := y_st hc rfl rfl id k
theorem y_is0 {t : List Value} {u : Value} {z : Int32} (hc : zcode mi pc = some (.istore_n 0, ln, a, b, w)) (k : yG x M mi (pc + 1) (.int z :: t) st Q) : yG x M mi pc (u :: t) (.int z :: st) Q := y_st hc rfl (by simp [zst, zsto1, show ((3 : Fin 4) : Nat) = 3 from rfl, zpre]) id k
theorem y_as0 {t : List Value} {u : Value} {z : Nat} (hc : zcode mi pc = some (.astore_n 0, ln, a, b, w)) (k : yG x M mi (pc + 1) (.ref z :: t) st Q) : yG x M mi pc (u :: t) (.ref z :: st) Q := y_st hc rfl (by simp [zst, zsto1, show ((3 : Fin 4) : Nat) = 3 from rfl, zpre]) id k
theorem y_ns0 {t : List Value} {u : Value} (hc : zcode mi pc = some (.astore_n 0, ln, a, b, w)) (k : yG x M mi (pc + 1) (.null :: t) st Q) : yG x M mi pc (u :: t) (.null :: st) Q := y_st hc rfl (by simp [zst, zsto1, show ((3 : Fin 4) : Nat) = 3 from rfl, zpre]) id k
theorem y_inc0 {t : List Value} {z n : Int} (hc : zcode mi pc = some (.iinc 0 n, ln, a, b, w)) (k : yG x M mi (pc + 3) (.int (iI (z + n)) :: t) st Q) : yG x M mi pc (.int (iI z) :: t) st Q := y_st hc rfl (by simp [zst, zsto1, zpre]; exact (iI_add z n)) id k
theorem y_il1 {v0 : Value} {t : List Value} {z : Int32} (hc : zcode mi pc = some (.iload_n 1, ln, a, b, w)) (k : yG x M mi (pc + 1) (v0 :: .int z :: t) (.int z :: st) Q) : yG x M mi pc (v0 :: .int z :: t) st Q := y_st hc rfl rfl id k
theorem y_ll1 {v0 : Value} {t : List Value} {z : Int64} (hc : zcode mi pc = some (.lload_n 1, ln, a, b, w)) (k : yG x M mi (pc + 1) (v0 :: .long z :: t) (.long z :: st) Q) : yG x M mi pc (v0 :: .long z :: t) st Q := y_st hc rfl rfl id k
theorem y_al1 {v0 : Value} {t : List Value} {z : Nat} (hc : zcode mi pc = some (.aload_n 1, ln, a, b, w)) (k : yG x M mi (pc + 1) (v0 :: .ref z :: t) (.ref z :: st) Q) : yG x M mi pc (v0 :: .ref z :: t) st Q := y_st hc rfl rfl id k
theorem y_nl1 {v0 : Value} {t : List Value} (hc : zcode mi pc = some (.aload_n 1, ln, a, b, w)) (k : yG x M mi (pc + 1) (v0 :: .null :: t) (.null :: st) Q) : yG x M mi pc (v0 :: .null :: t) st Q := y_st hc rfl rfl id k
theorem y_is1 {v0 : Value} {t : List Value} {u : Value} {z : Int32} (hc : zcode mi pc = some (.istore_n 1, ln, a, b, w)) (hp : zpre (v0 :: u :: t) 1 = true) (k : yG x M mi (pc + 1) (v0 :: .int z :: t) st Q) : yG x M mi pc (v0 :: u :: t) (.int z :: st) Q := y_st hc rfl (by simp [zst, zsto1, show ((3 : Fin 4) : Nat) = 3 from rfl, hp]) id k
theorem y_as1 {v0 : Value} {t : List Value} {u : Value} {z : Nat} (hc : zcode mi pc = some (.astore_n 1, ln, a, b, w)) (hp : zpre (v0 :: u :: t) 1 = true) (k : yG x M mi (pc + 1) (v0 :: .ref z :: t) st Q) : yG x M mi pc (v0 :: u :: t) (.ref z :: st) Q := y_st hc rfl (by simp [zst, zsto1, show ((3 : Fin 4) : Nat) = 3 from rfl, hp]) id k
theorem y_ns1 {v0 : Value} {t : List Value} {u : Value} (hc : zcode mi pc = some (.astore_n 1, ln, a, b, w)) (hp : zpre (v0 :: u :: t) 1 = true) (k : yG x M mi (pc + 1) (v0 :: .null :: t) st Q) : yG x M mi pc (v0 :: u :: t) (.null :: st) Q := y_st hc rfl (by simp [zst, zsto1, show ((3 : Fin 4) : Nat) = 3 from rfl, hp]) id k
theorem y_inc1 {v0 : Value} {t : List Value} {z n : Int} (hc : zcode mi pc = some (.iinc 1 n, ln, a, b, w)) (hp : zpre (v0 :: .int (iI z) :: t) 1 = true) (k : yG x M mi (pc + 3) (v0 :: .int (iI (z + n)) :: t) st Q) : yG x M mi pc (v0 :: .int (iI z) :: t) st Q := y_st hc rfl (by simp [zst, zsto1, hp]; exact (iI_add z n)) id k
theorem y_il2 {v0 v1 : Value} {t : List Value} {z : Int32} (hc : zcode mi pc = some (.iload_n 2, ln, a, b, w)) (k : yG x M mi (pc + 1) (v0 :: v1 :: .int z :: t) (.int z :: st) Q) : yG x M mi pc (v0 :: v1 :: .int z :: t) st Q := y_st hc rfl rfl id k
theorem y_ll2 {v0 v1 : Value} {t : List Value} {z : Int64} (hc : zcode mi pc = some (.lload_n 2, ln, a, b, w)) (k : yG x M mi (pc + 1) (v0 :: v1 :: .long z :: t) (.long z :: st) Q) : yG x M mi pc (v0 :: v1 :: .long z :: t) st Q := y_st hc rfl rfl id k
theorem y_al2 {v0 v1 : Value} {t : List Value} {z : Nat} (hc : zcode mi pc = some (.aload_n 2, ln, a, b, w)) (k : yG x M mi (pc + 1) (v0 :: v1 :: .ref z :: t) (.ref z :: st) Q) : yG x M mi pc (v0 :: v1 :: .ref z :: t) st Q := y_st hc rfl rfl id k
theorem y_nl2 {v0 v1 : Value} {t : List Value} (hc : zcode mi pc = some (.aload_n 2, ln, a, b, w)) (k : yG x M mi (pc + 1) (v0 :: v1 :: .null :: t) (.null :: st) Q) : yG x M mi pc (v0 :: v1 :: .null :: t) st Q := y_st hc rfl rfl id k
theorem y_is2 {v0 v1 : Value} {t : List Value} {u : Value} {z : Int32} (hc : zcode mi pc = some (.istore_n 2, ln, a, b, w)) (hp : zpre (v0 :: v1 :: u :: t) 2 = true) (k : yG x M mi (pc + 1) (v0 :: v1 :: .int z :: t) st Q) : yG x M mi pc (v0 :: v1 :: u :: t) (.int z :: st) Q := y_st hc rfl (by simp [zst, zsto1, show ((3 : Fin 4) : Nat) = 3 from rfl, hp]) id k
theorem y_as2 {v0 v1 : Value} {t : List Value} {u : Value} {z : Nat} (hc : zcode mi pc = some (.astore_n 2, ln, a, b, w)) (hp : zpre (v0 :: v1 :: u :: t) 2 = true) (k : yG x M mi (pc + 1) (v0 :: v1 :: .ref z :: t) st Q) : yG x M mi pc (v0 :: v1 :: u :: t) (.ref z :: st) Q := y_st hc rfl (by simp [zst, zsto1, show ((3 : Fin 4) : Nat) = 3 from rfl, hp]) id k
theorem y_ns2 {v0 v1 : Value} {t : List Value} {u : Value} (hc : zcode mi pc = some (.astore_n 2, ln, a, b, w)) (hp : zpre (v0 :: v1 :: u :: t) 2 = true) (k : yG x M mi (pc + 1) (v0 :: v1 :: .null :: t) st Q) : yG x M mi pc (v0 :: v1 :: u :: t) (.null :: st) Q := y_st hc rfl (by simp [zst, zsto1, show ((3 : Fin 4) : Nat) = 3 from rfl, hp]) id k
theorem y_inc2 {v0 v1 : Value} {t : List Value} {z n : Int} (hc : zcode mi pc = some (.iinc 2 n, ln, a, b, w)) (hp : zpre (v0 :: v1 :: .int (iI z) :: t) 2 = true) (k : yG x M mi (pc + 3) (v0 :: v1 :: .int (iI (z + n)) :: t) st Q) : yG x M mi pc (v0 :: v1 :: .int (iI z) :: t) st Q := y_st hc rfl (by simp [zst, zsto1, hp]; exact (iI_add z n)) id k
theorem y_il3 {v0 v1 v2 : Value} {t : List Value} {z : Int32} (hc : zcode mi pc = some (.iload_n 3, ln, a, b, w)) (k : yG x M mi (pc + 1) (v0 :: v1 :: v2 :: .int z :: t) (.int z :: st) Q) : yG x M mi pc (v0 :: v1 :: v2 :: .int z :: t) st Q := y_st hc rfl rfl id k
theorem y_ll3 {v0 v1 v2 : Value} {t : List Value} {z : Int64} (hc : zcode mi pc = some (.lload_n 3, ln, a, b, w)) (k : yG x M mi (pc + 1) (v0 :: v1 :: v2 :: .long z :: t) (.long z :: st) Q) : yG x M mi pc (v0 :: v1 :: v2 :: .long z :: t) st Q := y_st hc rfl rfl id k
theorem y_al3 {v0 v1 v2 : Value} {t : List Value} {z : Nat} (hc : zcode mi pc = some (.aload_n 3, ln, a, b, w)) (k : yG x M mi (pc + 1) (v0 :: v1 :: v2 :: .ref z :: t) (.ref z :: st) Q) : yG x M mi pc (v0 :: v1 :: v2 :: .ref z :: t) st Q := y_st hc rfl rfl id k
theorem y_nl3 {v0 v1 v2 : Value} {t : List Value} (hc : zcode mi pc = some (.aload_n 3, ln, a, b, w)) (k : yG x M mi (pc + 1) (v0 :: v1 :: v2 :: .null :: t) (.null :: st) Q) : yG x M mi pc (v0 :: v1 :: v2 :: .null :: t) st Q := y_st hc rfl rfl id k
theorem y_is3 {v0 v1 v2 : Value} {t : List Value} {u : Value} {z : Int32} (hc : zcode mi pc = some (.istore_n 3, ln, a, b, w)) (hp : zpre (v0 :: v1 :: v2 :: u :: t) 3 = true) (k : yG x M mi (pc + 1) (v0 :: v1 :: v2 :: .int z :: t) st Q) : yG x M mi pc (v0 :: v1 :: v2 :: u :: t) (.int z :: st) Q := y_st hc rfl (by simp [zst, zsto1, show ((3 : Fin 4) : Nat) = 3 from rfl, hp]) id k
theorem y_as3 {v0 v1 v2 : Value} {t : List Value} {u : Value} {z : Nat} (hc : zcode mi pc = some (.astore_n 3, ln, a, b, w)) (hp : zpre (v0 :: v1 :: v2 :: u :: t) 3 = true) (k : yG x M mi (pc + 1) (v0 :: v1 :: v2 :: .ref z :: t) st Q) : yG x M mi pc (v0 :: v1 :: v2 :: u :: t) (.ref z :: st) Q := y_st hc rfl (by simp [zst, zsto1, show ((3 : Fin 4) : Nat) = 3 from rfl, hp]) id k
theorem y_ns3 {v0 v1 v2 : Value} {t : List Value} {u : Value} (hc : zcode mi pc = some (.astore_n 3, ln, a, b, w)) (hp : zpre (v0 :: v1 :: v2 :: u :: t) 3 = true) (k : yG x M mi (pc + 1) (v0 :: v1 :: v2 :: .null :: t) st Q) : yG x M mi pc (v0 :: v1 :: v2 :: u :: t) (.null :: st) Q := y_st hc rfl (by simp [zst, zsto1, show ((3 : Fin 4) : Nat) = 3 from rfl, hp]) id k
theorem y_inc3 {v0 v1 v2 : Value} {t : List Value} {z n : Int} (hc : zcode mi pc = some (.iinc 3 n, ln, a, b, w)) (hp : zpre (v0 :: v1 :: v2 :: .int (iI z) :: t) 3 = true) (k : yG x M mi (pc + 3) (v0 :: v1 :: v2 :: .int (iI (z + n)) :: t) st Q) : yG x M mi pc (v0 :: v1 :: v2 :: .int (iI z) :: t) st Q := y_st hc rfl (by simp [zst, zsto1, hp]; exact (iI_add z n)) id k
theorem y_il4 {v0 v1 v2 v3 : Value} {t : List Value} {z : Int32} (hc : zcode mi pc = some (.iload 4, ln, a, b, w)) (k : yG x M mi (pc + 2) (v0 :: v1 :: v2 :: v3 :: .int z :: t) (.int z :: st) Q) : yG x M mi pc (v0 :: v1 :: v2 :: v3 :: .int z :: t) st Q := y_st hc rfl rfl id k
theorem y_ll4 {v0 v1 v2 v3 : Value} {t : List Value} {z : Int64} (hc : zcode mi pc = some (.lload 4, ln, a, b, w)) (k : yG x M mi (pc + 2) (v0 :: v1 :: v2 :: v3 :: .long z :: t) (.long z :: st) Q) : yG x M mi pc (v0 :: v1 :: v2 :: v3 :: .long z :: t) st Q := y_st hc rfl rfl id k
theorem y_al4 {v0 v1 v2 v3 : Value} {t : List Value} {z : Nat} (hc : zcode mi pc = some (.aload 4, ln, a, b, w)) (k : yG x M mi (pc + 2) (v0 :: v1 :: v2 :: v3 :: .ref z :: t) (.ref z :: st) Q) : yG x M mi pc (v0 :: v1 :: v2 :: v3 :: .ref z :: t) st Q := y_st hc rfl rfl id k
theorem y_nl4 {v0 v1 v2 v3 : Value} {t : List Value} (hc : zcode mi pc = some (.aload 4, ln, a, b, w)) (k : yG x M mi (pc + 2) (v0 :: v1 :: v2 :: v3 :: .null :: t) (.null :: st) Q) : yG x M mi pc (v0 :: v1 :: v2 :: v3 :: .null :: t) st Q := y_st hc rfl rfl id k
theorem y_is4 {v0 v1 v2 v3 : Value} {t : List Value} {u : Value} {z : Int32} (hc : zcode mi pc = some (.istore 4, ln, a, b, w)) (hp : zpre (v0 :: v1 :: v2 :: v3 :: u :: t) 4 = true) (k : yG x M mi (pc + 2) (v0 :: v1 :: v2 :: v3 :: .int z :: t) st Q) : yG x M mi pc (v0 :: v1 :: v2 :: v3 :: u :: t) (.int z :: st) Q := y_st hc rfl (by simp [zst, zsto1, show ((3 : Fin 4) : Nat) = 3 from rfl, hp]) id k
theorem y_as4 {v0 v1 v2 v3 : Value} {t : List Value} {u : Value} {z : Nat} (hc : zcode mi pc = some (.astore 4, ln, a, b, w)) (hp : zpre (v0 :: v1 :: v2 :: v3 :: u :: t) 4 = true) (k : yG x M mi (pc + 2) (v0 :: v1 :: v2 :: v3 :: .ref z :: t) st Q) : yG x M mi pc (v0 :: v1 :: v2 :: v3 :: u :: t) (.ref z :: st) Q := y_st hc rfl (by simp [zst, zsto1, show ((3 : Fin 4) : Nat) = 3 from rfl, hp]) id k
theorem y_ns4 {v0 v1 v2 v3 : Value} {t : List Value} {u : Value} (hc : zcode mi pc = some (.astore 4, ln, a, b, w)) (hp : zpre (v0 :: v1 :: v2 :: v3 :: u :: t) 4 = true) (k : yG x M mi (pc + 2) (v0 :: v1 :: v2 :: v3 :: .null :: t) st Q) : yG x M mi pc (v0 :: v1 :: v2 :: v3 :: u :: t) (.null :: st) Q := y_st hc rfl (by simp [zst, zsto1, show ((3 : Fin 4) : Nat) = 3 from rfl, hp]) id k
theorem y_inc4 {v0 v1 v2 v3 : Value} {t : List Value} {z n : Int} (hc : zcode mi pc = some (.iinc 4 n, ln, a, b, w)) (hp : zpre (v0 :: v1 :: v2 :: v3 :: .int (iI z) :: t) 4 = true) (k : yG x M mi (pc + 3) (v0 :: v1 :: v2 :: v3 :: .int (iI (z + n)) :: t) st Q) : yG x M mi pc (v0 :: v1 :: v2 :: v3 :: .int (iI z) :: t) st Q := y_st hc rfl (by simp [zst, zsto1, hp]; exact (iI_add z n)) id k
theorem y_il5 {v0 v1 v2 v3 v4 : Value} {t : List Value} {z : Int32} (hc : zcode mi pc = some (.iload 5, ln, a, b, w)) (k : yG x M mi (pc + 2) (v0 :: v1 :: v2 :: v3 :: v4 :: .int z :: t) (.int z :: st) Q) : yG x M mi pc (v0 :: v1 :: v2 :: v3 :: v4 :: .int z :: t) st Q := y_st hc rfl rfl id k
theorem y_ll5 {v0 v1 v2 v3 v4 : Value} {t : List Value} {z : Int64} (hc : zcode mi pc = some (.lload 5, ln, a, b, w)) (k : yG x M mi (pc + 2) (v0 :: v1 :: v2 :: v3 :: v4 :: .long z :: t) (.long z :: st) Q) : yG x M mi pc (v0 :: v1 :: v2 :: v3 :: v4 :: .long z :: t) st Q := y_st hc rfl rfl id k
theorem y_al5 {v0 v1 v2 v3 v4 : Value} {t : List Value} {z : Nat} (hc : zcode mi pc = some (.aload 5, ln, a, b, w)) (k : yG x M mi (pc + 2) (v0 :: v1 :: v2 :: v3 :: v4 :: .ref z :: t) (.ref z :: st) Q) : yG x M mi pc (v0 :: v1 :: v2 :: v3 :: v4 :: .ref z :: t) st Q := y_st hc rfl rfl id k
theorem y_nl5 {v0 v1 v2 v3 v4 : Value} {t : List Value} (hc : zcode mi pc = some (.aload 5, ln, a, b, w)) (k : yG x M mi (pc + 2) (v0 :: v1 :: v2 :: v3 :: v4 :: .null :: t) (.null :: st) Q) : yG x M mi pc (v0 :: v1 :: v2 :: v3 :: v4 :: .null :: t) st Q := y_st hc rfl rfl id k
theorem y_is5 {v0 v1 v2 v3 v4 : Value} {t : List Value} {u : Value} {z : Int32} (hc : zcode mi pc = some (.istore 5, ln, a, b, w)) (hp : zpre (v0 :: v1 :: v2 :: v3 :: v4 :: u :: t) 5 = true) (k : yG x M mi (pc + 2) (v0 :: v1 :: v2 :: v3 :: v4 :: .int z :: t) st Q) : yG x M mi pc (v0 :: v1 :: v2 :: v3 :: v4 :: u :: t) (.int z :: st) Q := y_st hc rfl (by simp [zst, zsto1, show ((3 : Fin 4) : Nat) = 3 from rfl, hp]) id k
theorem y_as5 {v0 v1 v2 v3 v4 : Value} {t : List Value} {u : Value} {z : Nat} (hc : zcode mi pc = some (.astore 5, ln, a, b, w)) (hp : zpre (v0 :: v1 :: v2 :: v3 :: v4 :: u :: t) 5 = true) (k : yG x M mi (pc + 2) (v0 :: v1 :: v2 :: v3 :: v4 :: .ref z :: t) st Q) : yG x M mi pc (v0 :: v1 :: v2 :: v3 :: v4 :: u :: t) (.ref z :: st) Q := y_st hc rfl (by simp [zst, zsto1, show ((3 : Fin 4) : Nat) = 3 from rfl, hp]) id k
theorem y_ns5 {v0 v1 v2 v3 v4 : Value} {t : List Value} {u : Value} (hc : zcode mi pc = some (.astore 5, ln, a, b, w)) (hp : zpre (v0 :: v1 :: v2 :: v3 :: v4 :: u :: t) 5 = true) (k : yG x M mi (pc + 2) (v0 :: v1 :: v2 :: v3 :: v4 :: .null :: t) st Q) : yG x M mi pc (v0 :: v1 :: v2 :: v3 :: v4 :: u :: t) (.null :: st) Q := y_st hc rfl (by simp [zst, zsto1, show ((3 : Fin 4) : Nat) = 3 from rfl, hp]) id k
theorem y_inc5 {v0 v1 v2 v3 v4 : Value} {t : List Value} {z n : Int} (hc : zcode mi pc = some (.iinc 5 n, ln, a, b, w)) (hp : zpre (v0 :: v1 :: v2 :: v3 :: v4 :: .int (iI z) :: t) 5 = true) (k : yG x M mi (pc + 3) (v0 :: v1 :: v2 :: v3 :: v4 :: .int (iI (z + n)) :: t) st Q) : yG x M mi pc (v0 :: v1 :: v2 :: v3 :: v4 :: .int (iI z) :: t) st Q := y_st hc rfl (by simp [zst, zsto1, hp]; exact (iI_add z n)) id k
theorem y_il6 {v0 v1 v2 v3 v4 v5 : Value} {t : List Value} {z : Int32} (hc : zcode mi pc = some (.iload 6, ln, a, b, w)) (k : yG x M mi (pc + 2) (v0 :: v1 :: v2 :: v3 :: v4 :: v5 :: .int z :: t) (.int z :: st) Q) : yG x M mi pc (v0 :: v1 :: v2 :: v3 :: v4 :: v5 :: .int z :: t) st Q := y_st hc rfl rfl id k
theorem y_ll6 {v0 v1 v2 v3 v4 v5 : Value} {t : List Value} {z : Int64} (hc : zcode mi pc = some (.lload 6, ln, a, b, w)) (k : yG x M mi (pc + 2) (v0 :: v1 :: v2 :: v3 :: v4 :: v5 :: .long z :: t) (.long z :: st) Q) : yG x M mi pc (v0 :: v1 :: v2 :: v3 :: v4 :: v5 :: .long z :: t) st Q := y_st hc rfl rfl id k
theorem y_al6 {v0 v1 v2 v3 v4 v5 : Value} {t : List Value} {z : Nat} (hc : zcode mi pc = some (.aload 6, ln, a, b, w)) (k : yG x M mi (pc + 2) (v0 :: v1 :: v2 :: v3 :: v4 :: v5 :: .ref z :: t) (.ref z :: st) Q) : yG x M mi pc (v0 :: v1 :: v2 :: v3 :: v4 :: v5 :: .ref z :: t) st Q := y_st hc rfl rfl id k
theorem y_nl6 {v0 v1 v2 v3 v4 v5 : Value} {t : List Value} (hc : zcode mi pc = some (.aload 6, ln, a, b, w)) (k : yG x M mi (pc + 2) (v0 :: v1 :: v2 :: v3 :: v4 :: v5 :: .null :: t) (.null :: st) Q) : yG x M mi pc (v0 :: v1 :: v2 :: v3 :: v4 :: v5 :: .null :: t) st Q := y_st hc rfl rfl id k
theorem y_is6 {v0 v1 v2 v3 v4 v5 : Value} {t : List Value} {u : Value} {z : Int32} (hc : zcode mi pc = some (.istore 6, ln, a, b, w)) (hp : zpre (v0 :: v1 :: v2 :: v3 :: v4 :: v5 :: u :: t) 6 = true) (k : yG x M mi (pc + 2) (v0 :: v1 :: v2 :: v3 :: v4 :: v5 :: .int z :: t) st Q) : yG x M mi pc (v0 :: v1 :: v2 :: v3 :: v4 :: v5 :: u :: t) (.int z :: st) Q := y_st hc rfl (by simp [zst, zsto1, show ((3 : Fin 4) : Nat) = 3 from rfl, hp]) id k
theorem y_as6 {v0 v1 v2 v3 v4 v5 : Value} {t : List Value} {u : Value} {z : Nat} (hc : zcode mi pc = some (.astore 6, ln, a, b, w)) (hp : zpre (v0 :: v1 :: v2 :: v3 :: v4 :: v5 :: u :: t) 6 = true) (k : yG x M mi (pc + 2) (v0 :: v1 :: v2 :: v3 :: v4 :: v5 :: .ref z :: t) st Q) : yG x M mi pc (v0 :: v1 :: v2 :: v3 :: v4 :: v5 :: u :: t) (.ref z :: st) Q := y_st hc rfl (by simp [zst, zsto1, show ((3 : Fin 4) : Nat) = 3 from rfl, hp]) id k
theorem y_ns6 {v0 v1 v2 v3 v4 v5 : Value} {t : List Value} {u : Value} (hc : zcode mi pc = some (.astore 6, ln, a, b, w)) (hp : zpre (v0 :: v1 :: v2 :: v3 :: v4 :: v5 :: u :: t) 6 = true) (k : yG x M mi (pc + 2) (v0 :: v1 :: v2 :: v3 :: v4 :: v5 :: .null :: t) st Q) : yG x M mi pc (v0 :: v1 :: v2 :: v3 :: v4 :: v5 :: u :: t) (.null :: st) Q := y_st hc rfl (by simp [zst, zsto1, show ((3 : Fin 4) : Nat) = 3 from rfl, hp]) id k
theorem y_inc6 {v0 v1 v2 v3 v4 v5 : Value} {t : List Value} {z n : Int} (hc : zcode mi pc = some (.iinc 6 n, ln, a, b, w)) (hp : zpre (v0 :: v1 :: v2 :: v3 :: v4 :: v5 :: .int (iI z) :: t) 6 = true) (k : yG x M mi (pc + 3) (v0 :: v1 :: v2 :: v3 :: v4 :: v5 :: .int (iI (z + n)) :: t) st Q) : yG x M mi pc (v0 :: v1 :: v2 :: v3 :: v4 :: v5 :: .int (iI z) :: t) st Q := y_st hc rfl (by simp [zst, zsto1, hp]; exact (iI_add z n)) id k
theorem y_il7 {v0 v1 v2 v3 v4 v5 v6 : Value} {t : List Value} {z : Int32} (hc : zcode mi pc = some (.iload 7, ln, a, b, w)) (k : yG x M mi (pc + 2) (v0 :: v1 :: v2 :: v3 :: v4 :: v5 :: v6 :: .int z :: t) (.int z :: st) Q) : yG x M mi pc (v0 :: v1 :: v2 :: v3 :: v4 :: v5 :: v6 :: .int z :: t) st Q := y_st hc rfl rfl id k
theorem y_ll7 {v0 v1 v2 v3 v4 v5 v6 : Value} {t : List Value} {z : Int64} (hc : zcode mi pc = some (.lload 7, ln, a, b, w)) (k : yG x M mi (pc + 2) (v0 :: v1 :: v2 :: v3 :: v4 :: v5 :: v6 :: .long z :: t) (.long z :: st) Q) : yG x M mi pc (v0 :: v1 :: v2 :: v3 :: v4 :: v5 :: v6 :: .long z :: t) st Q := y_st hc rfl rfl id k
theorem y_al7 {v0 v1 v2 v3 v4 v5 v6 : Value} {t : List Value} {z : Nat} (hc : zcode mi pc = some (.aload 7, ln, a, b, w)) (k : yG x M mi (pc + 2) (v0 :: v1 :: v2 :: v3 :: v4 :: v5 :: v6 :: .ref z :: t) (.ref z :: st) Q) : yG x M mi pc (v0 :: v1 :: v2 :: v3 :: v4 :: v5 :: v6 :: .ref z :: t) st Q := y_st hc rfl rfl id k
theorem y_nl7 {v0 v1 v2 v3 v4 v5 v6 : Value} {t : List Value} (hc : zcode mi pc = some (.aload 7, ln, a, b, w)) (k : yG x M mi (pc + 2) (v0 :: v1 :: v2 :: v3 :: v4 :: v5 :: v6 :: .null :: t) (.null :: st) Q) : yG x M mi pc (v0 :: v1 :: v2 :: v3 :: v4 :: v5 :: v6 :: .null :: t) st Q := y_st hc rfl rfl id k
theorem y_is7 {v0 v1 v2 v3 v4 v5 v6 : Value} {t : List Value} {u : Value} {z : Int32} (hc : zcode mi pc = some (.istore 7, ln, a, b, w)) (hp : zpre (v0 :: v1 :: v2 :: v3 :: v4 :: v5 :: v6 :: u :: t) 7 = true) (k : yG x M mi (pc + 2) (v0 :: v1 :: v2 :: v3 :: v4 :: v5 :: v6 :: .int z :: t) st Q) : yG x M mi pc (v0 :: v1 :: v2 :: v3 :: v4 :: v5 :: v6 :: u :: t) (.int z :: st) Q := y_st hc rfl (by simp [zst, zsto1, show ((3 : Fin 4) : Nat) = 3 from rfl, hp]) id k
theorem y_as7 {v0 v1 v2 v3 v4 v5 v6 : Value} {t : List Value} {u : Value} {z : Nat} (hc : zcode mi pc = some (.astore 7, ln, a, b, w)) (hp : zpre (v0 :: v1 :: v2 :: v3 :: v4 :: v5 :: v6 :: u :: t) 7 = true) (k : yG x M mi (pc + 2) (v0 :: v1 :: v2 :: v3 :: v4 :: v5 :: v6 :: .ref z :: t) st Q) : yG x M mi pc (v0 :: v1 :: v2 :: v3 :: v4 :: v5 :: v6 :: u :: t) (.ref z :: st) Q := y_st hc rfl (by simp [zst, zsto1, show ((3 : Fin 4) : Nat) = 3 from rfl, hp]) id k
theorem y_ns7 {v0 v1 v2 v3 v4 v5 v6 : Value} {t : List Value} {u : Value} (hc : zcode mi pc = some (.astore 7, ln, a, b, w)) (hp : zpre (v0 :: v1 :: v2 :: v3 :: v4 :: v5 :: v6 :: u :: t) 7 = true) (k : yG x M mi (pc + 2) (v0 :: v1 :: v2 :: v3 :: v4 :: v5 :: v6 :: .null :: t) st Q) : yG x M mi pc (v0 :: v1 :: v2 :: v3 :: v4 :: v5 :: v6 :: u :: t) (.null :: st) Q := y_st hc rfl (by simp [zst, zsto1, show ((3 : Fin 4) : Nat) = 3 from rfl, hp]) id k
theorem y_inc7 {v0 v1 v2 v3 v4 v5 v6 : Value} {t : List Value} {z n : Int} (hc : zcode mi pc = some (.iinc 7 n, ln, a, b, w)) (hp : zpre (v0 :: v1 :: v2 :: v3 :: v4 :: v5 :: v6 :: .int (iI z) :: t) 7 = true) (k : yG x M mi (pc + 3) (v0 :: v1 :: v2 :: v3 :: v4 :: v5 :: v6 :: .int (iI (z + n)) :: t) st Q) : yG x M mi pc (v0 :: v1 :: v2 :: v3 :: v4 :: v5 :: v6 :: .int (iI z) :: t) st Q := y_st hc rfl (by simp [zst, zsto1, hp]; exact (iI_add z n)) id k
theorem y_il8 {v0 v1 v2 v3 v4 v5 v6 v7 : Value} {t : List Value} {z : Int32} (hc : zcode mi pc = some (.iload 8, ln, a, b, w)) (k : yG x M mi (pc + 2) (v0 :: v1 :: v2 :: v3 :: v4 :: v5 :: v6 :: v7 :: .int z :: t) (.int z :: st) Q) : yG x M mi pc (v0 :: v1 :: v2 :: v3 :: v4 :: v5 :: v6 :: v7 :: .int z :: t) st Q := y_st hc rfl rfl id k
theorem y_ll8 {v0 v1 v2 v3 v4 v5 v6 v7 : Value} {t : List Value} {z : Int64} (hc : zcode mi pc = some (.lload 8, ln, a, b, w)) (k : yG x M mi (pc + 2) (v0 :: v1 :: v2 :: v3 :: v4 :: v5 :: v6 :: v7 :: .long z :: t) (.long z :: st) Q) : yG x M mi pc (v0 :: v1 :: v2 :: v3 :: v4 :: v5 :: v6 :: v7 :: .long z :: t) st Q := y_st hc rfl rfl id k
theorem y_al8 {v0 v1 v2 v3 v4 v5 v6 v7 : Value} {t : List Value} {z : Nat} (hc : zcode mi pc = some (.aload 8, ln, a, b, w)) (k : yG x M mi (pc + 2) (v0 :: v1 :: v2 :: v3 :: v4 :: v5 :: v6 :: v7 :: .ref z :: t) (.ref z :: st) Q) : yG x M mi pc (v0 :: v1 :: v2 :: v3 :: v4 :: v5 :: v6 :: v7 :: .ref z :: t) st Q := y_st hc rfl rfl id k
theorem y_nl8 {v0 v1 v2 v3 v4 v5 v6 v7 : Value} {t : List Value} (hc : zcode mi pc = some (.aload 8, ln, a, b, w)) (k : yG x M mi (pc + 2) (v0 :: v1 :: v2 :: v3 :: v4 :: v5 :: v6 :: v7 :: .null :: t) (.null :: st) Q) : yG x M mi pc (v0 :: v1 :: v2 :: v3 :: v4 :: v5 :: v6 :: v7 :: .null :: t) st Q := y_st hc rfl rfl id k
theorem y_is8 {v0 v1 v2 v3 v4 v5 v6 v7 : Value} {t : List Value} {u : Value} {z : Int32} (hc : zcode mi pc = some (.istore 8, ln, a, b, w)) (hp : zpre (v0 :: v1 :: v2 :: v3 :: v4 :: v5 :: v6 :: v7 :: u :: t) 8 = true) (k : yG x M mi (pc + 2) (v0 :: v1 :: v2 :: v3 :: v4 :: v5 :: v6 :: v7 :: .int z :: t) st Q) : yG x M mi pc (v0 :: v1 :: v2 :: v3 :: v4 :: v5 :: v6 :: v7 :: u :: t) (.int z :: st) Q := y_st hc rfl (by simp [zst, zsto1, show ((3 : Fin 4) : Nat) = 3 from rfl, hp]) id k
theorem y_as8 {v0 v1 v2 v3 v4 v5 v6 v7 : Value} {t : List Value} {u : Value} {z : Nat} (hc : zcode mi pc = some (.astore 8, ln, a, b, w)) (hp : zpre (v0 :: v1 :: v2 :: v3 :: v4 :: v5 :: v6 :: v7 :: u :: t) 8 = true) (k : yG x M mi (pc + 2) (v0 :: v1 :: v2 :: v3 :: v4 :: v5 :: v6 :: v7 :: .ref z :: t) st Q) : yG x M mi pc (v0 :: v1 :: v2 :: v3 :: v4 :: v5 :: v6 :: v7 :: u :: t) (.ref z :: st) Q := y_st hc rfl (by simp [zst, zsto1, show ((3 : Fin 4) : Nat) = 3 from rfl, hp]) id k
theorem y_ns8 {v0 v1 v2 v3 v4 v5 v6 v7 : Value} {t : List Value} {u : Value} (hc : zcode mi pc = some (.astore 8, ln, a, b, w)) (hp : zpre (v0 :: v1 :: v2 :: v3 :: v4 :: v5 :: v6 :: v7 :: u :: t) 8 = true) (k : yG x M mi (pc + 2) (v0 :: v1 :: v2 :: v3 :: v4 :: v5 :: v6 :: v7 :: .null :: t) st Q) : yG x M mi pc (v0 :: v1 :: v2 :: v3 :: v4 :: v5 :: v6 :: v7 :: u :: t) (.null :: st) Q := y_st hc rfl (by simp [zst, zsto1, show ((3 : Fin 4) : Nat) = 3 from rfl, hp]) id k
theorem y_inc8 {v0 v1 v2 v3 v4 v5 v6 v7 : Value} {t : List Value} {z n : Int} (hc : zcode mi pc = some (.iinc 8 n, ln, a, b, w)) (hp : zpre (v0 :: v1 :: v2 :: v3 :: v4 :: v5 :: v6 :: v7 :: .int (iI z) :: t) 8 = true) (k : yG x M mi (pc + 3) (v0 :: v1 :: v2 :: v3 :: v4 :: v5 :: v6 :: v7 :: .int (iI (z + n)) :: t) st Q) : yG x M mi pc (v0 :: v1 :: v2 :: v3 :: v4 :: v5 :: v6 :: v7 :: .int (iI z) :: t) st Q := y_st hc rfl (by simp [zst, zsto1, hp]; exact (iI_add z n)) id k
theorem y_il9 {v0 v1 v2 v3 v4 v5 v6 v7 v8 : Value} {t : List Value} {z : Int32} (hc : zcode mi pc = some (.iload 9, ln, a, b, w)) (k : yG x M mi (pc + 2) (v0 :: v1 :: v2 :: v3 :: v4 :: v5 :: v6 :: v7 :: v8 :: .int z :: t) (.int z :: st) Q) : yG x M mi pc (v0 :: v1 :: v2 :: v3 :: v4 :: v5 :: v6 :: v7 :: v8 :: .int z :: t) st Q := y_st hc rfl rfl id k
theorem y_ll9 {v0 v1 v2 v3 v4 v5 v6 v7 v8 : Value} {t : List Value} {z : Int64} (hc : zcode mi pc = some (.lload 9, ln, a, b, w)) (k : yG x M mi (pc + 2) (v0 :: v1 :: v2 :: v3 :: v4 :: v5 :: v6 :: v7 :: v8 :: .long z :: t) (.long z :: st) Q) : yG x M mi pc (v0 :: v1 :: v2 :: v3 :: v4 :: v5 :: v6 :: v7 :: v8 :: .long z :: t) st Q := y_st hc rfl rfl id k
theorem y_al9 {v0 v1 v2 v3 v4 v5 v6 v7 v8 : Value} {t : List Value} {z : Nat} (hc : zcode mi pc = some (.aload 9, ln, a, b, w)) (k : yG x M mi (pc + 2) (v0 :: v1 :: v2 :: v3 :: v4 :: v5 :: v6 :: v7 :: v8 :: .ref z :: t) (.ref z :: st) Q) : yG x M mi pc (v0 :: v1 :: v2 :: v3 :: v4 :: v5 :: v6 :: v7 :: v8 :: .ref z :: t) st Q := y_st hc rfl rfl id k
theorem y_nl9 {v0 v1 v2 v3 v4 v5 v6 v7 v8 : Value} {t : List Value} (hc : zcode mi pc = some (.aload 9, ln, a, b, w)) (k : yG x M mi (pc + 2) (v0 :: v1 :: v2 :: v3 :: v4 :: v5 :: v6 :: v7 :: v8 :: .null :: t) (.null :: st) Q) : yG x M mi pc (v0 :: v1 :: v2 :: v3 :: v4 :: v5 :: v6 :: v7 :: v8 :: .null :: t) st Q := y_st hc rfl rfl id k
theorem y_is9 {v0 v1 v2 v3 v4 v5 v6 v7 v8 : Value} {t : List Value} {u : Value} {z : Int32} (hc : zcode mi pc = some (.istore 9, ln, a, b, w)) (hp : zpre (v0 :: v1 :: v2 :: v3 :: v4 :: v5 :: v6 :: v7 :: v8 :: u :: t) 9 = true) (k : yG x M mi (pc + 2) (v0 :: v1 :: v2 :: v3 :: v4 :: v5 :: v6 :: v7 :: v8 :: .int z :: t) st Q) : yG x M mi pc (v0 :: v1 :: v2 :: v3 :: v4 :: v5 :: v6 :: v7 :: v8 :: u :: t) (.int z :: st) Q := y_st hc rfl (by simp [zst, zsto1, show ((3 : Fin 4) : Nat) = 3 from rfl, hp]) id k
theorem y_as9 {v0 v1 v2 v3 v4 v5 v6 v7 v8 : Value} {t : List Value} {u : Value} {z : Nat} (hc : zcode mi pc = some (.astore 9, ln, a, b, w)) (hp : zpre (v0 :: v1 :: v2 :: v3 :: v4 :: v5 :: v6 :: v7 :: v8 :: u :: t) 9 = true) (k : yG x M mi (pc + 2) (v0 :: v1 :: v2 :: v3 :: v4 :: v5 :: v6 :: v7 :: v8 :: .ref z :: t) st Q) : yG x M mi pc (v0 :: v1 :: v2 :: v3 :: v4 :: v5 :: v6 :: v7 :: v8 :: u :: t) (.ref z :: st) Q := y_st hc rfl (by simp [zst, zsto1, show ((3 : Fin 4) : Nat) = 3 from rfl, hp]) id k
theorem y_ns9 {v0 v1 v2 v3 v4 v5 v6 v7 v8 : Value} {t : List Value} {u : Value} (hc : zcode mi pc = some (.astore 9, ln, a, b, w)) (hp : zpre (v0 :: v1 :: v2 :: v3 :: v4 :: v5 :: v6 :: v7 :: v8 :: u :: t) 9 = true) (k : yG x M mi (pc + 2) (v0 :: v1 :: v2 :: v3 :: v4 :: v5 :: v6 :: v7 :: v8 :: .null :: t) st Q) : yG x M mi pc (v0 :: v1 :: v2 :: v3 :: v4 :: v5 :: v6 :: v7 :: v8 :: u :: t) (.null :: st) Q := y_st hc rfl (by simp [zst, zsto1, show ((3 : Fin 4) : Nat) = 3 from rfl, hp]) id k
theorem y_inc9 {v0 v1 v2 v3 v4 v5 v6 v7 v8 : Value} {t : List Value} {z n : Int} (hc : zcode mi pc = some (.iinc 9 n, ln, a, b, w)) (hp : zpre (v0 :: v1 :: v2 :: v3 :: v4 :: v5 :: v6 :: v7 :: v8 :: .int (iI z) :: t) 9 = true) (k : yG x M mi (pc + 3) (v0 :: v1 :: v2 :: v3 :: v4 :: v5 :: v6 :: v7 :: v8 :: .int (iI (z + n)) :: t) st Q) : yG x M mi pc (v0 :: v1 :: v2 :: v3 :: v4 :: v5 :: v6 :: v7 :: v8 :: .int (iI z) :: t) st Q := y_st hc rfl (by simp [zst, zsto1, hp]; exact (iI_add z n)) id k
theorem y_il10 {v0 v1 v2 v3 v4 v5 v6 v7 v8 v9 : Value} {t : List Value} {z : Int32} (hc : zcode mi pc = some (.iload 10, ln, a, b, w)) (k : yG x M mi (pc + 2) (v0 :: v1 :: v2 :: v3 :: v4 :: v5 :: v6 :: v7 :: v8 :: v9 :: .int z :: t) (.int z :: st) Q) : yG x M mi pc (v0 :: v1 :: v2 :: v3 :: v4 :: v5 :: v6 :: v7 :: v8 :: v9 :: .int z :: t) st Q := y_st hc rfl rfl id k
theorem y_ll10 {v0 v1 v2 v3 v4 v5 v6 v7 v8 v9 : Value} {t : List Value} {z : Int64} (hc : zcode mi pc = some (.lload 10, ln, a, b, w)) (k : yG x M mi (pc + 2) (v0 :: v1 :: v2 :: v3 :: v4 :: v5 :: v6 :: v7 :: v8 :: v9 :: .long z :: t) (.long z :: st) Q) : yG x M mi pc (v0 :: v1 :: v2 :: v3 :: v4 :: v5 :: v6 :: v7 :: v8 :: v9 :: .long z :: t) st Q := y_st hc rfl rfl id k
theorem y_al10 {v0 v1 v2 v3 v4 v5 v6 v7 v8 v9 : Value} {t : List Value} {z : Nat} (hc : zcode mi pc = some (.aload 10, ln, a, b, w)) (k : yG x M mi (pc + 2) (v0 :: v1 :: v2 :: v3 :: v4 :: v5 :: v6 :: v7 :: v8 :: v9 :: .ref z :: t) (.ref z :: st) Q) : yG x M mi pc (v0 :: v1 :: v2 :: v3 :: v4 :: v5 :: v6 :: v7 :: v8 :: v9 :: .ref z :: t) st Q := y_st hc rfl rfl id k
theorem y_nl10 {v0 v1 v2 v3 v4 v5 v6 v7 v8 v9 : Value} {t : List Value} (hc : zcode mi pc = some (.aload 10, ln, a, b, w)) (k : yG x M mi (pc + 2) (v0 :: v1 :: v2 :: v3 :: v4 :: v5 :: v6 :: v7 :: v8 :: v9 :: .null :: t) (.null :: st) Q) : yG x M mi pc (v0 :: v1 :: v2 :: v3 :: v4 :: v5 :: v6 :: v7 :: v8 :: v9 :: .null :: t) st Q := y_st hc rfl rfl id k
theorem y_is10 {v0 v1 v2 v3 v4 v5 v6 v7 v8 v9 : Value} {t : List Value} {u : Value} {z : Int32} (hc : zcode mi pc = some (.istore 10, ln, a, b, w)) (hp : zpre (v0 :: v1 :: v2 :: v3 :: v4 :: v5 :: v6 :: v7 :: v8 :: v9 :: u :: t) 10 = true) (k : yG x M mi (pc + 2) (v0 :: v1 :: v2 :: v3 :: v4 :: v5 :: v6 :: v7 :: v8 :: v9 :: .int z :: t) st Q) : yG x M mi pc (v0 :: v1 :: v2 :: v3 :: v4 :: v5 :: v6 :: v7 :: v8 :: v9 :: u :: t) (.int z :: st) Q := y_st hc rfl (by simp [zst, zsto1, show ((3 : Fin 4) : Nat) = 3 from rfl, hp]) id k
theorem y_as10 {v0 v1 v2 v3 v4 v5 v6 v7 v8 v9 : Value} {t : List Value} {u : Value} {z : Nat} (hc : zcode mi pc = some (.astore 10, ln, a, b, w)) (hp : zpre (v0 :: v1 :: v2 :: v3 :: v4 :: v5 :: v6 :: v7 :: v8 :: v9 :: u :: t) 10 = true) (k : yG x M mi (pc + 2) (v0 :: v1 :: v2 :: v3 :: v4 :: v5 :: v6 :: v7 :: v8 :: v9 :: .ref z :: t) st Q) : yG x M mi pc (v0 :: v1 :: v2 :: v3 :: v4 :: v5 :: v6 :: v7 :: v8 :: v9 :: u :: t) (.ref z :: st) Q := y_st hc rfl (by simp [zst, zsto1, show ((3 : Fin 4) : Nat) = 3 from rfl, hp]) id k
theorem y_ns10 {v0 v1 v2 v3 v4 v5 v6 v7 v8 v9 : Value} {t : List Value} {u : Value} (hc : zcode mi pc = some (.astore 10, ln, a, b, w)) (hp : zpre (v0 :: v1 :: v2 :: v3 :: v4 :: v5 :: v6 :: v7 :: v8 :: v9 :: u :: t) 10 = true) (k : yG x M mi (pc + 2) (v0 :: v1 :: v2 :: v3 :: v4 :: v5 :: v6 :: v7 :: v8 :: v9 :: .null :: t) st Q) : yG x M mi pc (v0 :: v1 :: v2 :: v3 :: v4 :: v5 :: v6 :: v7 :: v8 :: v9 :: u :: t) (.null :: st) Q := y_st hc rfl (by simp [zst, zsto1, show ((3 : Fin 4) : Nat) = 3 from rfl, hp]) id k
theorem y_inc10 {v0 v1 v2 v3 v4 v5 v6 v7 v8 v9 : Value} {t : List Value} {z n : Int} (hc : zcode mi pc = some (.iinc 10 n, ln, a, b, w)) (hp : zpre (v0 :: v1 :: v2 :: v3 :: v4 :: v5 :: v6 :: v7 :: v8 :: v9 :: .int (iI z) :: t) 10 = true) (k : yG x M mi (pc + 3) (v0 :: v1 :: v2 :: v3 :: v4 :: v5 :: v6 :: v7 :: v8 :: v9 :: .int (iI (z + n)) :: t) st Q) : yG x M mi pc (v0 :: v1 :: v2 :: v3 :: v4 :: v5 :: v6 :: v7 :: v8 :: v9 :: .int (iI z) :: t) st Q := y_st hc rfl (by simp [zst, zsto1, hp]; exact (iI_add z n)) id k
theorem y_il11 {v0 v1 v2 v3 v4 v5 v6 v7 v8 v9 v10 : Value} {t : List Value} {z : Int32} (hc : zcode mi pc = some (.iload 11, ln, a, b, w)) (k : yG x M mi (pc + 2) (v0 :: v1 :: v2 :: v3 :: v4 :: v5 :: v6 :: v7 :: v8 :: v9 :: v10 :: .int z :: t) (.int z :: st) Q) : yG x M mi pc (v0 :: v1 :: v2 :: v3 :: v4 :: v5 :: v6 :: v7 :: v8 :: v9 :: v10 :: .int z :: t) st Q := y_st hc rfl rfl id k
theorem y_ll11 {v0 v1 v2 v3 v4 v5 v6 v7 v8 v9 v10 : Value} {t : List Value} {z : Int64} (hc : zcode mi pc = some (.lload 11, ln, a, b, w)) (k : yG x M mi (pc + 2) (v0 :: v1 :: v2 :: v3 :: v4 :: v5 :: v6 :: v7 :: v8 :: v9 :: v10 :: .long z :: t) (.long z :: st) Q) : yG x M mi pc (v0 :: v1 :: v2 :: v3 :: v4 :: v5 :: v6 :: v7 :: v8 :: v9 :: v10 :: .long z :: t) st Q := y_st hc rfl rfl id k
theorem y_al11 {v0 v1 v2 v3 v4 v5 v6 v7 v8 v9 v10 : Value} {t : List Value} {z : Nat} (hc : zcode mi pc = some (.aload 11, ln, a, b, w)) (k : yG x M mi (pc + 2) (v0 :: v1 :: v2 :: v3 :: v4 :: v5 :: v6 :: v7 :: v8 :: v9 :: v10 :: .ref z :: t) (.ref z :: st) Q) : yG x M mi pc (v0 :: v1 :: v2 :: v3 :: v4 :: v5 :: v6 :: v7 :: v8 :: v9 :: v10 :: .ref z :: t) st Q := y_st hc rfl rfl id k
theorem y_nl11 {v0 v1 v2 v3 v4 v5 v6 v7 v8 v9 v10 : Value} {t : List Value} (hc : zcode mi pc = some (.aload 11, ln, a, b, w)) (k : yG x M mi (pc + 2) (v0 :: v1 :: v2 :: v3 :: v4 :: v5 :: v6 :: v7 :: v8 :: v9 :: v10 :: .null :: t) (.null :: st) Q) : yG x M mi pc (v0 :: v1 :: v2 :: v3 :: v4 :: v5 :: v6 :: v7 :: v8 :: v9 :: v10 :: .null :: t) st Q := y_st hc rfl rfl id k
theorem y_is11 {v0 v1 v2 v3 v4 v5 v6 v7 v8 v9 v10 : Value} {t : List Value} {u : Value} {z : Int32} (hc : zcode mi pc = some (.istore 11, ln, a, b, w)) (hp : zpre (v0 :: v1 :: v2 :: v3 :: v4 :: v5 :: v6 :: v7 :: v8 :: v9 :: v10 :: u :: t) 11 = true) (k : yG x M mi (pc + 2) (v0 :: v1 :: v2 :: v3 :: v4 :: v5 :: v6 :: v7 :: v8 :: v9 :: v10 :: .int z :: t) st Q) : yG x M mi pc (v0 :: v1 :: v2 :: v3 :: v4 :: v5 :: v6 :: v7 :: v8 :: v9 :: v10 :: u :: t) (.int z :: st) Q := y_st hc rfl (by simp [zst, zsto1, show ((3 : Fin 4) : Nat) = 3 from rfl, hp]) id k
theorem y_as11 {v0 v1 v2 v3 v4 v5 v6 v7 v8 v9 v10 : Value} {t : List Value} {u : Value} {z : Nat} (hc : zcode mi pc = some (.astore 11, ln, a, b, w)) (hp : zpre (v0 :: v1 :: v2 :: v3 :: v4 :: v5 :: v6 :: v7 :: v8 :: v9 :: v10 :: u :: t) 11 = true) (k : yG x M mi (pc + 2) (v0 :: v1 :: v2 :: v3 :: v4 :: v5 :: v6 :: v7 :: v8 :: v9 :: v10 :: .ref z :: t) st Q) : yG x M mi pc (v0 :: v1 :: v2 :: v3 :: v4 :: v5 :: v6 :: v7 :: v8 :: v9 :: v10 :: u :: t) (.ref z :: st) Q := y_st hc rfl (by simp [zst, zsto1, show ((3 : Fin 4) : Nat) = 3 from rfl, hp]) id k
theorem y_ns11 {v0 v1 v2 v3 v4 v5 v6 v7 v8 v9 v10 : Value} {t : List Value} {u : Value} (hc : zcode mi pc = some (.astore 11, ln, a, b, w)) (hp : zpre (v0 :: v1 :: v2 :: v3 :: v4 :: v5 :: v6 :: v7 :: v8 :: v9 :: v10 :: u :: t) 11 = true) (k : yG x M mi (pc + 2) (v0 :: v1 :: v2 :: v3 :: v4 :: v5 :: v6 :: v7 :: v8 :: v9 :: v10 :: .null :: t) st Q) : yG x M mi pc (v0 :: v1 :: v2 :: v3 :: v4 :: v5 :: v6 :: v7 :: v8 :: v9 :: v10 :: u :: t) (.null :: st) Q := y_st hc rfl (by simp [zst, zsto1, show ((3 : Fin 4) : Nat) = 3 from rfl, hp]) id k
theorem y_inc11 {v0 v1 v2 v3 v4 v5 v6 v7 v8 v9 v10 : Value} {t : List Value} {z n : Int} (hc : zcode mi pc = some (.iinc 11 n, ln, a, b, w)) (hp : zpre (v0 :: v1 :: v2 :: v3 :: v4 :: v5 :: v6 :: v7 :: v8 :: v9 :: v10 :: .int (iI z) :: t) 11 = true) (k : yG x M mi (pc + 3) (v0 :: v1 :: v2 :: v3 :: v4 :: v5 :: v6 :: v7 :: v8 :: v9 :: v10 :: .int (iI (z + n)) :: t) st Q) : yG x M mi pc (v0 :: v1 :: v2 :: v3 :: v4 :: v5 :: v6 :: v7 :: v8 :: v9 :: v10 :: .int (iI z) :: t) st Q := y_st hc rfl (by simp [zst, zsto1, hp]; exact (iI_add z n)) id k
theorem y_ls0 {t : List Value} {u u2 : Value} {z : Int64} (hc : zcode mi pc = some (.lstore_n 0, ln, a, b, w)) (k : yG x M mi (pc + 1) (.long z :: zU :: t) st Q) : yG x M mi pc (u :: u2 :: t) (.long z :: st) Q := y_st hc rfl (by simp [zst, zsto2, show ((3 : Fin 4) : Nat) = 3 from rfl, zpre]) id k
theorem y_ls1 {v0 : Value} {t : List Value} {u u2 : Value} {z : Int64} (hc : zcode mi pc = some (.lstore_n 1, ln, a, b, w)) (hp : zpre (v0 :: u :: u2 :: t) 1 = true) (k : yG x M mi (pc + 1) (v0 :: .long z :: zU :: t) st Q) : yG x M mi pc (v0 :: u :: u2 :: t) (.long z :: st) Q := y_st hc rfl (by simp [zst, zsto2, show ((3 : Fin 4) : Nat) = 3 from rfl, hp]) id k
theorem y_ls2 {v0 v1 : Value} {t : List Value} {u u2 : Value} {z : Int64} (hc : zcode mi pc = some (.lstore_n 2, ln, a, b, w)) (hp : zpre (v0 :: v1 :: u :: u2 :: t) 2 = true) (k : yG x M mi (pc + 1) (v0 :: v1 :: .long z :: zU :: t) st Q) : yG x M mi pc (v0 :: v1 :: u :: u2 :: t) (.long z :: st) Q := y_st hc rfl (by simp [zst, zsto2, show ((3 : Fin 4) : Nat) = 3 from rfl, hp]) id k
theorem y_ls3 {v0 v1 v2 : Value} {t : List Value} {u u2 : Value} {z : Int64} (hc : zcode mi pc = some (.lstore_n 3, ln, a, b, w)) (hp : zpre (v0 :: v1 :: v2 :: u :: u2 :: t) 3 = true) (k : yG x M mi (pc + 1) (v0 :: v1 :: v2 :: .long z :: zU :: t) st Q) : yG x M mi pc (v0 :: v1 :: v2 :: u :: u2 :: t) (.long z :: st) Q := y_st hc rfl (by simp [zst, zsto2, show ((3 : Fin 4) : Nat) = 3 from rfl, hp]) id k
theorem y_add {x1 x2 : Int} (hc : zcode mi pc = some (.iadd, ln, a, b, w)) (k : yG x M mi (pc + 1) l (.int (iI (x1 + x2)) :: st) Q) : yG x M mi pc l (.int (iI x2) :: .int (iI x1) :: st) Q := y_st hc rfl rfl id (by rw [iI_add]; exact k)
theorem y_sub {x1 x2 : Int} (hc : zcode mi pc = some (.isub, ln, a, b, w)) (k : yG x M mi (pc + 1) l (.int (iI (x1 - x2)) :: st) Q) : yG x M mi pc l (.int (iI x2) :: .int (iI x1) :: st) Q := y_st hc rfl rfl id (by rw [iI_sub]; exact k)
theorem y_mul {x1 x2 : Int} (hc : zcode mi pc = some (.imul, ln, a, b, w)) (k : yG x M mi (pc + 1) l (.int (iI (x1 * x2)) :: st) Q) : yG x M mi pc l (.int (iI x2) :: .int (iI x1) :: st) Q := y_st hc rfl rfl id (by rw [iI_mul]; exact k)
theorem y_neg {x1 : Int} (hc : zcode mi pc = some (.ineg, ln, a, b, w)) (k : yG x M mi (pc + 1) l (.int (iI (-x1)) :: st) Q) : yG x M mi pc l (.int (iI x1) :: st) Q := y_st hc rfl rfl id (by rw [iI_neg]; exact k)
theorem iI_pos {z : Int} (h0 : 0 ≤ z) (h : wR z) : ∃ n : Nat, z = (n : Int) ∧ n < 2147483648 := ⟨z.toNat, by omega, by omega⟩
theorem iI_div {x1 x2 : Int} (h1 : 0 ≤ x1) (h1r : wR x1) (h2 : 0 < x2) (h2r : wR x2) : iI x1 / iI x2 = iI (x1 / x2) := by
  obtain ⟨n, rfl, hn⟩ := iI_pos h1 h1r
  obtain ⟨m, rfl, hm⟩ := iI_pos (by omega) h2r
  rw [iI_nat, iI_nat, pk_div hn (by omega) hm, ← iI_nat]
  congr 1
theorem iI_rem {x1 x2 : Int} (h1 : 0 ≤ x1) (h1r : wR x1) (h2 : 0 < x2) (h2r : wR x2) : iI x1 - iI x1 / iI x2 * iI x2 = iI (x1 % x2) := by
  obtain ⟨n, rfl, hn⟩ := iI_pos h1 h1r
  obtain ⟨m, rfl, hm⟩ := iI_pos (by omega) h2r
  rw [iI_nat, iI_nat, pk_rem hn (by omega) hm, ← iI_nat]
  congr 1
theorem iI_ne0 {z : Int} (hz : 0 < z) (h : wR z) : ¬ iI z = 0 := fun e => by
  have := (iI_eq h (y := 0) (by omega)).mp e
  omega
theorem y_div {x1 x2 : Int} (hc : zcode mi pc = some (.idiv, ln, a, b, w)) (h1 : 0 ≤ x1) (h1r : wR x1) (h2 : 0 < x2) (h2r : wR x2) (k : yG x M mi (pc + 1) l (.int (iI (x1 / x2)) :: st) Q) : yG x M mi pc l (.int (iI x2) :: .int (iI x1) :: st) Q :=
  y_st hc rfl (by simp only [zst, if_neg (iI_ne0 h2 h2r), iI_div h1 h1r h2 h2r]) id k
theorem y_rem {x1 x2 : Int} (hc : zcode mi pc = some (.irem, ln, a, b, w)) (h1 : 0 ≤ x1) (h1r : wR x1) (h2 : 0 < x2) (h2r : wR x2) (k : yG x M mi (pc + 1) l (.int (iI (x1 % x2)) :: st) Q) : yG x M mi pc l (.int (iI x2) :: .int (iI x1) :: st) Q :=
  y_st hc rfl (by simp only [zst, if_neg (iI_ne0 h2 h2r), iI_rem h1 h1r h2 h2r]) id k
/-- whole bits -/
theorem y_ior {x1 x2 : Nat} (hc : zcode mi pc = some (.ior, ln, a, b, w)) (k : yG x M mi (pc + 1) l (.int (iI ((x1 ||| x2 : Nat) : Int)) :: st) Q) : yG x M mi pc l (.int (iI (x2 : Int)) :: .int (iI (x1 : Int)) :: st) Q :=
  y_st hc rfl (by simp only [zst]; rfl) id (by
    have e : iI (x1 : Int) ||| iI (x2 : Int) = iI ((x1 ||| x2 : Nat) : Int) := by rw [iI_nat, iI_nat, iI_nat]; exact (za_bits x1 x2).1
    rw [e]; exact k)
theorem y_iand {x1 x2 : Nat} (hc : zcode mi pc = some (.iand, ln, a, b, w)) (k : yG x M mi (pc + 1) l (.int (iI ((x1 &&& x2 : Nat) : Int)) :: st) Q) : yG x M mi pc l (.int (iI (x2 : Int)) :: .int (iI (x1 : Int)) :: st) Q :=
  y_st hc rfl (by simp only [zst]; rfl) id (by
    have e : iI (x1 : Int) &&& iI (x2 : Int) = iI ((x1 &&& x2 : Nat) : Int) := by rw [iI_nat, iI_nat, iI_nat]; exact (za_bits x1 x2).2.1
    rw [e]; exact k)
theorem y_ixor {x1 x2 : Nat} (hc : zcode mi pc = some (.ixor, ln, a, b, w)) (k : yG x M mi (pc + 1) l (.int (iI ((x1 ^^^ x2 : Nat) : Int)) :: st) Q) : yG x M mi pc l (.int (iI (x2 : Int)) :: .int (iI (x1 : Int)) :: st) Q :=
  y_st hc rfl (by simp only [zst]; rfl) id (by
    have e : iI (x1 : Int) ^^^ iI (x2 : Int) = iI ((x1 ^^^ x2 : Nat) : Int) := by rw [iI_nat, iI_nat, iI_nat]; exact (za_bits x1 x2).2.2
    rw [e]; exact k)
theorem iI_sm : ∀ n : Nat, n < 32 → ((nI n &&& 31).toBitVec.smod 32).toNat = n := by decide +kernel
theorem y_shl {x1 x2 : Nat} (hc : zcode mi pc = some (.ishl, ln, a, b, w)) (h2 : x2 < 31) (h1 : x1 * 2 ^ x2 < 2147483648) (k : yG x M mi (pc + 1) l (.int (iI ((x1 * 2 ^ x2 : Nat) : Int)) :: st) Q) : yG x M mi pc l (.int (iI (x2 : Int)) :: .int (iI (x1 : Int)) :: st) Q :=
  y_st hc rfl (by simp only [zst]; rfl) id (by
    have e : iI (x1 : Int) <<< (iI (x2 : Int) &&& 31) = iI ((x1 * 2 ^ x2 : Nat) : Int) := by
      rw [iI_nat, iI_nat, iI_nat]
      exact pk_shlN _ x2 (iI_sm x2 (by omega)) (by omega)
    rw [e]; exact k)
theorem y_shr {x1 x2 : Nat} (hc : zcode mi pc = some (.ishr, ln, a, b, w)) (h2 : x2 < 31) (h1 : x1 < 2147483648) (k : yG x M mi (pc + 1) l (.int (iI ((x1 / 2 ^ x2 : Nat) : Int)) :: st) Q) : yG x M mi pc l (.int (iI (x2 : Int)) :: .int (iI (x1 : Int)) :: st) Q :=
  y_st hc rfl (by simp only [zst]; rfl) id (by
    have e : iI (x1 : Int) >>> (iI (x2 : Int) &&& 31) = iI ((x1 / 2 ^ x2 : Nat) : Int) := by
      rw [iI_nat, iI_nat, iI_nat]
      exact pk_shrN h1 _ x2 (iI_sm x2 (by omega))
    rw [e]; exact k)
theorem y_i2l {z : Int} (hc : zcode mi pc = some (.i2l, ln, a, b, w)) (hz : wR z) (k : yG x M mi (pc + 1) l (.long (lI z) :: st) Q) : yG x M mi pc l (.int (iI z) :: st) Q :=
  y_st hc rfl rfl id (by
    have e : (iI z).toInt64 = lI z := by rw [← Int64.toInt_inj, Int32.toInt_toInt64, iI_ti hz]; unfold lI; rw [Int64.toInt_ofInt]; exact (Int.bmod_eq_of_le (by show -((18446744073709551616 : Int) / 2) ≤ z; omega) (by show z < ((18446744073709551616 : Int) + 1) / 2; omega)).symm
    rw [e]; exact k)
theorem y_l2i {z : Int64} (hc : zcode mi pc = some (.l2i, ln, a, b, w)) (k : yG x M mi (pc + 1) l (.int z.toInt32 :: st) Q) : yG x M mi pc l (.long z :: st) Q := y_st hc rfl rfl id k
theorem y_lmul {x1 x2 : Int64} (hc : zcode mi pc = some (.lmul, ln, a, b, w)) (k : yG x M mi (pc + 1) l (.long (x1 * x2) :: st) Q) : yG x M mi pc l (.long x2 :: .long x1 :: st) Q := y_st hc rfl rfl id k
theorem y_ladd {x1 x2 : Int64} (hc : zcode mi pc = some (.ladd, ln, a, b, w)) (k : yG x M mi (pc + 1) l (.long (x1 + x2) :: st) Q) : yG x M mi pc l (.long x2 :: .long x1 :: st) Q := y_st hc rfl rfl id k
theorem y_lrem {x1 x2 : Int64} (hc : zcode mi pc = some (.lrem, ln, a, b, w)) (h : ¬ x2 = 0) (k : yG x M mi (pc + 1) l (.long (x1 - x1 / x2 * x2) :: st) Q) : yG x M mi pc l (.long x2 :: .long x1 :: st) Q := y_st hc rfl (by simp only [zst, if_neg h]) id k
theorem y_lushr {x1 : Int64} {x2 : Int32} (hc : zcode mi pc = some (.lushr, ln, a, b, w)) (k : yG x M mi (pc + 1) l (.long (x1.toUInt64 >>> (x2.toInt64.toUInt64 &&& Int64.toUInt64 63)).toInt64 :: st) Q) : yG x M mi pc l (.int x2 :: .long x1 :: st) Q := y_st hc rfl rfl id k
def wcmp (x y : Int) : Int := if y < x then 1 else if x = y then 0 else -1
theorem lI_ti {z : Int} (h : wR z) : (lI z).toInt = z := by
  unfold lI
  rw [Int64.toInt_ofInt]
  exact Int.bmod_eq_of_le (by show -((18446744073709551616 : Int) / 2) ≤ z; omega) (by show z < ((18446744073709551616 : Int) + 1) / 2; omega)
theorem y_lcmp {x1 x2 : Int} (hc : zcode mi pc = some (.lcmp, ln, a, b, w)) (h1 : wR x1) (h2 : wR x2) (k : yG x M mi (pc + 1) l (.int (iI (wcmp x1 x2)) :: st) Q) : yG x M mi pc l (.long (lI x2) :: .long (lI x1) :: st) Q :=
  y_st hc rfl rfl id (by
    have e : lg_cmp (lI x1) (lI x2) = iI (wcmp x1 x2) := by
      unfold lg_cmp wcmp
      have g1 : lI x1 > lI x2 ↔ x2 < x1 := by show lI x2 < lI x1 ↔ _; rw [Int64.lt_iff_toInt_lt, lI_ti h1, lI_ti h2]
      have g2 : lI x1 = lI x2 ↔ x1 = x2 := by rw [← Int64.toInt_inj, lI_ti h1, lI_ti h2]
      simp only [g1, g2]
      split
      · rfl
      · split <;> rfl
    rw [e]; exact k)
theorem y_dup {v : Value} (hc : zcode mi pc = some (.dup, ln, a, b, w)) (hv : v.category = 1) (k : yG x M mi (pc + 1) l (v :: v :: st) Q) : yG x M mi pc l (v :: st) Q := y_st hc rfl (by simp only [zst, if_pos hv]) id k
theorem y_dup2 {v u : Value} (hc : zcode mi pc = some (.dup2, ln, a, b, w)) (hv : v.category = 1) (hu : u.category = 1) (k : yG x M mi (pc + 1) l (v :: u :: v :: u :: st) Q) : yG x M mi pc l (v :: u :: st) Q := y_st hc rfl (by simp only [zst, if_pos (And.intro hv hu)]) id k
theorem y_pop {v : Value} (hc : zcode mi pc = some (.pop, ln, a, b, w)) (hv : v.category = 1) (k : yG x M mi (pc + 1) l st Q) : yG x M mi pc l (v :: st) Q := y_st hc rfl (by simp only [zst, if_pos hv]) id k
theorem y_goto {off : Int} (hc : zcode mi pc = some (.goto off, ln, a, b, w)) (k : yG x M mi a l st Q) : yG x M mi pc l st Q := y_st hc rfl rfl id k
theorem y_ic_eq {x1 x2 : Int} {off : Int} (hc : zcode mi pc = some (.if_icmp .eq off, ln, a, b, w)) (h1 : wR x1) (h2 : wR x2) (kt : x1 = x2 → yG x M mi a l st Q) (kf : ¬ x1 = x2 → yG x M mi (pc + 3) l st Q) : yG x M mi pc l (.int (iI x2) :: .int (iI x1) :: st) Q := by
  have e := (iI_eq h1 h2)
  by_cases hq : x1 = x2
  · exact y_st (pc' := a) (l' := l) (st' := st) hc rfl (by simp only [zst]; rw [if_pos]; simp only [zcnd, Bool.not_eq_true', decide_eq_true_eq, decide_eq_false_iff_not]; first | exact e.mpr hq | exact fun g => hq (e.mp g)) id (kt hq)
  · exact y_st (pc' := pc + 3) (l' := l) (st' := st) hc rfl (by simp only [zst]; rw [if_neg]; simp only [zcnd, Bool.not_eq_true', decide_eq_true_eq, decide_eq_false_iff_not]; first | exact fun g => hq (e.mp g) | exact fun g => g (e.mpr (by omega))) id (kf (by omega))
theorem y_iz_eq {x1 : Int} {off : Int} (hc : zcode mi pc = some (.ifCond .eq off, ln, a, b, w)) (h1 : wR x1) (kt : x1 = 0 → yG x M mi a l st Q) (kf : ¬ x1 = 0 → yG x M mi (pc + 3) l st Q) : yG x M mi pc l (.int (iI x1) :: st) Q := by
  have e := (iI_eq h1 (show wR 0 by omega))
  by_cases hq : x1 = 0
  · exact y_st (pc' := a) (l' := l) (st' := st) hc rfl (by simp only [zst]; rw [if_pos]; simp only [zcnd, Bool.not_eq_true', decide_eq_true_eq, decide_eq_false_iff_not]; first | exact e.mpr hq | exact fun g => hq (e.mp g)) id (kt hq)
  · exact y_st (pc' := pc + 3) (l' := l) (st' := st) hc rfl (by simp only [zst]; rw [if_neg]; simp only [zcnd, Bool.not_eq_true', decide_eq_true_eq, decide_eq_false_iff_not]; first | exact fun g => hq (e.mp g) | exact fun g => g (e.mpr (by omega))) id (kf (by omega))
theorem y_ic_ne {x1 x2 : Int} {off : Int} (hc : zcode mi pc = some (.if_icmp .ne off, ln, a, b, w)) (h1 : wR x1) (h2 : wR x2) (kt : ¬ x1 = x2 → yG x M mi a l st Q) (kf : x1 = x2 → yG x M mi (pc + 3) l st Q) : yG x M mi pc l (.int (iI x2) :: .int (iI x1) :: st) Q := by
  have e := (iI_eq h1 h2)
  by_cases hq : ¬ x1 = x2
  · exact y_st (pc' := a) (l' := l) (st' := st) hc rfl (by simp only [zst]; rw [if_pos]; simp only [zcnd, Bool.not_eq_true', decide_eq_true_eq, decide_eq_false_iff_not]; first | exact e.mpr hq | exact fun g => hq (e.mp g)) id (kt hq)
  · exact y_st (pc' := pc + 3) (l' := l) (st' := st) hc rfl (by simp only [zst]; rw [if_neg]; simp only [zcnd, Bool.not_eq_true', decide_eq_true_eq, decide_eq_false_iff_not]; first | exact fun g => hq (e.mp g) | exact fun g => g (e.mpr (by omega))) id (kf (by omega))
theorem y_iz_ne {x1 : Int} {off : Int} (hc : zcode mi pc = some (.ifCond .ne off, ln, a, b, w)) (h1 : wR x1) (kt : ¬ x1 = 0 → yG x M mi a l st Q) (kf : x1 = 0 → yG x M mi (pc + 3) l st Q) : yG x M mi pc l (.int (iI x1) :: st) Q := by
  have e := (iI_eq h1 (show wR 0 by omega))
  by_cases hq : ¬ x1 = 0
  · exact y_st (pc' := a) (l' := l) (st' := st) hc rfl (by simp only [zst]; rw [if_pos]; simp only [zcnd, Bool.not_eq_true', decide_eq_true_eq, decide_eq_false_iff_not]; first | exact e.mpr hq | exact fun g => hq (e.mp g)) id (kt hq)
  · exact y_st (pc' := pc + 3) (l' := l) (st' := st) hc rfl (by simp only [zst]; rw [if_neg]; simp only [zcnd, Bool.not_eq_true', decide_eq_true_eq, decide_eq_false_iff_not]; first | exact fun g => hq (e.mp g) | exact fun g => g (e.mpr (by omega))) id (kf (by omega))
theorem y_ic_lt {x1 x2 : Int} {off : Int} (hc : zcode mi pc = some (.if_icmp .lt off, ln, a, b, w)) (h1 : wR x1) (h2 : wR x2) (kt : x1 < x2 → yG x M mi a l st Q) (kf : x2 ≤ x1 → yG x M mi (pc + 3) l st Q) : yG x M mi pc l (.int (iI x2) :: .int (iI x1) :: st) Q := by
  have e := (iI_lt h1 h2)
  by_cases hq : x1 < x2
  · exact y_st (pc' := a) (l' := l) (st' := st) hc rfl (by simp only [zst]; rw [if_pos]; simp only [zcnd, Bool.not_eq_true', decide_eq_true_eq, decide_eq_false_iff_not]; first | exact e.mpr hq | exact fun g => hq (e.mp g)) id (kt hq)
  · exact y_st (pc' := pc + 3) (l' := l) (st' := st) hc rfl (by simp only [zst]; rw [if_neg]; simp only [zcnd, Bool.not_eq_true', decide_eq_true_eq, decide_eq_false_iff_not]; first | exact fun g => hq (e.mp g) | exact fun g => g (e.mpr (by omega))) id (kf (by omega))
theorem y_iz_lt {x1 : Int} {off : Int} (hc : zcode mi pc = some (.ifCond .lt off, ln, a, b, w)) (h1 : wR x1) (kt : x1 < 0 → yG x M mi a l st Q) (kf : 0 ≤ x1 → yG x M mi (pc + 3) l st Q) : yG x M mi pc l (.int (iI x1) :: st) Q := by
  have e := (iI_lt h1 (show wR 0 by omega))
  by_cases hq : x1 < 0
  · exact y_st (pc' := a) (l' := l) (st' := st) hc rfl (by simp only [zst]; rw [if_pos]; simp only [zcnd, Bool.not_eq_true', decide_eq_true_eq, decide_eq_false_iff_not]; first | exact e.mpr hq | exact fun g => hq (e.mp g)) id (kt hq)
  · exact y_st (pc' := pc + 3) (l' := l) (st' := st) hc rfl (by simp only [zst]; rw [if_neg]; simp only [zcnd, Bool.not_eq_true', decide_eq_true_eq, decide_eq_false_iff_not]; first | exact fun g => hq (e.mp g) | exact fun g => g (e.mpr (by omega))) id (kf (by omega))
theorem y_ic_ge {x1 x2 : Int} {off : Int} (hc : zcode mi pc = some (.if_icmp .ge off, ln, a, b, w)) (h1 : wR x1) (h2 : wR x2) (kt : x2 ≤ x1 → yG x M mi a l st Q) (kf : x1 < x2 → yG x M mi (pc + 3) l st Q) : yG x M mi pc l (.int (iI x2) :: .int (iI x1) :: st) Q := by
  have e := (iI_le h2 h1)
  by_cases hq : x2 ≤ x1
  · exact y_st (pc' := a) (l' := l) (st' := st) hc rfl (by simp only [zst]; rw [if_pos]; simp only [zcnd, Bool.not_eq_true', decide_eq_true_eq, decide_eq_false_iff_not]; first | exact e.mpr hq | exact fun g => hq (e.mp g)) id (kt hq)
  · exact y_st (pc' := pc + 3) (l' := l) (st' := st) hc rfl (by simp only [zst]; rw [if_neg]; simp only [zcnd, Bool.not_eq_true', decide_eq_true_eq, decide_eq_false_iff_not]; first | exact fun g => hq (e.mp g) | exact fun g => g (e.mpr (by omega))) id (kf (by omega))
theorem y_iz_ge {x1 : Int} {off : Int} (hc : zcode mi pc = some (.ifCond .ge off, ln, a, b, w)) (h1 : wR x1) (kt : 0 ≤ x1 → yG x M mi a l st Q) (kf : x1 < 0 → yG x M mi (pc + 3) l st Q) : yG x M mi pc l (.int (iI x1) :: st) Q := by
  have e := (iI_le (show wR 0 by omega) h1)
  by_cases hq : 0 ≤ x1
  · exact y_st (pc' := a) (l' := l) (st' := st) hc rfl (by simp only [zst]; rw [if_pos]; simp only [zcnd, Bool.not_eq_true', decide_eq_true_eq, decide_eq_false_iff_not]; first | exact e.mpr hq | exact fun g => hq (e.mp g)) id (kt hq)
  · exact y_st (pc' := pc + 3) (l' := l) (st' := st) hc rfl (by simp only [zst]; rw [if_neg]; simp only [zcnd, Bool.not_eq_true', decide_eq_true_eq, decide_eq_false_iff_not]; first | exact fun g => hq (e.mp g) | exact fun g => g (e.mpr (by omega))) id (kf (by omega))
theorem y_ic_gt {x1 x2 : Int} {off : Int} (hc : zcode mi pc = some (.if_icmp .gt off, ln, a, b, w)) (h1 : wR x1) (h2 : wR x2) (kt : x2 < x1 → yG x M mi a l st Q) (kf : x1 ≤ x2 → yG x M mi (pc + 3) l st Q) : yG x M mi pc l (.int (iI x2) :: .int (iI x1) :: st) Q := by
  have e := (iI_lt h2 h1)
  by_cases hq : x2 < x1
  · exact y_st (pc' := a) (l' := l) (st' := st) hc rfl (by simp only [zst]; rw [if_pos]; simp only [zcnd, Bool.not_eq_true', decide_eq_true_eq, decide_eq_false_iff_not]; first | exact e.mpr hq | exact fun g => hq (e.mp g)) id (kt hq)
  · exact y_st (pc' := pc + 3) (l' := l) (st' := st) hc rfl (by simp only [zst]; rw [if_neg]; simp only [zcnd, Bool.not_eq_true', decide_eq_true_eq, decide_eq_false_iff_not]; first | exact fun g => hq (e.mp g) | exact fun g => g (e.mpr (by omega))) id (kf (by omega))
theorem y_iz_gt {x1 : Int} {off : Int} (hc : zcode mi pc = some (.ifCond .gt off, ln, a, b, w)) (h1 : wR x1) (kt : 0 < x1 → yG x M mi a l st Q) (kf : x1 ≤ 0 → yG x M mi (pc + 3) l st Q) : yG x M mi pc l (.int (iI x1) :: st) Q := by
  have e := (iI_lt (show wR 0 by omega) h1)
  by_cases hq : 0 < x1
  · exact y_st (pc' := a) (l' := l) (st' := st) hc rfl (by simp only [zst]; rw [if_pos]; simp only [zcnd, Bool.not_eq_true', decide_eq_true_eq, decide_eq_false_iff_not]; first | exact e.mpr hq | exact fun g => hq (e.mp g)) id (kt hq)
  · exact y_st (pc' := pc + 3) (l' := l) (st' := st) hc rfl (by simp only [zst]; rw [if_neg]; simp only [zcnd, Bool.not_eq_true', decide_eq_true_eq, decide_eq_false_iff_not]; first | exact fun g => hq (e.mp g) | exact fun g => g (e.mpr (by omega))) id (kf (by omega))
theorem y_ic_le {x1 x2 : Int} {off : Int} (hc : zcode mi pc = some (.if_icmp .le off, ln, a, b, w)) (h1 : wR x1) (h2 : wR x2) (kt : x1 ≤ x2 → yG x M mi a l st Q) (kf : x2 < x1 → yG x M mi (pc + 3) l st Q) : yG x M mi pc l (.int (iI x2) :: .int (iI x1) :: st) Q := by
  have e := (iI_le h1 h2)
  by_cases hq : x1 ≤ x2
  · exact y_st (pc' := a) (l' := l) (st' := st) hc rfl (by simp only [zst]; rw [if_pos]; simp only [zcnd, Bool.not_eq_true', decide_eq_true_eq, decide_eq_false_iff_not]; first | exact e.mpr hq | exact fun g => hq (e.mp g)) id (kt hq)
  · exact y_st (pc' := pc + 3) (l' := l) (st' := st) hc rfl (by simp only [zst]; rw [if_neg]; simp only [zcnd, Bool.not_eq_true', decide_eq_true_eq, decide_eq_false_iff_not]; first | exact fun g => hq (e.mp g) | exact fun g => g (e.mpr (by omega))) id (kf (by omega))
theorem y_iz_le {x1 : Int} {off : Int} (hc : zcode mi pc = some (.ifCond .le off, ln, a, b, w)) (h1 : wR x1) (kt : x1 ≤ 0 → yG x M mi a l st Q) (kf : 0 < x1 → yG x M mi (pc + 3) l st Q) : yG x M mi pc l (.int (iI x1) :: st) Q := by
  have e := (iI_le h1 (show wR 0 by omega))
  by_cases hq : x1 ≤ 0
  · exact y_st (pc' := a) (l' := l) (st' := st) hc rfl (by simp only [zst]; rw [if_pos]; simp only [zcnd, Bool.not_eq_true', decide_eq_true_eq, decide_eq_false_iff_not]; first | exact e.mpr hq | exact fun g => hq (e.mp g)) id (kt hq)
  · exact y_st (pc' := pc + 3) (l' := l) (st' := st) hc rfl (by simp only [zst]; rw [if_neg]; simp only [zcnd, Bool.not_eq_true', decide_eq_true_eq, decide_eq_false_iff_not]; first | exact fun g => hq (e.mp g) | exact fun g => g (e.mpr (by omega))) id (kf (by omega))
theorem y_nul_r {off : Int} {o : Nat} (hc : zcode mi pc = some (.ifnull off, ln, a, b, w)) (k : yG x M mi (pc + 3) l st Q) : yG x M mi pc l (.ref o :: st) Q := y_st hc rfl rfl id k
theorem y_nul_n {off : Int} (hc : zcode mi pc = some (.ifnull off, ln, a, b, w)) (k : yG x M mi a l st Q) : yG x M mi pc l (.null :: st) Q := y_st hc rfl rfl id k
theorem y_nn_r {off : Int} {o : Nat} (hc : zcode mi pc = some (.ifnonnull off, ln, a, b, w)) (k : yG x M mi a l st Q) : yG x M mi pc l (.ref o :: st) Q := y_st hc rfl rfl id k
theorem y_nn_n {off : Int} (hc : zcode mi pc = some (.ifnonnull off, ln, a, b, w)) (k : yG x M mi (pc + 3) l st Q) : yG x M mi pc l (.null :: st) Q := y_st hc rfl rfl id k
theorem y_ts {d lo hi : Int} {offs : Array Int} {z off : Int} (t : Nat) (hc : zcode mi pc = some (.tableswitch d lo hi offs, ln, a, b, w)) (hz : wR z) (h1 : ¬ z < lo) (h2 : ¬ hi < z) (ho : offs[(z - lo).toNat]? = some off) (ht : zjmp pc off = some t) (k : yG x M mi t l st Q) : yG x M mi pc l (.int (iI z) :: st) Q :=
  y_st (pc' := t) (l' := l) (st' := st) hc rfl (by simp only [zst, iI_ti hz, ho, ht, if_neg (not_or.mpr ⟨h1, h2⟩)]) id k
theorem y_td {d lo hi : Int} {offs : Array Int} {z : Int} (t : Nat) (hc : zcode mi pc = some (.tableswitch d lo hi offs, ln, a, b, w)) (hz : wR z) (h1 : z < lo ∨ hi < z) (ht : zjmp pc d = some t) (k : yG x M mi t l st Q) : yG x M mi pc l (.int (iI z) :: st) Q :=
  y_st (pc' := t) (l' := l) (st' := st) hc rfl (by simp only [zst, iI_ti hz, ht, if_pos h1]) id k
theorem y_lk {d : Int} {ps : Array (Int × Int)} {z off : Int} (t : Nat) (hc : zcode mi pc = some (.lookupswitch d ps, ln, a, b, w)) (hz : wR z) (ho : Op.lookupswitch.offset ps.toList d z = off) (ht : zjmp pc off = some t) (k : yG x M mi t l st Q) : yG x M mi pc l (.int (iI z) :: st) Q :=
  y_st (pc' := t) (l' := l) (st' := st) hc rfl (by simp only [zst, iI_ti hz, ho, ht]) id k
/-! fields and arrays -/
theorem y_get {q o c : Nat} (hc : zcode mi pc = some (.getfield q, ln, a, b, w)) (hw : wch o a b = c) (h9 : c < 9999) (k : yG x M mi (pc + 3) l (wv x M o b c :: st) Q) : yG x M mi pc l (.ref o :: st) Q := by
  obtain ⟨s, h1, h2, h3, h4⟩ := wch_get x M hw h9
  exact y_st (pc' := pc + 3) (l' := l) (st' := wv x M o b c :: st) hc rfl (by simp only [zst, h2, h3, if_true]) id k
theorem y_gi {q o : Nat} (hc : zcode mi pc = some (.getfield q, ln, a, b, w)) (hw : wch o a b = 0) (k : wR (M o b) → yG x M mi (pc + 3) l (.int (iI (M o b)) :: st) Q) : yG x M mi pc l (.ref o :: st) Q :=
  y_rng fun hM => y_get hc hw (by omega) (k (hM o b))
theorem y_gr {q o : Nat} (c : Nat) (hc : zcode mi pc = some (.getfield q, ln, a, b, w)) (hw : wch o a b = c + 2) (hl : c < 900) (k : yG x M mi (pc + 3) l (.ref c :: st) Q) : yG x M mi pc l (.ref o :: st) Q :=
  y_get hc hw (by omega) (by
    have e : wv x M o b (c + 2) = .ref c := by
      unfold wv
      rw [if_neg (by omega), if_neg (by omega), if_neg (by omega), if_neg (by omega), if_neg (by omega)]
      rfl
    rw [e]; exact k)
theorem y_gp {q o : Nat} (hc : zcode mi pc = some (.getfield q, ln, a, b, w)) (hw : wch o a b = 1000) (k : yG x M mi (pc + 3) l (.ref x.2.1 :: st) Q) : yG x M mi pc l (.ref o :: st) Q := y_get hc hw (by omega) k
theorem y_gd {q o : Nat} (hc : zcode mi pc = some (.getfield q, ln, a, b, w)) (hw : wch o a b = 1001) (k : yG x M mi (pc + 3) l (.ref x.2.2 :: st) Q) : yG x M mi pc l (.ref o :: st) Q := y_get hc hw (by omega) k
theorem y_gl {q o : Nat} (hc : zcode mi pc = some (.getfield q, ln, a, b, w)) (hw : wch o a b = 1) (k : yG x M mi (pc + 3) l (.long (x.1 o) :: st) Q) : yG x M mi pc l (.ref o :: st) Q := y_get hc hw (by omega) k
theorem y_gc {q o c : Nat} (hc : zcode mi pc = some (.getfield q, ln, a, b, w)) (hw : wch o a b = 2000 + c) (hl : c < 7000) (k : yG x M mi (pc + 3) l (.int (iI (c : Int)) :: st) Q) : yG x M mi pc l (.ref o :: st) Q :=
  y_get hc hw (by omega) (by
    have e : wv x M o b (2000 + c) = .int (iI (c : Int)) := by
      unfold wv
      rw [if_neg (by omega), if_neg (by omega), if_neg (by omega), if_neg (by omega), if_pos (by omega), Nat.add_sub_cancel_left]
    rw [e]; exact k)
theorem y_pi {q o : Nat} {z : Int} (hc : zcode mi pc = some (.putfield q, ln, a, b, w)) (hw : wch o a b = 0) (ht : zcY a b = .int) (hz : wR z) (k : yG x (wup M o b z) mi (pc + 3) l st Q) : yG x M mi pc l (.int (iI z) :: .ref o :: st) Q := by
  obtain ⟨s, h1, h2, h3, h4⟩ := wch_get x M hw (by omega)
  have hl := (List.getElem?_eq_some_iff.mp h3).1
  refine y_st (pc' := pc + 3) (l' := l) (st' := st) (x' := x) (M' := wup M o b z) hc rfl ?_ (fun hM => wRM_up hM o b hz) k
  simp only [zst, h2, ht]
  rw [if_pos ⟨trivial, hl, rfl, rfl⟩, wW_put x M h1 h4 z]
theorem y_ald {n o : Nat} {z : Int} (hc : zcode mi pc = some (.iaload, ln, a, b, w)) (hw : war o = (0, n)) (h0 : 0 ≤ z) (h1 : z < n) (hz : wR z) (k : wR (M o z) → yG x M mi (pc + 1) l (.int (iI (M o z)) :: st) Q) : yG x M mi pc l (.int (iI z) :: .ref o :: st) Q := by
  obtain ⟨s, g1, g2⟩ := war_get x M hw (by omega)
  refine y_rng fun hM => y_st (pc' := pc + 1) (l' := l) (st' := .int (iI (M o z)) :: st) (x' := x) (M' := M) hc rfl ?_ id (k (hM o z))
  simp only [zst, g2, iI_zin h0 h1 hz, if_true, iI_clamp h0 hz]
  rw [Int.toNat_of_nonneg h0]
theorem y_bld {n o : Nat} {z : Int} (hc : zcode mi pc = some (.baload, ln, a, b, w)) (hw : war o = (1, n)) (h0 : 0 ≤ z) (h1 : z < n) (hz : wR z) (k : wR (M o z) → yG x M mi (pc + 1) l (.int (iI (M o z)) :: st) Q) : yG x M mi pc l (.int (iI z) :: .ref o :: st) Q := by
  obtain ⟨s, g1, g2⟩ := war_get x M hw (by omega)
  refine y_rng fun hM => y_st (pc' := pc + 1) (l' := l) (st' := .int (iI (M o z)) :: st) (x' := x) (M' := M) hc rfl ?_ id (k (hM o z))
  simp only [zst, g2, iI_zin h0 h1 hz, if_true, iI_clamp h0 hz]
  rw [Int.toNat_of_nonneg h0]
theorem y_ast {n o : Nat} {z v : Int} (hc : zcode mi pc = some (.iastore, ln, a, b, w)) (hw : war o = (0, n)) (h0 : 0 ≤ z) (h1 : z < n) (hz : wR z) (hv : wR v) (k : yG x (wup M o z v) mi (pc + 1) l st Q) : yG x M mi pc l (.int (iI v) :: .int (iI z) :: .ref o :: st) Q := by
  obtain ⟨s, g1, g2⟩ := war_get x M hw (by omega)
  refine y_st (pc' := pc + 1) (l' := l) (st' := st) (x' := x) (M' := wup M o z v) hc rfl ?_ (fun hM => wRM_up hM o z hv) k
  simp only [zst, g2, iI_zin h0 h1 hz, if_true, iI_clamp h0 hz]
  rw [wW_sto x M g1 (by omega) z.toNat v, Int.toNat_of_nonneg h0]
theorem y_bst {n o : Nat} {z v : Int} (hc : zcode mi pc = some (.bastore, ln, a, b, w)) (hw : war o = (1, n)) (h0 : 0 ≤ z) (h1 : z < n) (hz : wR z) (hv : v = 0 ∨ v = 1) (k : yG x (wup M o z v) mi (pc + 1) l st Q) : yG x M mi pc l (.int (iI v) :: .int (iI z) :: .ref o :: st) Q := by
  obtain ⟨s, g1, g2⟩ := war_get x M hw (by omega)
  refine y_st (pc' := pc + 1) (l' := l) (st' := st) (x' := x) (M' := wup M o z v) hc rfl ?_ (fun hM => wRM_up hM o z (by omega)) k
  have e : vp_nar .boolean (iI v) = iI v := by rcases hv with rfl | rfl <;> rfl
  simp only [zst, g2, iI_zin h0 h1 hz, if_true, iI_clamp h0 hz, e]
  rw [wW_sto x M g1 (by omega) z.toNat v, Int.toNat_of_nonneg h0]
theorem y_len {t n o : Nat} (hc : zcode mi pc = some (.arraylength, ln, a, b, w)) (hw : war o = (t, n)) (ht : t < 2) (k : yG x M mi (pc + 1) l (.int (iI (n : Int)) :: st) Q) : yG x M mi pc l (.ref o :: st) Q := by
  obtain ⟨s, g1, g2⟩ := war_get x M hw ht
  refine y_st (pc' := pc + 1) (l' := l) (st' := .int (iI (n : Int)) :: st) (x' := x) (M' := M) hc rfl ?_ id k
  simp only [zst, g2, iI_nat, nI]
theorem y_max {x1 x2 : Int} {q : Nat} (hc : zcode mi pc = some (.invokestatic q, ln, a, 3, w)) (hs : zcats st ≤ 8) (h1 : wR x1) (h2 : wR x2) (k : yG x M mi (pc + 3) l (.int (iI (if x1 < x2 then x2 else x1)) :: st) Q) : yG x M mi pc l (.int (iI x2) :: .int (iI x1) :: st) Q :=
  y_st (pc' := pc + 3) (l' := l) (st' := .int (iI (if x1 < x2 then x2 else x1)) :: st) (x' := x) (M' := M) hc rfl (by
    simp only [zst, hs, if_true, iI_lt h1 h2]
    split <;> rfl) id k
theorem y_min {x1 x2 : Int} {q : Nat} (hc : zcode mi pc = some (.invokestatic q, ln, a, 4, w)) (hs : zcats st ≤ 8) (h1 : wR x1) (h2 : wR x2) (k : yG x M mi (pc + 3) l (.int (iI (if x2 < x1 then x2 else x1)) :: st) Q) : yG x M mi pc l (.int (iI x2) :: .int (iI x1) :: st) Q :=
  y_st (pc' := pc + 3) (l' := l) (st' := .int (iI (if x2 < x1 then x2 else x1)) :: st) (x' := x) (M' := M) hc rfl (by
    simp only [zst, hs, if_true, iI_lt h2 h1]
    simp only [show ¬ (4 = 3) by omega, if_false]
    split <;> rfl) id k
end Y
end
